/-! THE MAKERS, RUN -/
def rck (r : Option zR) (f : Nat → Nat → zM → Bool) : Bool := match r with
  | some (0, none, c, s, ν) => f c s ν
  | _ => false
theorem rck_ex {r : Option zR} {f : Nat → Nat → zM → Bool} (h : rck r f = true) : ∃ c s ν, r = some (0, none, c, s, ν) ∧ f c s ν = true := by
  unfold rck at h
  split at h
  · exact ⟨_, _, _, rfl, h⟩
  · cases h
def rT0 : zE := (9, [0, 0, 0, 0], List.replicate 16 none, [])
def rTN : List Nat := [6, 36, 36, 6, 20, 20, 20, 20, 6, 6, 6, 6, 12, 12, 72, 1440]
def rTold : zM := (9, [0, 0, 0, 0], (List.range 16).map (fun k => some (k + 1)), []) :: rTN.map (fun n => (20, List.replicate n 0, [], []))
theorem run_told : rck (rden zcds 200 10 183 [.ref 0] [rT0]) (fun c s ν => c == 16 && s == 1724 && decide (ν = rTold)) = true := by decide +kernel
theorem run_post0 : rck (rden zcds 3000 6 0 [.ref 0] [(0, [0], [none, none, none], [])]) (fun c s ν => c == 179) = true := by decide +kernel
theorem run_model0 : rck (rden zcds 3000 6 123 [.ref 0] [(8, [0, 0, 0, 0], List.replicate 9 none, [])]) (fun c s ν => c == 66) = true := by decide +kernel
