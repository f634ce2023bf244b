/-! AHEAD OF THE FIRST CALL -/
def zSv0 : zFn := fun j k => if j = 0 ∧ k = 2 then -1 else 0
theorem gi_3 (k : Nat) : ([0, 0, -1] : List Int32).getD k 0 = if k = 2 then -1 else 0 := by
  rcases k with _ | _ | _ | k <;> first | rfl | (rw [if_neg (by omega)]; rfl)
theorem gi_4 (k : Nat) : ([0, 0, -1, 0] : List Int32).getD k 0 = if k = 2 then -1 else 0 := by
  rcases k with _ | _ | _ | _ | k <;> first | rfl | (rw [if_neg (by omega)]; rfl)
section ZFB
variable {xs : List Int32} {ν1 ν2 : zM}
theorem b_gi2 (h1 : ν1.length = 180) (h2 : ν2.length = 67) {k : Nat} (hk : k < 67) (i : Nat) : zgi (zM3 xs ν1 ν2) (262 + k) i = (zen ν2 k).2.1.getD i 0 := by
  unfold zgi
  rw [b_n2 h1 h2 hk]
  rfl
theorem b_I5 (hx : xs.length ≤ 3072) (p1 : rPost1 ν1) (p2 : rPost2 ν1) (p3 : rPost3 ν1) (p4 : rWS ν1 10) (p5 : rWS ν1 95) (m : rModel ν2) : zI5 (zM3 xs ν1 ν2) (zgi (zM3 xs ν1 ν2)) xs.length (fun j => xs.getD j 0) 92 177 268 (fun _ _ _ => 0) (fun _ _ _ => 0) (fun _ _ => 0) zSv0 zSv0 zSv0 (fun _ _ => 0) := by
  obtain ⟨h1, q0, q1⟩ := p1
  obtain ⟨r1, r2, r4⟩ := p2
  obtain ⟨h2, m0, f0, f6, g6, f23, g23, x23, f45, g45, x45, i23, i45, mz⟩ := m
  have e0 : zen (zM3 xs ν1 ν2) 82 = (0, [-1], [some 83, some 92, some 177], []) := (b_n1 h1 h2 (k := 0) (by decide)).trans (by rw [q0]; rfl)
  have e3 : (zen (zM3 xs ν1 ν2) 83).2.2.1 = [some 84, some 89, some 90, some 91] := by
    rw [show (83 : Nat) = 82 + 1 from rfl, b_n1 h1 h2 (by decide)]
    show List.map _ (zen ν1 1).2.2.1 = _
    rw [r1]
    rfl
  have e4 : (zen (zM3 xs ν1 ν2) 84).2.2.1 = [some 85, some 86, some 87, some 88] := by
    rw [show (84 : Nat) = 82 + 2 from rfl, b_n1 h1 h2 (by decide)]
    show List.map _ (zen ν1 2).2.2.1 = _
    rw [r2]
    rfl
  have e6 : zen (zM3 xs ν1 ν2) 86 = (23, [], List.replicate 401 none, []) := by
    rw [show (86 : Nat) = 82 + 4 from rfl, b_n1 h1 h2 (by decide), r4]
    unfold rshE
    rw [List.map_replicate]
    rfl
  have e9 : zen (zM3 xs ν1 ν2) 262 = (8, [0, 0, -1, 0], [some 263, some 264, some 265, some 266, some 267, some 268, some 268, some 285, some 307], []) := (b_n2 h1 h2 (k := 0) (by decide)).trans (by rw [m0]; rfl)
  have F83 : zFS (zM3 xs ν1 ν2) 83 [1, 2, 21, 23, 20, 20, 20, 20, 20] [6, 2, 2000, 0, 401, 401, 6, 20, 12] := b_FS1 h1 h2 q1 (by decide)
  have F84 : zFS (zM3 xs ν1 ν2) 84 [2, 21, 23, 20, 20] [2, 2000, 0, 401, 401] := by
    refine ⟨by decide, fun j hj => ?_⟩
    have hj : j < 5 := hj
    have hc : j = 0 ∨ j = 1 ∨ j = 2 ∨ j = 3 ∨ j = 4 := by omega
    rcases hc with rfl | rfl | rfl | rfl | rfl
    · exact F83.2 1 (by decide)
    · exact F83.2 2 (by decide)
    · exact F83.2 3 (by decide)
    · exact F83.2 4 (by decide)
    · exact F83.2 5 (by decide)
  have T84 : zTP (zM3 xs ν1 ν2) 84 := ⟨F84, by unfold zgr; rw [show (84 + 0 : Nat) = 84 from rfl, e4]; rfl, by unfold zgr; rw [show (84 + 0 : Nat) = 84 from rfl, e4]; rfl, by unfold zgr; rw [show (84 + 0 : Nat) = 84 from rfl, e4]; rfl, by unfold zgr; rw [show (84 + 0 : Nat) = 84 from rfl, e4]; rfl, by unfold znr; rw [show (84 + 2 : Nat) = 86 from rfl, e6]; exact List.length_replicate⟩
  have RR : zRR (zM3 xs ν1 ν2) 83 := ⟨F83, by unfold zgr; rw [show (83 + 0 : Nat) = 83 from rfl, e3]; rfl, by unfold zgr; rw [show (83 + 0 : Nat) = 83 from rfl, e3]; rfl, by unfold zgr; rw [show (83 + 0 : Nat) = 83 from rfl, e3]; rfl, by unfold zgr; rw [show (83 + 0 : Nat) = 83 from rfl, e3]; rfl, T84⟩
  have W1 : zWS (zM3 xs ν1 ν2) 92 := b_WS h1 h2 (by decide) p4
  have W2 : zWS (zM3 xs ν1 ν2) 177 := b_WS h1 h2 (by decide) p5
  have LC : zLC (zM3 xs ν1 ν2) 82 83 92 177 := ⟨by decide, by unfold ztg; rw [show (82 + 0 : Nat) = 82 from rfl, e0], by unfold zni; rw [show (82 + 0 : Nat) = 82 from rfl, e0]; rfl, by unfold zgr; rw [show (82 + 0 : Nat) = 82 from rfl, e0]; rfl, by unfold zgr; rw [show (82 + 0 : Nat) = 82 from rfl, e0]; rfl, by unfold zgr; rw [show (82 + 0 : Nat) = 82 from rfl, e0]; rfl, W1, W2, by decide, F83.tag (j := 0) (by decide) rfl, by unfold zgr; rw [show (83 + 0 : Nat) = 83 from rfl, e3]; rfl, F83.tag (j := 1) (by decide) rfl, F83.ni (j := 1) (by decide) rfl, by decide, by decide, by decide⟩
  have MX : zMX (zM3 xs ν1 ν2) 262 := ⟨b_FS2 h1 h2 f0 (by decide), fun k hk => by
    unfold zgr
    rw [show (262 + 0 : Nat) = 262 from rfl, e9]
    exact (by decide : ∀ k, k < 5 → ([some 263, some 264, some 265, some 266, some 267, some 268, some 268, some 285, some 307] : List (Option Nat)).getD k none = some (262 + (k + 1))) k hk⟩
  have X5 : ∀ {k v : Nat}, ([some 263, some 264, some 265, some 266, some 267, some 268, some 268, some 285, some 307] : List (Option Nat)).getD k none = some v → zgr (zM3 xs ν1 ν2) (262 + 0) k = some v := fun hh => by
    unfold zgr
    rw [show (262 + 0 : Nat) = 262 from rfl, e9]
    exact hh
  have X8 : ztg (zM3 xs ν1 ν2) (262 + 0) = 8 := by
    unfold ztg
    rw [show (262 + 0 : Nat) = 262 from rfl, e9]
  have FT : zFS (zM3 xs ν1 ν2) 268 _ _ := b_FS2 h1 h2 f6 (by decide)
  have GT : ∀ k, k < 16 → zgr (zM3 xs ν1 ν2) (268 + 0) k = some (268 + (k + 1)) := fun k hk => (b_gr2 h1 h2 (b := 6) (by decide) (g6 k hk)).trans (by rw [← Nat.add_assoc])
  have FS : zFS (zM3 xs ν1 ν2) 285 _ _ := b_FS2 h1 h2 f23 (by decide)
  have GS : ∀ k, k < 21 → zgr (zM3 xs ν1 ν2) (285 + 0) k = some (285 + (k + 1)) := fun k hk => (b_gr2 h1 h2 (b := 23) (by decide) (g23 k hk)).trans (by rw [← Nat.add_assoc])
  have FA : zFS (zM3 xs ν1 ν2) 307 _ _ := b_FS2 h1 h2 f45 (by decide)
  have GA : ∀ k, k < 21 → zgr (zM3 xs ν1 ν2) (307 + 0) k = some (307 + (k + 1)) := fun k hk => (b_gr2 h1 h2 (b := 45) (by decide) (g45 k hk)).trans (by rw [← Nat.add_assoc])
  have z2 : ∀ k i, k < 67 → k ≠ 0 → k ≠ 23 → k ≠ 45 → zgi (zM3 xs ν1 ν2) (262 + k) i = 0 := fun k i hk a b c => by
    rw [b_gi2 h1 h2 hk]
    exact gi_all (((mz k hk).resolve_left a).resolve_left b |>.resolve_left c) i
  have MC : zMC (zM3 xs ν1 ν2) 262 268 285 307 (zgi (zM3 xs ν1 ν2)) (fun _ _ => 0) := by
    refine ⟨MX, X5 rfl, X5 rfl, X5 rfl, fun J hJ => ⟨FS, GS, b_gr2 h1 h2 (b := 23) (by decide) x23, FT, GT, X8, X5 rfl, by decide, hJ⟩, fun J hJ => ⟨FA, GA, b_gr2 h1 h2 (b := 45) (by decide) x45, FT, GT, X8, X5 rfl, by decide, hJ⟩, fun j k hj => ?_, by decide, by decide, by decide⟩
    have := z2 (6 + j) k (by omega) (by omega) (by omega) (by omega)
    rw [← Nat.add_assoc] at this
    exact this
  have e81 := b_81 (xs := xs) h1 h2
  refine ⟨Or.inl ⟨rfl, rfl⟩, Or.inl rfl, by rw [b_len h1 h2]; decide, LC, by unfold znr; rw [show (82 + 0 : Nat) = 82 from rfl, e0]; rfl, RR, ⟨fun _ => 20, e6.trans (by decide +kernel)⟩, zKS_c1 zKS_0 (fun a ha => b_low h1 h2 ha) (fun a k ha => by unfold zgi; rw [b_low h1 h2 ha]), by unfold znr; rw [show (262 + 0 : Nat) = 262 from rfl, e9]; rfl, zMS_c1 zMS_0 (fun a ha => b_low h1 h2 ha) (fun a k ha => by unfold zgi; rw [b_low h1 h2 ha]), MC, ⟨by unfold ztg; rw [b_n3 h1 h2], by unfold znl; rw [b_n3 h1 h2]; rfl⟩, ⟨by unfold ztg; rw [e81], by unfold zni; rw [e81], by omega, fun j hj => by unfold zgi; rw [e81]⟩, fun o k ho => ?_, fun o k ho => ?_, fun j k hj => ?_, fun j k hj => ?_, fun j k hj => ?_, fun j k hj => ?_⟩
  · have := b_g1 (xs := xs) h1 h2 p3 (k := 10 + o) (by omega) (by omega) k
    rw [← Nat.add_assoc] at this
    exact this
  · have := b_g1 (xs := xs) h1 h2 p3 (k := 95 + o) (by omega) (by omega) k
    rw [← Nat.add_assoc] at this
    exact this
  · by_cases h0 : j = 0
    · subst h0
      have := b_gi2 (xs := xs) h1 h2 (k := 23) (by decide) k
      rw [i23, gi_3] at this
      refine this.trans ?_
      unfold zSv0
      by_cases hk : k = 2
      · rw [if_pos hk, if_pos ⟨rfl, hk⟩]
      · rw [if_neg hk, if_neg (fun q => hk q.2)]
    · have := z2 (23 + j) k (by omega) (by omega) (by omega) (by omega)
      rw [← Nat.add_assoc] at this
      refine this.trans ?_
      unfold zSv0
      rw [if_neg (fun q => h0 q.1)]
  · by_cases h0 : j = 0
    · subst h0
      have := b_gi2 (xs := xs) h1 h2 (k := 45) (by decide) k
      rw [i45, gi_3] at this
      refine this.trans ?_
      unfold zSv0
      by_cases hk : k = 2
      · rw [if_pos hk, if_pos ⟨rfl, hk⟩]
      · rw [if_neg hk, if_neg (fun q => hk q.2)]
    · have := z2 (45 + j) k (by omega) (by omega) (by omega) (by omega)
      rw [← Nat.add_assoc] at this
      refine this.trans ?_
      unfold zSv0
      rw [if_neg (fun q => h0 q.1)]
  · by_cases h0 : j = 0
    · subst h0
      have := b_gi2 (xs := xs) h1 h2 (k := 0) (by decide) k
      rw [m0] at this
      refine this.trans ((gi_4 k).trans ?_)
      unfold zSv0
      by_cases hk : k = 2
      · rw [if_pos hk, if_pos ⟨rfl, hk⟩]
      · rw [if_neg hk, if_neg (fun q => hk q.2)]
    · have := z2 j k (by omega) (by omega) (by omega) (by omega)
      refine this.trans ?_
      unfold zSv0
      rw [if_neg (fun q => h0 q.1)]
  · have := b_g1 (xs := xs) h1 h2 p3 (k := 2 + j) (by omega) (by omega) k
    rw [← Nat.add_assoc] at this
    exact this
theorem b_Q5 : zQ5 (-1) (fun _ _ _ => 0) (fun _ _ _ => 0) (fun _ _ => 0) zSv0 zSv0 (fun _ _ => 0) 0 0 0 0 0 := by
  have hz : ∀ n, 0 < n → n < 2 ^ 31 → zix 0 n := fun n h1 h2 => zin_nI (j := 0) h1 h2
  have hS : ∀ j k, j ≠ 0 → zSv0 j k = 0 := fun j k hj => if_neg (fun q => hj q.1)
  refine ⟨⟨⟨⟨rfl, by decide, rfl, by decide, rfl, by decide, rfl, by decide⟩, ⟨rfl, rfl, rfl, rfl⟩, fun i hi => absurd hi (Nat.not_lt_zero _), fun i hi => absurd hi (Nat.not_lt_zero _), fun i hi => absurd hi (Nat.not_lt_zero _), fun i hi => absurd hi (Nat.not_lt_zero _)⟩, ⟨rfl, rfl, fun i hi => absurd hi (Nat.not_lt_zero _)⟩, fun i hi => absurd hi (Nat.not_lt_zero _), fun i hi => absurd hi (Nat.not_lt_zero _), fun i hi => absurd hi (Nat.not_lt_zero _), fun i hi => absurd hi (Nat.not_lt_zero _)⟩, ⟨fun p hp => ⟨hz _ (by decide) (by decide), ?_, ?_⟩, fun k hk => ⟨hz _ (by decide) (by decide), ?_⟩, fun k hk => ⟨0, 0, rfl, ?_, by decide, by decide⟩, fun i hi => hz _ (by decide) (by decide), fun i hi => hz _ (by decide) (by decide)⟩, rfl, fun k hk j hj => ⟨0, by decide, rfl⟩, fun k hk j hj => ⟨0, by decide, rfl⟩, fun j hj => ⟨0, by decide, rfl⟩, ⟨rfl, rfl, by decide, fun a ha => absurd ha (Nat.not_lt_zero _)⟩, rfl⟩
  · rw [hS 5 p (by decide)]
    exact hz _ (by decide) (by decide)
  · rw [hS 11 p (by decide)]
    exact hz _ (by decide) (by decide)
  · rw [hS 3 k (by decide)]
    exact hz _ (by decide) (by decide)
  · exact hS 18 k (by decide)
theorem b_INV (hx : xs.length ≤ 3072) (p1 : rPost1 ν1) (p2 : rPost2 ν1) (p3 : rPost3 ν1) (p4 : rWS ν1 10) (p5 : rWS ν1 95) (m : rModel ν2) : zINV (zM3 xs ν1 ν2) (zgi (zM3 xs ν1 ν2)) xs.length (fun j => xs.getD j 0) := by
  have h := b_I5 (xs := xs) hx p1 p2 p3 p4 p5 m
  refine ⟨_, _, _, _, _, _, _, _, _, _, 0, 0, 0, 0, 0, h, ?_⟩
  have e0 : zen (zM3 xs ν1 ν2) 82 = (0, [-1], [some 83, some 92, some 177], []) := (b_n1 p1.1 m.1 (k := 0) (by decide)).trans (by rw [p1.2.1]; rfl)
  rw [show zgi (zM3 xs ν1 ν2) 82 0 = -1 from by unfold zgi; rw [e0]; rfl]
  exact b_Q5
end ZFB
