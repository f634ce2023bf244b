/-! SOUND: the last step, the whole run. -/
theorem zx_inr {d : Nat} {call : Nat → List Value → zM → Option zR} {op len a b : Nat} {k : Int} {ext : List Nat} {S : zS} {r : zR} (h : zx d call (op, len, a, b, k, ext) S = some (.inr r)) : op = 35 ∨ op = 36 ∨ op = 37 := by
  obtain ⟨pc, L, st, c, sl, μ⟩ := S
  unfold zx at h
  dsimp only at h
  split at h
  all_goals first
    | (exact Or.inl rfl)
    | (exact Or.inr (Or.inl rfl))
    | (exact Or.inr (Or.inr rfl))
    | (exfalso; unfold zo1 at h; cases h; done)
    | (exfalso; unfold zo3 at h; cases h; done)
    | (exfalso; unfold zo13 at h; cases h; done)
    | (exfalso; unfold zo19 at h; cases h; done)
    | (exfalso; unfold zo25 at h; cases h; done)
    | (exfalso; unfold zo29 at h; cases h; done)
    | (exfalso; unfold zo4 at h; dsimp only at h; repeat' split at h
       all_goals (cases h; done))
    | (exfalso; unfold zo6 at h; dsimp only at h; repeat' split at h
       all_goals (cases h; done))
    | (exfalso; unfold zo32 at h; dsimp only at h; repeat' split at h
       all_goals (cases h; done))
    | (exfalso; unfold zo5 at h; repeat' split at h
       all_goals (cases h; done))
    | (exfalso; unfold zo7 at h; repeat' split at h
       all_goals (cases h; done))
    | (exfalso; unfold zo8 at h; repeat' split at h
       all_goals (cases h; done))
    | (exfalso; unfold zo9 at h; repeat' split at h
       all_goals (cases h; done))
    | (exfalso; unfold zo10 at h; repeat' split at h
       all_goals (cases h; done))
    | (exfalso; unfold zo11 at h; repeat' split at h
       all_goals (cases h; done))
    | (exfalso; unfold zo12 at h; repeat' split at h
       all_goals (cases h; done))
    | (exfalso; unfold zo14 at h; repeat' split at h
       all_goals (cases h; done))
    | (exfalso; unfold zo15 at h; repeat' split at h
       all_goals (cases h; done))
    | (exfalso; unfold zo16 at h; repeat' split at h
       all_goals (cases h; done))
    | (exfalso; unfold zo17 at h; repeat' split at h
       all_goals (cases h; done))
    | (exfalso; unfold zo18 at h; repeat' split at h
       all_goals (cases h; done))
    | (exfalso; unfold zo20 at h; repeat' split at h
       all_goals (cases h; done))
    | (exfalso; unfold zo21 at h; repeat' split at h
       all_goals (cases h; done))
    | (exfalso; unfold zo22 at h; repeat' split at h
       all_goals (cases h; done))
    | (exfalso; unfold zo23 at h; repeat' split at h
       all_goals (cases h; done))
    | (exfalso; unfold zo24 at h; repeat' split at h
       all_goals (cases h; done))
    | (exfalso; unfold zo26 at h; repeat' split at h
       all_goals (cases h; done))
    | (exfalso; unfold zo27 at h; repeat' split at h
       all_goals (cases h; done))
    | (exfalso; unfold zo28 at h; repeat' split at h
       all_goals (cases h; done))
    | (exfalso; unfold zo30 at h; repeat' split at h
       all_goals (cases h; done))
    | (exfalso; unfold zo31 at h; repeat' split at h
       all_goals (cases h; done))
    | (exfalso; unfold zo33 at h; repeat' split at h
       all_goals (cases h; done))
    | (exfalso; unfold zo34 at h; repeat' split at h
       all_goals (cases h; done))
    | (exfalso; unfold zo41 at h; repeat' split at h
       all_goals (cases h; done))
    | (cases h; done)
theorem zrun_cnt {d : Nat} {call : Nat → List Value → zM → Option zR} {cd : List zRI} {r : zR} : ∀ {n : Nat} {S : zS}, zrun d call cd n S = some r → S.2.2.2.1 ≤ r.2.2.1 ∧ S.2.2.2.2.1 ≤ r.2.2.2.1
  | 0, _, h => by cases h
  | n + 1, S, h => by
    simp only [zrun] at h
    cases hz : zn d call cd S with
    | none => rw [hz] at h; cases h
    | some o =>
      rw [hz] at h
      have hc := zx_cnt hz
      cases o with
      | inl S' =>
        have := zrun_cnt h
        exact ⟨Nat.le_trans hc.1 this.1, Nat.le_trans hc.2 this.2⟩
      | inr r' => cases h; exact hc
section ZSD
variable {p : Program} {l : Launch} {e : Env} {R : Room} {s : State} {m : MethodId} {args : Array Value} {below : List Frame} {meth : Method} {c : Code} {Q : State → Prop}
variable {G : zG} {A0 : List Nat} {cc : ByteArray} {nL : Nat} {own host : String} {cds : Nat → Nat × List zRI} {d : Nat} {ret : Option FieldType} {hh : List (Nat × Nat × Nat × Nat)} {ini : Bool} {cd : List zRI}
/-- where a run ends -/
def zTgt (below : List Frame) (args : Array Value) (s : State) (G : zG) (A0 : List Nat) (r : zR) (Q : State → Prop) : Prop :=
  (r.1 = 0 → Q = MQ below (zQc G A0 r.2.1 r.2.2.2.2) args s r.2.2.1 r.2.2.2.1 (zA G)) ∧ (∀ E, r.1 = E + 1 → Q = vx_MQ below (fun _ _ _ _ => False) (zXc G A0 E r.2.2.2.2) args s r.2.2.1 r.2.2.2.1 (zA G))
set_option maxHeartbeats 4000000 in
/-- the last step -/
theorem zlast (hSX : zSNX l cds d) (hcds : ∀ a, 232 ≤ a → (cds a).2 = []) (C : zCtx p s m args meth c cc nL own) (E : zEnv G s) (hr : meth.sig.returnType = ret) (hfl : l.stackTraces = false) (hxt : c.exceptionTable.toList = tableOf hh) (hRf : d + 1 ≤ R.frames) (hRl : 30 * (d + 1) ≤ R.locals) (hcd : ∀ pc, zok own host cc nL ret ini hh pc (cd.getD pc zno) = true)
    {S : zS} {r : zR} {AL : List Nat} {H : Heap} {locs : List Loc} {ls : Array Slot} (hx : zExt A0 AL) (X : zSt G nL s AL S H locs ls) (hz : zn d (zden cds d) cd S = some (.inr r)) (hRc : r.2.2.1 ≤ R.cells) (hRs : r.2.2.2.1 ≤ R.slots) (hQ : zTgt below args s G A0 r Q) : zWW p l e R s m args below meth c Q G AL S H locs ls := by
  obtain ⟨pc, L, st, c0, sl, μ⟩ := S
  have hok := hcd pc
  unfold zn at hz
  have hz : zx d (zden cds d) (cd.getD pc zno) (pc, L, st, c0, sl, μ) = some (.inr r) := hz
  obtain ⟨q, hq⟩ : ∃ q, q = cd.getD pc zno := ⟨_, rfl⟩
  rw [← hq] at hok hz
  obtain ⟨op, len, a, b, k, ext⟩ := q
  clear hq
  have hop := zx_inr hz
  rcases hop with rfl | rfl | rfl
  · have hz : zo35 d a (pc, L, st, c0, sl, μ) = some (.inr r) := hz
    have hok' : (decide (own = "LoftPost") && decide (a < 3) && zin (.classLink own (ext.getD 0 0) (zxn a)) (ext.getD 1 0) && zmsg.any (fun q => q.1 == ext.getD 2 0) && decide (ext.getD 4 0 = zxc a) && decide (hh = []) &&
        ((len == 10 && (zdec cc pc (.new (ext.getD 0 0)) 3 && zdec cc (pc + 3) .dup 1 && zdec cc (pc + 4) (.ldc (ext.getD 2 0)) 2 && zdec cc (pc + 6) (.invokespecial (ext.getD 4 0)) 3 && zdec cc (pc + 9) .athrow 1)) ||
         (len == 11 && (zdec cc pc (.new (ext.getD 0 0)) 3 && zdec cc (pc + 3) .dup 1 && zdec cc (pc + 4) (.ldc_w (ext.getD 2 0)) 3 && zdec cc (pc + 7) (.invokespecial (ext.getD 4 0)) 3 && zdec cc (pc + 10) .athrow 1)))) = true := hok
    have hh0 : hh = [] := by
      simp only [Bool.and_eq_true, decide_eq_true_eq] at hok'
      exact hok'.1.2
    have hxt0 : ∀ x ∈ c.exceptionTable.toList, False := fun x hx => by
      rw [hxt, hh0] at hx
      cases hx
    obtain ⟨h0, K⟩ := z35 C E hfl hxt0 hx X hRf hRl hok' hz hRc hRs
    rw [hQ.2 a h0]
    exact K
  · have hz : zo36 b (pc, L, st, c0, sl, μ) = some (.inr r) := hz
    have hok : (zdec cc pc (zreti b) 1 && zrets b ret) = true := hok
    obtain ⟨h0, K⟩ := z36 C E hr hx X hok hz
    rw [hQ.1 h0]
    exact K
  · have hz : zo37 (zden cds d) a k.toNat (ext.getD 5 99) (ext.drop 6) (pc, L, st, c0, sl, μ) = some (.inr r) := hz
    obtain ⟨h0, K⟩ := z37x (host := host) C E hSX hcds hr hxt hx X hRf hRl hok hz hRc hRs
    rw [hQ.1 h0]
    exact K
/-- the whole run -/
theorem zwalk (hS : zSND l cds d) (hSX : zSNX l cds d) (hcds : ∀ a, 232 ≤ a → (cds a).2 = []) (C : zCtx p s m args meth c cc nL own) (E : zEnv G s) (hini : ini = true → meth.name = "<init>") (hr : meth.sig.returnType = ret) (hfl : l.stackTraces = false) (hxt : c.exceptionTable.toList = tableOf hh) (hRf : d + 1 ≤ R.frames) (hRl : 30 * (d + 1) ≤ R.locals) (hcd : ∀ pc, zok own host cc nL ret ini hh pc (cd.getD pc zno) = true)
    {r : zR} (hRc : r.2.2.1 ≤ R.cells) (hRs : r.2.2.2.1 ≤ R.slots) (hQ : zTgt below args s G A0 r Q) : ∀ (n : Nat) (S : zS) (AL : List Nat) (H : Heap) (locs : List Loc) (ls : Array Slot), zExt A0 AL → zSt G nL s AL S H locs ls → zrun d (zden cds d) cd n S = some r → zWW p l e R s m args below meth c Q G AL S H locs ls
  | 0, S, _, _, _, _, _, _, h => by cases h
  | n + 1, S, AL, H, locs, ls, hx, X, h => by
    simp only [zrun] at h
    cases hz : zn d (zden cds d) cd S with
    | none => rw [hz] at h; cases h
    | some o =>
      rw [hz] at h
      cases o with
      | inl S' =>
        have hc := zrun_cnt h
        exact zstep hS hcds C E hini hRf hRl hcd X hz (Nat.le_trans hc.1 hRc) (Nat.le_trans hc.2 hRs) (fun AL' H' locs' ls' hx' X' => zwalk hS hSX hcds C E hini hr hfl hxt hRf hRl hcd hRc hRs hQ n S' AL' H' locs' ls' (hx.trans hx') X' h)
      | inr r' =>
        cases h
        exact zlast hSX hcds C E hr hfl hxt hRf hRl hcd hx X hz hRc hRs hQ
end ZSD
