/-! counts only grow -/
def zcle (S : zS) (o : zS ⊕ zR) : Prop := match o with
  | .inl S' => S.2.2.2.1 ≤ S'.2.2.2.1 ∧ S.2.2.2.2.1 ≤ S'.2.2.2.2.1
  | .inr r => S.2.2.2.1 ≤ r.2.2.1 ∧ S.2.2.2.2.1 ≤ r.2.2.2.1
theorem zcle_0 {S S' : zS} (h1 : S'.2.2.2.1 = S.2.2.2.1) (h2 : S'.2.2.2.2.1 = S.2.2.2.2.1) : zcle S (.inl S') := ⟨Nat.le_of_eq h1.symm, Nat.le_of_eq h2.symm⟩
set_option maxHeartbeats 4000000 in
theorem zx_cnt {d : Nat} {call : Nat → List Value → zM → Option zR} {q : zRI} {S : zS} {o : zS ⊕ zR} (h : zx d call q S = some o) : zcle S o := by
  obtain ⟨op, len, a, b, k, ext⟩ := q
  obtain ⟨pc, L, st, c, sl, μ⟩ := S
  unfold zx at h
  dsimp only at h
  split at h
  all_goals first
    | (unfold zo1 at h; cases h; exact zcle_0 rfl rfl)
    | (unfold zo3 at h; cases h; exact zcle_0 rfl rfl)
    | (unfold zo13 at h; cases h; exact zcle_0 rfl rfl)
    | (unfold zo19 at h; cases h; exact zcle_0 rfl rfl)
    | (unfold zo25 at h; cases h; exact zcle_0 rfl rfl)
    | (unfold zo29 at h; cases h; exact ⟨Nat.le_add_right _ _, Nat.le_add_right _ _⟩)
    | (unfold zo4 at h; dsimp only at h; repeat' split at h
       all_goals first | (cases h; done) | (cases h; exact zcle_0 rfl rfl))
    | (unfold zo6 at h; dsimp only at h; repeat' split at h
       all_goals first | (cases h; done) | (cases h; exact zcle_0 rfl rfl))
    | (unfold zo35 at h; dsimp only at h; repeat' split at h
       all_goals first | (cases h; done) | (cases h; exact ⟨Nat.le_add_right _ _, Nat.le_add_right _ _⟩))
    | (unfold zo32 at h; dsimp only at h; repeat' split at h
       all_goals first | (cases h; done) | (cases h; exact ⟨Nat.le_add_right _ _, Nat.le_add_right _ _⟩))
    | (unfold zo37 at h; dsimp only at h; repeat' split at h
       all_goals first | (cases h; done) | (cases h; exact ⟨Nat.le_add_right _ _, Nat.le_add_right _ _⟩))
    | (unfold zo5 at h; repeat' split at h
       all_goals first | (cases h; done) | (cases h; simp_all [zcle]; done))
    | (unfold zo7 at h; repeat' split at h
       all_goals first | (cases h; done) | (cases h; simp_all [zcle]; done))
    | (unfold zo8 at h; repeat' split at h
       all_goals first | (cases h; done) | (cases h; simp_all [zcle]; done))
    | (unfold zo9 at h; repeat' split at h
       all_goals first | (cases h; done) | (cases h; simp_all [zcle]; done))
    | (unfold zo10 at h; repeat' split at h
       all_goals first | (cases h; done) | (cases h; simp_all [zcle]; done))
    | (unfold zo11 at h; repeat' split at h
       all_goals first | (cases h; done) | (cases h; simp_all [zcle]; done))
    | (unfold zo12 at h; repeat' split at h
       all_goals first | (cases h; done) | (cases h; simp_all [zcle]; done))
    | (unfold zo14 at h; repeat' split at h
       all_goals first | (cases h; done) | (cases h; simp_all [zcle]; done))
    | (unfold zo15 at h; repeat' split at h
       all_goals first | (cases h; done) | (cases h; simp_all [zcle]; done))
    | (unfold zo16 at h; repeat' split at h
       all_goals first | (cases h; done) | (cases h; simp_all [zcle]; done))
    | (unfold zo17 at h; repeat' split at h
       all_goals first | (cases h; done) | (cases h; simp_all [zcle]; done))
    | (unfold zo18 at h; repeat' split at h
       all_goals first | (cases h; done) | (cases h; simp_all [zcle]; done))
    | (unfold zo20 at h; repeat' split at h
       all_goals first | (cases h; done) | (cases h; simp_all [zcle]; done))
    | (unfold zo21 at h; repeat' split at h
       all_goals first | (cases h; done) | (cases h; simp_all [zcle]; done))
    | (unfold zo22 at h; repeat' split at h
       all_goals first | (cases h; done) | (cases h; simp_all [zcle]; done))
    | (unfold zo23 at h; repeat' split at h
       all_goals first | (cases h; done) | (cases h; simp_all [zcle]; done))
    | (unfold zo24 at h; repeat' split at h
       all_goals first | (cases h; done) | (cases h; simp_all [zcle]; done))
    | (unfold zo26 at h; repeat' split at h
       all_goals first | (cases h; done) | (cases h; simp_all [zcle]; done))
    | (unfold zo27 at h; repeat' split at h
       all_goals first | (cases h; done) | (cases h; simp_all [zcle]; done))
    | (unfold zo28 at h; repeat' split at h
       all_goals first | (cases h; done) | (cases h; simp_all [zcle]; done))
    | (unfold zo30 at h; repeat' split at h
       all_goals first | (cases h; done) | (cases h; simp_all [zcle]; done))
    | (unfold zo31 at h; repeat' split at h
       all_goals first | (cases h; done) | (cases h; simp_all [zcle]; done))
    | (unfold zo33 at h; repeat' split at h
       all_goals first | (cases h; done) | (cases h; simp_all [zcle]; done))
    | (unfold zo34 at h; repeat' split at h
       all_goals first | (cases h; done) | (cases h; simp_all [zcle]; done))
    | (unfold zo36 at h; repeat' split at h
       all_goals first | (cases h; done) | (cases h; simp_all [zcle]; done))
    | (unfold zo41 at h; repeat' split at h
       all_goals first | (cases h; done) | (cases h; simp_all [zcle]; done))
    | (cases h; done)
