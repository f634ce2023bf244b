/-! WHAT A RUN FORGETS: locals that it doesn't look at. -/
def zfg (L L' : zL) : Prop := ∀ q ∈ L, L'.lookup q.1 = some q.2
theorem zlk_mem {L : zL} {a : Nat} {v : Value} (h : L.lookup a = some v) : (a, v) ∈ L := by
  induction L with
  | nil => cases h
  | cons q L ih =>
    obtain ⟨x, y⟩ := q
    rw [List.lookup_cons] at h
    by_cases hx : a = x
    · subst hx
      simp at h
      subst h
      exact List.mem_cons_self
    · have : (a == x) = false := by simpa using hx
      rw [this] at h
      exact List.mem_cons_of_mem _ (ih h)
theorem zfg_lk {L L' : zL} {a : Nat} {v : Value} (h : zfg L L') (hl : L.lookup a = some v) : L'.lookup a = some v := h (a, v) (zlk_mem hl)
theorem zlk_fil {p : Nat × Value → Bool} {L : zL} {a : Nat} {v : Value} (h : L.lookup a = some v) (hp : p (a, v) = true) : (L.filter p).lookup a = some v := by
  induction L with
  | nil => cases h
  | cons q L ih =>
    obtain ⟨x, y⟩ := q
    rw [List.lookup_cons] at h
    by_cases hx : a = x
    · subst hx
      simp at h
      subst h
      rw [List.filter_cons, if_pos hp, List.lookup_cons]
      simp
    · have hb : (a == x) = false := by simpa using hx
      rw [hb] at h
      rw [List.filter_cons]
      split
      · rw [List.lookup_cons, hb]
        exact ih h
      · exact ih h
theorem zfg_st {L L' : zL} (b a : Nat) (v : Value) (h : zfg L L') : zfg (zst b L a v) (zst b L' a v) := by
  unfold zst
  split
  all_goals
    intro q hq
    rcases List.mem_cons.mp hq with rfl | hq
    · rw [List.lookup_cons]
      simp
    · obtain ⟨h1, h2⟩ := List.mem_filter.mp hq
      have hne : (q.1 == a) = false := by
        simp only [Bool.and_eq_true, Bool.not_eq_true'] at h2
        exact h2.1
      rw [List.lookup_cons, hne]
      exact zlk_fil (h q h1) h2
/-- a step that neither looks at the locals nor writes them -/
def zpol (z : zS → zO) : Prop := ∀ pc L L' st c sl μ, (∀ r, z (pc, L, st, c, sl, μ) = some (.inr r) → z (pc, L', st, c, sl, μ) = some (.inr r)) ∧ (∀ p L2 R, z (pc, L, st, c, sl, μ) = some (.inl (p, L2, R)) → L2 = L ∧ z (pc, L', st, c, sl, μ) = some (.inl (p, L', R)))
theorem zpol_1 {len : Nat} {k : Int} : zpol (zo1 len k) := by
  intro pc L L' st c sl μ
  refine ⟨fun r h => ?_, fun p L2 R h => ?_⟩
  all_goals
    unfold zo1 at h ⊢
    (try dsimp only at h ⊢)
    repeat' split at h
    all_goals (first | (cases h; done) | (cases h; simp_all; done) | (simp_all; done) | (rename_i heq; cases heq; simp_all; done))
theorem zpol_3 {len : Nat} {k : Int} : zpol (zo3 len k) := by
  intro pc L L' st c sl μ
  refine ⟨fun r h => ?_, fun p L2 R h => ?_⟩
  all_goals
    unfold zo3 at h ⊢
    (try dsimp only at h ⊢)
    repeat' split at h
    all_goals (first | (cases h; done) | (cases h; simp_all; done) | (simp_all; done) | (rename_i heq; cases heq; simp_all; done))
theorem zpol_7 {b : Nat} : zpol (zo7 b) := by
  intro pc L L' st c sl μ
  refine ⟨fun r h => ?_, fun p L2 R h => ?_⟩
  all_goals
    unfold zo7 at h ⊢
    (try dsimp only at h ⊢)
    repeat' split at h
    all_goals (first | (cases h; done) | (cases h; simp_all; done) | (simp_all; done) | (rename_i heq; cases heq; simp_all; done))
theorem zpol_8  : zpol (zo8) := by
  intro pc L L' st c sl μ
  refine ⟨fun r h => ?_, fun p L2 R h => ?_⟩
  all_goals
    unfold zo8 at h ⊢
    (try dsimp only at h ⊢)
    repeat' split at h
    all_goals (first | (cases h; done) | (cases h; simp_all; done) | (simp_all; done) | (rename_i heq; cases heq; simp_all; done))
theorem zpol_9  : zpol (zo9) := by
  intro pc L L' st c sl μ
  refine ⟨fun r h => ?_, fun p L2 R h => ?_⟩
  all_goals
    unfold zo9 at h ⊢
    (try dsimp only at h ⊢)
    repeat' split at h
    all_goals (first | (cases h; done) | (cases h; simp_all; done) | (simp_all; done) | (rename_i heq; cases heq; simp_all; done))
theorem zpol_10 {b : Nat} : zpol (zo10 b) := by
  intro pc L L' st c sl μ
  refine ⟨fun r h => ?_, fun p L2 R h => ?_⟩
  all_goals
    unfold zo10 at h ⊢
    (try dsimp only at h ⊢)
    repeat' split at h
    all_goals (first | (cases h; done) | (cases h; simp_all; done) | (simp_all; done) | (rename_i heq; cases heq; simp_all; done))
theorem zpol_11 {b : Nat} : zpol (zo11 b) := by
  intro pc L L' st c sl μ
  refine ⟨fun r h => ?_, fun p L2 R h => ?_⟩
  all_goals
    unfold zo11 at h ⊢
    (try dsimp only at h ⊢)
    repeat' split at h
    all_goals (first | (cases h; done) | (cases h; simp_all; done) | (simp_all; done) | (rename_i heq; cases heq; simp_all; done))
theorem zpol_12 {b : Nat} : zpol (zo12 b) := by
  intro pc L L' st c sl μ
  refine ⟨fun r h => ?_, fun p L2 R h => ?_⟩
  all_goals
    unfold zo12 at h ⊢
    (try dsimp only at h ⊢)
    repeat' split at h
    all_goals (first | (cases h; done) | (cases h; simp_all; done) | (simp_all; done) | (rename_i heq; cases heq; simp_all; done))
theorem zpol_13  : zpol (zo13) := by
  intro pc L L' st c sl μ
  refine ⟨fun r h => ?_, fun p L2 R h => ?_⟩
  all_goals
    unfold zo13 at h ⊢
    (try dsimp only at h ⊢)
    repeat' split at h
    all_goals (first | (cases h; done) | (cases h; simp_all; done) | (simp_all; done) | (rename_i heq; cases heq; simp_all; done))
theorem zpol_14  : zpol (zo14) := by
  intro pc L L' st c sl μ
  refine ⟨fun r h => ?_, fun p L2 R h => ?_⟩
  all_goals
    unfold zo14 at h ⊢
    (try dsimp only at h ⊢)
    repeat' split at h
    all_goals (first | (cases h; done) | (cases h; simp_all; done) | (simp_all; done) | (rename_i heq; cases heq; simp_all; done))
theorem zpol_15  : zpol (zo15) := by
  intro pc L L' st c sl μ
  refine ⟨fun r h => ?_, fun p L2 R h => ?_⟩
  all_goals
    unfold zo15 at h ⊢
    (try dsimp only at h ⊢)
    repeat' split at h
    all_goals (first | (cases h; done) | (cases h; simp_all; done) | (simp_all; done) | (rename_i heq; cases heq; simp_all; done))
theorem zpol_16  : zpol (zo16) := by
  intro pc L L' st c sl μ
  refine ⟨fun r h => ?_, fun p L2 R h => ?_⟩
  all_goals
    unfold zo16 at h ⊢
    (try dsimp only at h ⊢)
    repeat' split at h
    all_goals (first | (cases h; done) | (cases h; simp_all; done) | (simp_all; done) | (rename_i heq; cases heq; simp_all; done))
theorem zpol_17 {a b : Nat} : zpol (zo17 a b) := by
  intro pc L L' st c sl μ
  refine ⟨fun r h => ?_, fun p L2 R h => ?_⟩
  all_goals
    unfold zo17 at h ⊢
    (try dsimp only at h ⊢)
    repeat' split at h
    all_goals (first | (cases h; done) | (cases h; simp_all; done) | (simp_all; done) | (rename_i heq; cases heq; simp_all; done))
theorem zpol_18 {a b : Nat} : zpol (zo18 a b) := by
  intro pc L L' st c sl μ
  refine ⟨fun r h => ?_, fun p L2 R h => ?_⟩
  all_goals
    unfold zo18 at h ⊢
    (try dsimp only at h ⊢)
    repeat' split at h
    all_goals (first | (cases h; done) | (cases h; simp_all; done) | (simp_all; done) | (rename_i heq; cases heq; simp_all; done))
theorem zpol_19 {a : Nat} : zpol (zo19 a) := by
  intro pc L L' st c sl μ
  refine ⟨fun r h => ?_, fun p L2 R h => ?_⟩
  all_goals
    unfold zo19 at h ⊢
    (try dsimp only at h ⊢)
    repeat' split at h
    all_goals (first | (cases h; done) | (cases h; simp_all; done) | (simp_all; done) | (rename_i heq; cases heq; simp_all; done))
theorem zpol_20 {a b : Nat} : zpol (zo20 a b) := by
  intro pc L L' st c sl μ
  refine ⟨fun r h => ?_, fun p L2 R h => ?_⟩
  all_goals
    unfold zo20 at h ⊢
    (try dsimp only at h ⊢)
    repeat' split at h
    all_goals (first | (cases h; done) | (cases h; simp_all; done) | (simp_all; done) | (rename_i heq; cases heq; simp_all; done))
theorem zpol_21 {a b : Nat} {e : List Nat} : zpol (zo21 a b e) := by
  intro pc L L' st c sl μ
  refine ⟨fun r h => ?_, fun p L2 R h => ?_⟩
  · rcases st with _ | ⟨v, st⟩
    · cases h
    · cases v <;> cases h
  · rcases st with _ | ⟨v, st⟩
    · cases h
    · cases v <;> first | (cases h; done) | (cases h; exact ⟨rfl, rfl⟩)
theorem zpol_22 {b : Nat} {e : List Nat} : zpol (zo22 b e) := by
  intro pc L L' st c sl μ
  refine ⟨fun r h => ?_, fun p L2 R h => ?_⟩
  all_goals
    unfold zo22 at h ⊢
    (try dsimp only at h ⊢)
    repeat' split at h
    all_goals (first | (cases h; done) | (cases h; simp_all; done) | (simp_all; done) | (rename_i heq; cases heq; simp_all; done))
theorem zpol_23 {a b : Nat} {k : Int} : zpol (zo23 a b k) := by
  intro pc L L' st c sl μ
  refine ⟨fun r h => ?_, fun p L2 R h => ?_⟩
  all_goals
    unfold zo23 at h ⊢
    (try dsimp only at h ⊢)
    repeat' split at h
    all_goals (first | (cases h; done) | (cases h; simp_all; done) | (simp_all; done) | (rename_i heq; cases heq; simp_all; done))
theorem zpol_24 {a b : Nat} {k : Int} : zpol (zo24 a b k) := by
  intro pc L L' st c sl μ
  refine ⟨fun r h => ?_, fun p L2 R h => ?_⟩
  all_goals
    unfold zo24 at h ⊢
    (try dsimp only at h ⊢)
    repeat' split at h
    all_goals (first | (cases h; done) | (cases h; simp_all; done) | (simp_all; done) | (rename_i heq; cases heq; simp_all; done))
theorem zpol_25 {a : Nat} : zpol (zo25 a) := by
  intro pc L L' st c sl μ
  refine ⟨fun r h => ?_, fun p L2 R h => ?_⟩
  all_goals
    unfold zo25 at h ⊢
    (try dsimp only at h ⊢)
    repeat' split at h
    all_goals (first | (cases h; done) | (cases h; simp_all; done) | (simp_all; done) | (rename_i heq; cases heq; simp_all; done))
theorem zpol_26 {b : Nat} : zpol (zo26 b) := by
  intro pc L L' st c sl μ
  refine ⟨fun r h => ?_, fun p L2 R h => ?_⟩
  all_goals
    unfold zo26 at h ⊢
    (try dsimp only at h ⊢)
    repeat' split at h
    all_goals (first | (cases h; done) | (cases h; simp_all; done) | (simp_all; done) | (rename_i heq; cases heq; simp_all; done))
theorem zpol_27 {b : Nat} : zpol (zo27 b) := by
  intro pc L L' st c sl μ
  refine ⟨fun r h => ?_, fun p L2 R h => ?_⟩
  all_goals
    unfold zo27 at h ⊢
    (try dsimp only at h ⊢)
    repeat' split at h
    all_goals (first | (cases h; done) | (cases h; simp_all; done) | (simp_all; done) | (rename_i heq; cases heq; simp_all; done) | (rename_i heq; cases heq; simp_all; rename_i h1 h2; rw [← h2.2.2.1]; exact ⟨h2.1, h2.2.1⟩) | (simp_all; rename_i h1 h2; rw [← h2.2.2.1]; exact ⟨h2.1, h2.2.1⟩))
theorem zpol_28  : zpol (zo28) := by
  intro pc L L' st c sl μ
  refine ⟨fun r h => ?_, fun p L2 R h => ?_⟩
  all_goals
    unfold zo28 at h ⊢
    (try dsimp only at h ⊢)
    repeat' split at h
    all_goals (first | (cases h; done) | (cases h; simp_all; done) | (simp_all; done) | (rename_i heq; cases heq; simp_all; done))
theorem zpol_29 {a : Nat} : zpol (zo29 a) := by
  intro pc L L' st c sl μ
  refine ⟨fun r h => ?_, fun p L2 R h => ?_⟩
  all_goals
    unfold zo29 at h ⊢
    (try dsimp only at h ⊢)
    repeat' split at h
    all_goals (first | (cases h; done) | (cases h; simp_all; done) | (simp_all; done) | (rename_i heq; cases heq; simp_all; done))
theorem zpol_30 {b : Nat} : zpol (zo30 b) := by
  intro pc L L' st c sl μ
  refine ⟨fun r h => ?_, fun p L2 R h => ?_⟩
  all_goals
    unfold zo30 at h ⊢
    (try dsimp only at h ⊢)
    repeat' split at h
    all_goals (first | (cases h; done) | (cases h; simp_all; done) | (simp_all; done) | (rename_i heq; cases heq; simp_all; done))
theorem zpol_31 {b : Nat} : zpol (zo31 b) := by
  intro pc L L' st c sl μ
  refine ⟨fun r h => ?_, fun p L2 R h => ?_⟩
  all_goals
    unfold zo31 at h ⊢
    (try dsimp only at h ⊢)
    repeat' split at h
    all_goals (first | (cases h; done) | (cases h; simp_all; done) | (simp_all; done) | (rename_i heq; cases heq; simp_all; done))
theorem zpol_32 {call : Nat → List Value → zM → Option zR} {a n t : Nat} : zpol (zo32 call a n t) := by
  intro pc L L' st c sl μ
  refine ⟨fun r h => ?_, fun p L2 R h => ?_⟩
  all_goals
    unfold zo32 at h ⊢
    (try dsimp only at h ⊢)
    repeat' split at h
    all_goals (first | (cases h; done) | (cases h; simp_all; done) | (simp_all; done) | (rename_i heq; cases heq; simp_all; done))
theorem zpol_33  : zpol (zo33) := by
  intro pc L L' st c sl μ
  refine ⟨fun r h => ?_, fun p L2 R h => ?_⟩
  all_goals
    unfold zo33 at h ⊢
    (try dsimp only at h ⊢)
    repeat' split at h
    all_goals (first | (cases h; done) | (cases h; simp_all; done) | (simp_all; done) | (rename_i heq; cases heq; simp_all; done))
theorem zpol_34  : zpol (zo34) := by
  intro pc L L' st c sl μ
  refine ⟨fun r h => ?_, fun p L2 R h => ?_⟩
  all_goals
    unfold zo34 at h ⊢
    (try dsimp only at h ⊢)
    repeat' split at h
    all_goals (first | (cases h; done) | (cases h; simp_all; done) | (simp_all; done) | (rename_i heq; cases heq; simp_all; done))
theorem zpol_35 {d a : Nat} : zpol (zo35 d a) := by
  intro pc L L' st c sl μ
  refine ⟨fun r h => ?_, fun p L2 R h => ?_⟩
  all_goals
    unfold zo35 at h ⊢
    (try dsimp only at h ⊢)
    repeat' split at h
    all_goals (first | (cases h; done) | (cases h; simp_all; done) | (simp_all; done) | (rename_i heq; cases heq; simp_all; done))
theorem zpol_36 {b : Nat} : zpol (zo36 b) := by
  intro pc L L' st c sl μ
  refine ⟨fun r h => ?_, fun p L2 R h => ?_⟩
  all_goals
    unfold zo36 at h ⊢
    (try dsimp only at h ⊢)
    repeat' split at h
    all_goals (first | (cases h; done) | (cases h; simp_all; done) | (simp_all; done) | (rename_i heq; cases heq; simp_all; done))
theorem zpol_37 {call : Nat → List Value → zM → Option zR} {a n t : Nat} {e : List Nat} : zpol (zo37 call a n t e) := by
  intro pc L L' st c sl μ
  refine ⟨fun r h => ?_, fun p L2 R h => ?_⟩
  all_goals
    unfold zo37 at h ⊢
    (try dsimp only at h ⊢)
    repeat' split at h
    all_goals (first | (cases h; done) | (cases h; simp_all; done) | (simp_all; done) | (rename_i heq; cases heq; simp_all; done))
theorem zpol_41 {b : Nat} : zpol (zo41 b) := by
  intro pc L L' st c sl μ
  refine ⟨fun r h => ?_, fun p L2 R h => ?_⟩
  all_goals
    unfold zo41 at h ⊢
    (try dsimp only at h ⊢)
    have k0 : ∀ y : Int32, (if 0 ≤ y then y else 0 - y) = zabs y := fun _ => rfl
    have k1 : ∀ x y : Int32, (if x < y then y else x) = zmax x y := fun _ _ => rfl
    have k2 : ∀ x y : Int32, (if y < x then y else x) = zmin x y := fun _ _ => rfl
    simp only [k0, k1, k2] at h ⊢
    clear k0 k1 k2
    repeat' split at h
    all_goals (first | (cases h; done) | (cases h; simp_all; done) | (simp_all; done) | (rename_i heq; cases heq; simp_all; done))

/-- one step, from locals that answer at least as much -/
theorem zx_fg {d : Nat} {call : Nat → List Value → zM → Option zR} {q : zRI} {pc c sl : Nat} {L L' : zL} {st : List Value} {μ : zM} (hR : zfg L L') :
    (∀ r, zx d call q (pc, L, st, c, sl, μ) = some (.inr r) → zx d call q (pc, L', st, c, sl, μ) = some (.inr r)) ∧
    (∀ p L2 R, zx d call q (pc, L, st, c, sl, μ) = some (.inl (p, L2, R)) → ∃ L3, zx d call q (pc, L', st, c, sl, μ) = some (.inl (p, L3, R)) ∧ zfg L2 L3) := by
  have pol : ∀ z : zS → zO, zpol z → (∀ r, z (pc, L, st, c, sl, μ) = some (.inr r) → z (pc, L', st, c, sl, μ) = some (.inr r)) ∧ (∀ p L2 R, z (pc, L, st, c, sl, μ) = some (.inl (p, L2, R)) → ∃ L3, z (pc, L', st, c, sl, μ) = some (.inl (p, L3, R)) ∧ zfg L2 L3) := fun z hz => by
    obtain ⟨h1, h2⟩ := hz pc L L' st c sl μ
    refine ⟨h1, fun p L2 R h => ?_⟩
    obtain ⟨e, h3⟩ := h2 p L2 R h
    exact ⟨L', h3, e ▸ hR⟩
  obtain ⟨op, len, a, b, k, ext⟩ := q
  unfold zx
  dsimp only
  split
  · exact pol _ zpol_1
  · exact pol _ zpol_1
  · exact pol _ zpol_3
  · refine ⟨fun r h => ?_, fun p L2 R h => ?_⟩
    · unfold zo4 at h
      dsimp only at h
      split at h
      · split at h <;> cases h
      · cases h
    · unfold zo4 at h ⊢
      dsimp only at h ⊢
      split at h
      · rename_i v hv
        rw [zfg_lk hR hv]
        dsimp only
        split at h
        · rename_i hk
          cases h
          rw [if_pos hk]
          exact ⟨L', rfl, hR⟩
        · cases h
      · cases h
  · refine ⟨fun r h => ?_, fun p L2 R h => ?_⟩
    · rcases st with _ | ⟨v, st⟩
      · cases h
      · unfold zo5 at h
        dsimp only at h
        split at h <;> cases h
    · rcases st with _ | ⟨v, st⟩
      · cases h
      · unfold zo5 at h ⊢
        dsimp only at h ⊢
        split at h
        · rename_i hk
          cases h
          rw [if_pos hk]
          exact ⟨_, rfl, zfg_st _ _ _ hR⟩
        · cases h
  · refine ⟨fun r h => ?_, fun p L2 R h => ?_⟩
    · unfold zo6 at h
      dsimp only at h
      split at h <;> cases h
    · unfold zo6 at h ⊢
      dsimp only at h ⊢
      split at h
      · rename_i x hv
        cases h
        rw [zfg_lk hR hv]
        exact ⟨_, rfl, zfg_st _ _ _ hR⟩
      · cases h
  · exact pol _ zpol_7
  · exact pol _ zpol_8
  · exact pol _ zpol_9
  · exact pol _ zpol_10
  · exact pol _ zpol_11
  · exact pol _ zpol_12
  · exact pol _ zpol_13
  · exact pol _ zpol_14
  · exact pol _ zpol_15
  · exact pol _ zpol_16
  · exact pol _ zpol_17
  · exact pol _ zpol_18
  · exact pol _ zpol_19
  · exact pol _ zpol_20
  · exact pol _ zpol_21
  · exact pol _ zpol_22
  · exact pol _ zpol_23
  · exact pol _ zpol_24
  · exact pol _ zpol_25
  · exact pol _ zpol_26
  · exact pol _ zpol_27
  · exact pol _ zpol_28
  · exact pol _ zpol_29
  · exact pol _ zpol_30
  · exact pol _ zpol_31
  · exact pol _ zpol_32
  · exact pol _ zpol_33
  · exact pol _ zpol_34
  · exact pol _ zpol_35
  · exact pol _ zpol_36
  · exact pol _ zpol_41
  · exact pol _ zpol_37
  · refine ⟨fun r h => ?_, fun p L2 R h => ?_⟩ <;> cases h
theorem zrun_fg {d : Nat} {call : Nat → List Value → zM → Option zR} {cd : List zRI} {r : zR} : ∀ {n pc c sl : Nat} {L L' : zL} {st : List Value} {μ : zM}, zfg L L' → zrun d call cd n (pc, L, st, c, sl, μ) = some r → zrun d call cd n (pc, L', st, c, sl, μ) = some r
  | 0, _, _, _, _, _, _, _, _, h => by cases h
  | n + 1, pc, c, sl, L, L', st, μ, hR, h => by
    obtain ⟨h1, h2⟩ := zx_fg (d := d) (call := call) (q := zfetch cd pc) (pc := pc) (c := c) (sl := sl) (st := st) (μ := μ) hR
    simp only [zrun] at h ⊢
    cases hz : zn d call cd (pc, L, st, c, sl, μ) with
    | none => rw [hz] at h; cases h
    | some o =>
      rw [hz] at h
      cases o with
      | inl S =>
        obtain ⟨p, L2, st2, c2, sl2, μ2⟩ := S
        obtain ⟨L3, h3, h4⟩ := h2 p L2 _ hz
        have h3 : zn d call cd (pc, L', st, c, sl, μ) = some (.inl (p, L3, st2, c2, sl2, μ2)) := h3
        rw [h3]
        exact zrun_fg h4 h
      | inr r' =>
        have h3 : zn d call cd (pc, L', st, c, sl, μ) = some (.inr r') := h1 r' hz
        rw [h3]
        exact h
/-- a run from fewer locals is a run from more -/
theorem zden1_fg {d : Nat} {call : Nat → List Value → zM → Option zR} {cd : List zRI} {r : zR} {pc c sl : Nat} {L L' : zL} {st : List Value} {μ : zM} (hR : zfg L L') (h : zden1 d call cd (pc, L, st, c, sl, μ) = some r) : zden1 d call cd (pc, L', st, c, sl, μ) = some r := by
  obtain ⟨n, hn⟩ := zden1_iff.mp h
  exact zden1_iff.mpr ⟨n, zrun_fg hR hn⟩
theorem zfg_nil {L : zL} : zfg [] L := fun q h => by cases h
theorem zfg_cons {q : Nat × Value} {L L' : zL} (h1 : L'.lookup q.1 = some q.2) (h2 : zfg L L') : zfg (q :: L) L' := fun x hx => by
  rcases List.mem_cons.mp hx with rfl | hx
  · exact h1
  · exact h2 x hx
