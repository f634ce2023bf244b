/-! A LETTER'S LINE ON BOTH SIDES -/
theorem fb_holes : ∀ (m n : Nat) (f : Nat → Nat), (∀ i, i < n → f i < m) → (∀ i j, i < j → j < n → f i ≠ f j) → n ≤ m := by
  intro m
  induction m with
  | zero =>
    intro n f h1 _
    rcases Nat.eq_zero_or_pos n with h | h
    · omega
    · exact absurd (h1 0 h) (Nat.not_lt_zero _)
  | succ m ih =>
    intro n f h1 h2
    by_cases hx : ∃ i, i < n ∧ f i = m
    · obtain ⟨a, ha, hfa⟩ := hx
      have hg := ih (n - 1) (fun i => if i < a then f i else f (i + 1)) (by
        intro i hi
        by_cases q : i < a
        · simp only [if_pos q]
          have b1 := h1 i (by omega)
          have b2 := h2 i a q ha
          omega
        · simp only [if_neg q]
          have b1 := h1 (i + 1) (by omega)
          have b2 := h2 a (i + 1) (by omega) (by omega)
          omega) (by
        intro i j hij hj
        by_cases q : i < a
        · by_cases r : j < a
          · simp only [if_pos q, if_pos r]
            exact h2 i j hij (by omega)
          · simp only [if_pos q, if_neg r]
            exact h2 i (j + 1) (by omega) (by omega)
        · have r : ¬ j < a := by omega
          simp only [if_neg q, if_neg r]
          exact h2 (i + 1) (j + 1) (by omega) (by omega))
      omega
    · have hg := ih n f (fun i hi => by
        have b1 := h1 i hi
        have b2 : f i ≠ m := fun e => hx ⟨i, hi, e⟩
        omega) h2
      omega
/-- two of them in one place -/
theorem fb_twice {m n : Nat} {f : Nat → Nat} (h : ∀ i, i < n → f i < m) (hm : m < n) : ∃ i j, i < j ∧ j < n ∧ f i = f j := by
  refine Classical.byContradiction fun hx => ?_
  have := fb_holes m n f h (fun i j hij hj e => hx ⟨i, j, hij, hj, e⟩)
  omega
/-- as many as places, none twice: each place is taken -/
theorem fb_onto {n : Nat} {f : Nat → Nat} (h : ∀ i, i < n → f i < n) (h2 : ∀ i j, i < j → j < n → f i ≠ f j) {y : Nat} (hy : y < n) : ∃ i, i < n ∧ f i = y := by
  refine Classical.byContradiction fun hx => ?_
  have hne : ∀ i, i < n → f i ≠ y := fun i hi e => hx ⟨i, hi, e⟩
  have := fb_holes (n - 1) n (fun i => if f i < y then f i else f i - 1) (by
    intro i hi
    have b1 := h i hi
    have b2 := hne i hi
    by_cases q : f i < y
    · simp only [if_pos q]; omega
    · simp only [if_neg q]; omega) (by
    intro i j hij hj
    have b1 := hne i (by omega)
    have b2 := hne j hj
    have b3 := h2 i j hij hj
    by_cases q : f i < y
    · by_cases r : f j < y
      · simp only [if_pos q, if_pos r]; exact b3
      · simp only [if_pos q, if_neg r]; omega
    · by_cases r : f j < y
      · simp only [if_neg q, if_pos r]; omega
      · simp only [if_neg q, if_neg r]; omega)
  omega

def zqKp (V : zV) (P X : zFn) (a nl np nh k j : Nat) (T : zFn) : Prop := zqCn V T nl np nh (k + 1) ∧ zqN3 P X a nl np (k + 1) ∧ zqC V T nl np nh k ∧ zqFr T nl (k + 1) ∧ zqTB T ∧ k < 12 ∧ (V 4 k 2 = 0 ∧ V 4 k 3 = 0 ∧ V 4 k 4 = 0 ∧ V 4 k 5 = -1) ∧ V 4 k 1 = T 13 k ∧ zix (T 13 k) nl ∧ V 4 k 0 = nI j ∧ T 14 k = nI j ∧ j ≤ 6 ∧ (∀ i, i < j → zqcS V T np k i) ∧ ∀ i, j ≤ i → i < 6 → T 15 (6 * k + i) = 0
theorem zqKp.n {V : zV} {P X P' X' : zFn} {a b nl np nh k j : Nat} {T : zFn} (h : zqKp V P X a nl np nh k j T) (hN : zqNK P X a P' X' b) : zqKp V P' X' b nl np nh k j T := ⟨h.1, hN.n3 h.2.1, h.2.2⟩
def zqSt (V : zV) (T : zFn) (np k j z : Nat) : Prop := z ≤ 20 ∧ T 15 (6 * k + j) = nI z ∧ V 7 k j = nI z ∧ (∀ i, i < z → V 8 k (20 * j + i) = T 16 (120 * k + 20 * j + i) ∧ zix (T 16 (120 * k + 20 * j + i)) np) ∧ ∀ i i', i < i' → i' < z → T 16 (120 * k + 20 * j + i) ≠ T 16 (120 * k + 20 * j + i')
def zqKl (V : zV) (P X : zFn) (a nl np nh k : Nat) (y : Int32) (T : zFn) : Prop := ∃ j z q0, zqKp V P X a nl np nh k (j + 1) T ∧ j < 6 ∧ zqSt V T np k j z ∧ 1 ≤ z ∧ T 16 (120 * k + 20 * j) = nI q0 ∧ q0 < np ∧ y = T 5 q0
theorem zqKl.n {V : zV} {P X P' X' : zFn} {a b nl np nh k : Nat} {y : Int32} {T : zFn} (h : zqKl V P X a nl np nh k y T) (hN : zqNK P X a P' X' b) : zqKl V P' X' b nl np nh k y T := by
  obtain ⟨j, z, q0, h1, h2⟩ := h
  exact ⟨j, z, q0, h1.n hN, h2⟩
theorem zq_ast {V : zV} {k j : Nat} (h : V 4 k 0 = nI j) (hj : j < 6) : vast V k = zvu (zvu V 7 k j 0) 4 k 0 (nI (j + 1)) := by
  unfold vast
  rw [h, if_neg (nI_pos (by omega)), if_neg (nI_ge hj (by omega)), zsf_nI hj (by decide)]
  dsimp only
  rw [zvu_ne (by omega), h, nI_1]
theorem zq_aca {V : zV} {k j z : Nat} {x : Int32} (h : V 4 k 0 = nI (j + 1)) (hj : j < 6) (hs : V 7 k j = nI z) (hz : z < 20) : vaca V k x = zvu (zvu V 8 k (20 * j + z) x) 7 k j (nI (z + 1)) := by
  unfold vaca
  rw [h, nI_pred, vsize_nI hj hs, if_neg (show ¬ 20 ≤ nI z from nI_ge (b := 20) hz (by decide)), if_neg (nI_pos (by omega)), if_neg (nI_ge hj (by omega)), show nI j * 20 = nI (j * 20) from pk_mul j 20, nI_add, if_neg (nI_pos (by omega)), if_neg (nI_ge (by omega) (by omega)), zsf_nI (by omega) (by decide), zsf_nI hj (by decide), nI_1, show j * 20 + z = 20 * j + z by omega]
/-- von2's answer -/
theorem von2_r {Q : zFn} {K : zKn} {X0 P X : zFn} {n e a m : Nat} {z : Int32} (h : zqI Q K X0 n e) (h0 : P 0 0 = nI a) (ha : a < e) : von2 P Q m 0 0 = nI (a + 1) ∧ (∀ j k, 0 < j → von2 P Q m j k = P j k) ∧ (P 0 1 ≠ 0 → von2 P Q m 0 1 = P 0 1 ∧ von2 P Q m 0 2 = P 0 2) ∧ (P 0 1 = 0 → zqY 0 X0 X → X 0 3 = nI a → zqNm P X 2 m a → m ≤ 20 → (rnmL (xas X z) a 2 a 0 0 = -1 ∧ von2 P Q m 0 1 = 3 ∧ von2 P Q m 0 2 = X0 3 a) ∨ ∃ i, i < m ∧ rnmL (xas X z) a 2 a 0 0 = nI i ∧ von2 P Q m 0 1 = 0 ∧ von2 P Q m 0 2 = P 0 2 ∧ von2 P Q m 0 3 = nI i) := by
  have he := h.2.1
  obtain ⟨r1, r2⟩ := vat_r (P := P)
  have r0 := vat_0 h0
  obtain ⟨P2, hP2⟩ : ∃ P2, zup (vat P) 0 3 (vfi2 (vat P) Q m 0) = P2 := ⟨_, rfl⟩
  have e0 : P2 0 0 = nI (a + 1) := by rw [← hP2, zup_ne (by omega), r0]
  have e1 : P2 0 1 = P 0 1 := by rw [← hP2, zup_ne (by omega), r2 1 (by decide)]
  have e2 : P2 0 2 = P 0 2 := by rw [← hP2, zup_ne (by omega), r2 2 (by decide)]
  have e3 : P2 0 3 = vfi2 (vat P) Q m 0 := by rw [← hP2, zup_same]
  have er : ∀ j k, 0 < j → P2 j k = P j k := fun j k hj => by rw [← hP2, zup_ne (by omega), r1 j k hj]
  obtain ⟨t1, t2, t3, t4, t5⟩ := vte_r (P := P2) (Q := Q) (x := 3)
  have hv : von2 P Q m = if 0 ≤ P2 0 3 then P2 else zup (vte P2 Q 3) 0 3 0 := by
    unfold von2
    dsimp only
    rw [hP2]
  refine ⟨?_, ?_, fun q => ?_, fun b1 hY h3 hN hm => ?_⟩
  · rw [hv]
    split
    · exact e0
    · rw [zup_ne (by omega), t2, e0]
  · intro j k hj
    rw [hv]
    split
    · exact er j k hj
    · rw [zup_ne (by omega), t1 j k hj, er j k hj]
  · rw [hv]
    split
    · rw [e1, e2]; exact ⟨rfl, rfl⟩
    · obtain ⟨x1, x2⟩ := t4 (by rw [e1]; exact q)
      rw [zup_ne (by omega), zup_ne (by omega), x1, x2, e1, e2]
      exact ⟨rfl, rfl⟩
  · obtain ⟨n1, n2⟩ := zq_rn2 (z := z) h hY h3 hN ha (fun i => r1 2 i (by decide)) r0
    rw [n1]
    rcases n2 with c | ⟨i, hi, c⟩
    · refine Or.inl ⟨c, ?_⟩
      obtain ⟨x1, x2⟩ := t5 (by rw [e1]; exact b1)
      have hlt : ¬ 0 ≤ P2 0 3 := by rw [e3, c]; decide
      rw [hv, if_neg hlt, zup_ne (by omega), zup_ne (by omega), x1, x2, e0, nI_pred]
      exact ⟨rfl, h.st (by omega)⟩
    · have hge : 0 ≤ P2 0 3 := by rw [e3, c]; exact nI_pos' (by omega)
      have hv2 : von2 P Q m = P2 := by rw [hv, if_pos hge]
      exact Or.inr ⟨i, hi, c, by rw [hv2, e1, b1], by rw [hv2, e2], by rw [hv2, e3, c]⟩
section ZQKL
variable {Q : zFn} {K : zKn} {X0 : zFn} {n e : Nat}
/-- a stage's first name -/
theorem zq_first (h : zqI Q K X0 n e) {P X : zFn} {a nl np nh k : Nat} {V : zV} (hJ : zqJ X0 e a P X (zqKp V P X a nl np nh k (V 4 k 0).toNatClampNeg)) (ha : a < e) (hnp : np ≤ 20) {P' : zFn} (hP' : P' = if V 4 k 0 < 6 then von2 P Q np else vte (von2 P Q np) Q 4) : zqJ X0 e (a + 1) P' (xas X 18) (zqKl (vaca (vast V k) k (P' 0 3)) P' (xas X 18) (a + 1) nl np nh k (vaca (vast V k) k (P' 0 3) 2 (zsf (P' 0 3) 20) 1)) := by
  have he := h.2.1
  obtain ⟨v0, v1, v2, v3⟩ := von2_r (m := np) (z := 18) (X := X) h hJ.1 ha
  obtain ⟨t1, t2, t3, t4, t5⟩ := vte_r (P := von2 P Q np) (Q := Q) (x := 4)
  have hst : vsta Q (von2 P Q np 0 0 - 1) = X0 3 a := by rw [v0, nI_pred]; exact h.st (by omega)
  have hr : ∀ j k, 0 < j → P' j k = P j k := by
    intro j k hj
    rw [hP']
    split
    · exact v1 j k hj
    · rw [t1 j k hj, v1 j k hj]
  have hNK := (hJ.nk (P' := P') (z := 18) ha he (Or.inr (by decide)) hr).1
  have hx5 := xas_5 (z := 18) hJ.2.1 (show a < 401 by omega)
  refine hJ.as ha he ?_ (fun q => ?_) (fun b1 b2 T hT => ?_)
  · rw [hP']
    split
    · exact v0
    · rw [t2, v0]
  · obtain ⟨x1, x2⟩ := v2 q
    rw [hP']
    split
    · exact ⟨x1, x2⟩
    · obtain ⟨x3, x4⟩ := t4 (by rw [x1]; exact q)
      rw [x3, x4]
      exact ⟨x1, x2⟩
  · obtain ⟨h1, h2, h3, h4, h5, h6, h7, h8, h9, h10, h11, h12, h13, h14⟩ := hT
    generalize (V 4 k 0).toNatClampNeg = j at h10 h11 h12 h13 h14
    have e1 := h1.2.2.2.2.1
    have hc := v3 b1 hJ.2.2.2.1 hJ.2.1 h2.2.1 hnp
    have hz18 : zstp (xas X 18) a T = if rnmL (xas X 18) a 2 a 0 0 = -1 then (3, T) else rec18 T (xas X 18) a k j (rnmL (xas X 18) a 2 a 0 0).toNatClampNeg := by
      rw [zstp_18 hx5, e1, nI_clamp (by omega), Nat.add_sub_cancel, h11, nI_clamp (by omega)]
    have hok : ∀ q, (rnmL (xas X 18) a 2 a 0 0 = -1 ∨ (xas X 18 5 a = 18 ∧ ∃ p j, p < 20 ∧ rnmL (xas X 18) a 2 a 0 0 = nI p ∧ j ≤ 6 ∧ T 14 k = nI j ∧ (j < 6 → T 15 (6 * k + j) = nI 0)) ∨ q) → q = (xas X 18 5 a = 19 ∧ ∃ p j z q0, p < 20 ∧ rnmL (xas X 18) a 2 a 0 0 = nI p ∧ j < 6 ∧ T 14 k = nI (j + 1) ∧ z ≤ 20 ∧ T 15 (6 * k + j) = nI z ∧ (z = 20 → T 5 q0 = T 5 p → ∃ i, i < 20 ∧ T 16 (120 * k + 20 * j + i) = nI p) ∧ T 16 (120 * k + 20 * j) = nI q0 ∧ q0 < 20) → zOK (xas X 18) a T := by
      intro q hq e
      subst e
      exact Or.inr (Or.inr (Or.inr (Or.inr (Or.inr (Or.inr (Or.inr (Or.inr (Or.inr (Or.inr (Or.inr ⟨Or.inl hx5, k, h6, e1, hq⟩))))))))))
    rw [hz18]
    rcases hc with ⟨c1, c2, c3⟩ | ⟨p, hp, c1, c2, c3, c4⟩
    · refine ⟨hok _ (Or.inl c1) rfl, 3, T, by rw [if_pos c1], fun q => absurd q (by decide), fun _ => ?_⟩
      rw [hP']
      split
      · exact ⟨c2, c3⟩
      · obtain ⟨x3, x4⟩ := t4 (by rw [c2]; decide)
        rw [x3, x4]
        exact ⟨c2, c3⟩
    · refine ⟨hok _ (Or.inr (Or.inl ⟨hx5, p, j, by omega, c1, h12, h11, fun hj => h14 j (Nat.le_refl _) hj⟩)) rfl, ?_⟩
      rw [if_neg (by rw [c1]; exact nI_m1 (by omega)), c1, nI_clamp (by omega)]
      unfold rec18
      by_cases c : j = 6
      · refine ⟨4, T, by rw [if_pos (by rw [c]; rfl)], fun q => absurd q (by decide), fun _ => ?_⟩
        obtain ⟨x1, x2⟩ := t5 c2
        rw [hP', if_neg (by rw [h10, c]; decide), x1, x2]
        exact ⟨rfl, hst⟩
      · have hj6 : j < 6 := by omega
        have hPv : P' = von2 P Q np := by rw [hP', if_pos (by rw [h10]; exact nI_lt (b := 6) hj6 (by decide))]
        rw [if_neg (show ¬ nI j = 6 from fun q => c ((nI_eq (b := 6) (by omega) (by decide)).mp q))]
        refine ⟨0, zup (zup (zup T 14 k (nI (j + 1))) 16 (120 * k + 20 * j + 0) (nI p)) 15 (6 * k + j) (nI 1), ?_, fun _ => ⟨by rw [hPv, c2], by rw [hPv, c3, b2], ?_⟩, fun q => absurd rfl q⟩
        · show recT _ k j 0 p = _
          unfold recT
          dsimp only
          rw [zup_ne (by omega), zup_ne (by omega), h14 j (Nat.le_refl _) hj6]
          rfl
        · have hp3 : P' 0 3 = nI p := by rw [hPv, c4]
          obtain ⟨V3, hV3⟩ : ∃ V3, vaca (vast V k) k (P' 0 3) = V3 := ⟨_, rfl⟩
          have eV3 : V3 = zvu (zvu (zvu (zvu V 7 k j 0) 4 k 0 (nI (j + 1))) 8 k (20 * j + 0) (nI p)) 7 k j (nI (0 + 1)) := by
            rw [← hV3, zq_ast h10 hj6, hp3, zq_aca (z := 0) (j := j) (by rw [zvu_same]) hj6 (by rw [zvu_ne (by omega), zvu_same]; rfl) (by decide)]
          rw [hV3, hp3, zsf_nI (by omega) (by decide)]
          have hZ : zqBT nl np nh k T (zup (zup (zup T 14 k (nI (j + 1))) 16 (120 * k + 20 * j + 0) (nI p)) 15 (6 * k + j) (nI 1)) := ((zqBT.rf.up (by omega)).up (by omega)).up (by omega)
          have hV : zqB nl np nh k V V3 := by
            rw [eV3]
            exact (((zqB.rf.up (by omega)).up (by omega)).up (by omega)).up (by omega)
          have hV2 : V3 2 p 1 = V 2 p 1 := by rw [eV3]; simp [zvu]
          have hhome : V 2 p 1 = T 5 p := (h3.2.1 p hp).2.1
          have hcS : ∀ i, i < j → zqcS V3 (zup (zup (zup T 14 k (nI (j + 1))) 16 (120 * k + 20 * j + 0) (nI p)) 15 (6 * k + j) (nI 1)) np k i := by
            intro i hi
            obtain ⟨z, b1, b2, b3, b4⟩ := h13 i hi
            refine ⟨z, b1, by rw [zup_ne (by omega), zup_ne (by omega), zup_ne (by omega), b2], ?_, fun w hw => ?_⟩
            · rw [eV3, zvu_ne (by omega), zvu_ne (by omega), zvu_ne (by omega), zvu_ne (by omega), b3]
            · rw [zup_ne (by omega), zup_ne (by omega), zup_ne (by omega), eV3, zvu_ne (by omega), zvu_ne (by omega), zvu_ne (by omega), zvu_ne (by omega)]
              exact b4 w hw
          have hS : zqSt V3 (zup (zup (zup T 14 k (nI (j + 1))) 16 (120 * k + 20 * j + 0) (nI p)) 15 (6 * k + j) (nI 1)) np k j 1 := by
            refine ⟨by decide, zup_same _ _ _ _, by rw [eV3, zvu_same], fun i hi => ?_, fun i i' a1 a2 => by omega⟩
            have : i = 0 := by omega
            subst this
            rw [zup_ne (by omega), zup_same, eV3, zvu_ne (by omega), zvu_same]
            exact ⟨rfl, zin_nI hp (by omega)⟩
          refine ⟨j, 1, p, ⟨h1.cg (fun f hf => by rw [eV3]; simp [zvu]) (fun f hf => by rw [zup_ne (by omega), zup_ne (by omega), zup_ne (by omega)]), hNK.n3 h2, h3.fr hV hZ, ((h4.up (by omega)).up (by omega)).up (by omega), ((h5.up (Or.inr (Or.inr (Or.inl ⟨Or.inr rfl, zin_nI (by omega) (by decide)⟩)))).up (Or.inr (Or.inr (Or.inr (Or.inr ⟨rfl, zin_nI (by omega) (by decide)⟩))))).up (Or.inr (Or.inr (Or.inr (Or.inl ⟨rfl, ⟨by decide, by decide⟩⟩)))), h6, ?_, ?_, ?_, ?_, ?_, by omega, fun i hi => ?_, fun i a1 a2 => ?_⟩, hj6, hS, Nat.le_refl _, ?_, hp, ?_⟩
          · rw [eV3]; simp [zvu]; exact h7
          · rw [eV3, zup_ne (by omega), zup_ne (by omega), zup_ne (by omega)]; simp [zvu]; exact h8
          · rw [zup_ne (by omega), zup_ne (by omega), zup_ne (by omega)]; exact h9
          · rw [eV3]; simp [zvu]
          · rw [zup_ne (by omega), zup_ne (by omega), zup_same]
          · by_cases q : i = j
            · subst q
              exact ⟨1, by decide, hS.2.1, hS.2.2.1, hS.2.2.2.1⟩
            · exact hcS i (by omega)
          · rw [zup_ne (by omega), zup_ne (by omega), zup_ne (by omega)]
            exact h14 i (by omega) a2
          · rw [zup_ne (by omega)]
            exact zup_same _ _ _ _
          · rw [hV2, hhome, zup_ne (by omega), zup_ne (by omega), zup_ne (by omega)]
/-- the same pigeon twice -/
theorem zq_dup {V : zV} {T : zFn} {np k j z p : Nat} (hS : zqSt V T np k j z) (hst : V 4 k 0 = nI (j + 1)) (hj : j < 6) : (vlshW V k (nI p) = 0 ∧ (∀ i, i < z → T 16 (120 * k + 20 * j + i) ≠ nI p) ∧ recL T k j z p z 0 = recT T k j z p) ∨ (vlshW V k (nI p) ≠ 0 ∧ (∃ i, i < z ∧ T 16 (120 * k + 20 * j + i) = nI p) ∧ recL T k j z p z 0 = (7, T)) := by
  obtain ⟨s1, s2, s3, s4, s5⟩ := hS
  unfold vlshW
  rw [hst, nI_pred, vsize_nI hj s3, nI_clamp (by omega)]
  have key : ∀ m i, i + m = z → (vlsh V k (nI p) (nI j) m i = 0 ∧ (∀ c, i ≤ c → c < z → T 16 (120 * k + 20 * j + c) ≠ nI p) ∧ recL T k j z p m i = recT T k j z p) ∨ (vlsh V k (nI p) (nI j) m i ≠ 0 ∧ (∃ c, c < z ∧ T 16 (120 * k + 20 * j + c) = nI p) ∧ recL T k j z p m i = (7, T)) := by
    intro m
    induction m with
    | zero =>
      intro i hi
      exact Or.inl ⟨rfl, fun c a1 a2 => by omega, rfl⟩
    | succ m ih =>
      intro i hi
      have hv : vcar V k (nI j) (nI i) = T 16 (120 * k + 20 * j + i) := by
        unfold vcar
        rw [show nI j * 20 = nI (j * 20) from pk_mul j 20, nI_add, zsf_nI (by omega) (by decide), show j * 20 + i = 20 * j + i by omega]
        exact (s4 i (by omega)).1
      rw [vlsh, recL, hv]
      by_cases c : T 16 (120 * k + 20 * j + i) = nI p
      · rw [if_pos c, if_pos c]
        exact Or.inr ⟨by decide, ⟨i, by omega, c⟩, rfl⟩
      · rw [if_neg c, if_neg c]
        rcases ih (i + 1) (by omega) with ⟨w1, w2, w3⟩ | w
        · refine Or.inl ⟨w1, fun q a1 a2 => ?_, w3⟩
          by_cases d : q = i
          · subst d; exact c
          · exact w2 q (by omega) a2
        · exact Or.inr w
  rcases key z 0 (by omega) with ⟨w1, w2, w3⟩ | w
  · exact Or.inl ⟨w1, fun i hi => w2 i (by omega) hi, w3⟩
  · exact Or.inr w
theorem zq_pig20 {V : zV} {T : zFn} {np k j p : Nat} (hS : zqSt V T np k j 20) (hnp : np ≤ 20) (hp : p < np) : ∃ i, i < 20 ∧ T 16 (120 * k + 20 * j + i) = nI p := by
  obtain ⟨s1, s2, s3, s4, s5⟩ := hS
  have hx : ∀ i, i < 20 → T 16 (120 * k + 20 * j + i) = nI (T 16 (120 * k + 20 * j + i)).toNatClampNeg ∧ (T 16 (120 * k + 20 * j + i)).toNatClampNeg < 20 := by
    intro i hi
    obtain ⟨c, hc, ec⟩ := (s4 i hi).2.ex (show np < 2 ^ 31 by omega)
    rw [ec, nI_clamp (by omega)]
    exact ⟨rfl, by omega⟩
  obtain ⟨i, hi, e⟩ := fb_onto (n := 20) (f := fun i => (T 16 (120 * k + 20 * j + i)).toNatClampNeg) (fun i hi => (hx i hi).2) (fun i i' a1 a2 q => s5 i i' a1 a2 (by rw [(hx i (by omega)).1, (hx i' a2).1]; exact congrArg nI q)) (y := p) (by omega)
  exact ⟨i, hi, by rw [(hx i hi).1]; exact congrArg nI e⟩
/-- a further name of a stage -/
theorem zq_more (h : zqI Q K X0 n e) {P X : zFn} {a nl np nh k : Nat} {V : zV} {y : Int32} (hJ : zqJ X0 e a P X (zqKl V P X a nl np nh k y)) (ha : a < e) (hnp : np ≤ 20) {P3 P4 : zFn} (hP3 : P3 = if V 2 (zsf (von2 P Q np 0 3) 20) 1 = y then von2 P Q np else vte (von2 P Q np) Q 6) (hP4 : P4 = if vlshW V k (P3 0 3) = 0 then P3 else vte P3 Q 7) : zqJ X0 e (a + 1) P4 (xas X 19) (zqKl (vaca V k (P4 0 3)) P4 (xas X 19) (a + 1) nl np nh k y) := by
  have he := h.2.1
  obtain ⟨v0, v1, v2, v3⟩ := von2_r (m := np) (z := 19) (X := X) h hJ.1 ha
  obtain ⟨t1, t2, t3, t4, t5⟩ := vte_r (P := von2 P Q np) (Q := Q) (x := 6)
  obtain ⟨u1, u2, u3, u4, u5⟩ := vte_r (P := P3) (Q := Q) (x := 7)
  have hst : vsta Q (von2 P Q np 0 0 - 1) = X0 3 a := by rw [v0, nI_pred]; exact h.st (by omega)
  have p30 : P3 0 0 = nI (a + 1) := by
    rw [hP3]
    split
    · exact v0
    · rw [t2, v0]
  have p33 : P3 0 3 = von2 P Q np 0 3 := by
    rw [hP3]
    split
    · rfl
    · exact t3 3 (by decide)
  have p3r : ∀ j k, 0 < j → P3 j k = P j k := by
    intro j k hj
    rw [hP3]
    split
    · exact v1 j k hj
    · rw [t1 j k hj, v1 j k hj]
  have p43 : P4 0 3 = von2 P Q np 0 3 := by
    rw [hP4]
    split
    · exact p33
    · rw [u3 3 (by decide), p33]
  have p4r : ∀ j k, 0 < j → P4 j k = P j k := by
    intro j k hj
    rw [hP4]
    split
    · exact p3r j k hj
    · rw [u1 j k hj, p3r j k hj]
  have keep : von2 P Q np 0 1 ≠ 0 → P4 0 1 = von2 P Q np 0 1 ∧ P4 0 2 = von2 P Q np 0 2 := by
    intro q
    have q3 : P3 0 1 = von2 P Q np 0 1 ∧ P3 0 2 = von2 P Q np 0 2 := by
      rw [hP3]
      split
      · exact ⟨rfl, rfl⟩
      · exact t4 q
    rw [hP4]
    split
    · exact q3
    · obtain ⟨x1, x2⟩ := u4 (by rw [q3.1]; exact q)
      rw [x1, x2]
      exact q3
  have hNK := (hJ.nk (P' := P4) (z := 19) ha he (Or.inr (by decide)) p4r).1
  have hx5 := xas_5 (z := 19) hJ.2.1 (show a < 401 by omega)
  refine hJ.as ha he ?_ (fun q => ?_) (fun b1 b2 T hT => ?_)
  · rw [hP4]
    split
    · exact p30
    · rw [u2, p30]
  · obtain ⟨x1, x2⟩ := v2 q
    obtain ⟨x3, x4⟩ := keep (by rw [x1]; exact q)
    rw [x3, x4]
    exact ⟨x1, x2⟩
  · obtain ⟨j, z, q0, ⟨h1, h2, h3, h4, h5, h6, h7, h8, h9, h10, h11, h12, h13, h14⟩, hj6, hS, hz1, hq0, hq0n, hy⟩ := hT
    have e1 := h1.2.2.2.2.1
    have hc := v3 b1 hJ.2.2.2.1 hJ.2.1 h2.2.1 hnp
    have hz20 : z ≤ 20 := hS.1
    have hz19 : zstp (xas X 19) a T = if rnmL (xas X 19) a 2 a 0 0 = -1 then (3, T) else rec19 T (xas X 19) a k j z (rnmL (xas X 19) a 2 a 0 0).toNatClampNeg q0 := by
      rw [zstp_19 hx5, e1, nI_clamp (by omega), Nat.add_sub_cancel, h11, nI_clamp (by omega), Nat.add_sub_cancel, hS.2.1, nI_clamp (by omega), hq0, nI_clamp (by omega)]
    rw [hz19]
    rcases hc with ⟨c1, c2, c3⟩ | ⟨p, hp, c1, c2, c3, c4⟩
    · refine ⟨Or.inr (Or.inr (Or.inr (Or.inr (Or.inr (Or.inr (Or.inr (Or.inr (Or.inr (Or.inr (Or.inr ⟨Or.inr hx5, k, h6, e1, Or.inl c1⟩)))))))))), 3, T, by rw [if_pos c1], fun q => absurd q (by decide), fun _ => ?_⟩
      obtain ⟨x3, x4⟩ := keep (by rw [c2]; decide)
      rw [x3, x4]
      exact ⟨c2, c3⟩
    · refine ⟨Or.inr (Or.inr (Or.inr (Or.inr (Or.inr (Or.inr (Or.inr (Or.inr (Or.inr (Or.inr (Or.inr ⟨Or.inr hx5, k, h6, e1, Or.inr (Or.inr ⟨hx5, p, j, z, q0, by omega, c1, hj6, h11, hz20, hS.2.1, fun q _ => ?_, hq0, by omega⟩)⟩)))))))))), ?_⟩
      · subst q
        exact zq_pig20 hS hnp hp
      have hhome : V 2 p 1 = T 5 p := (h3.2.1 p hp).2.1
      have hdup := zq_dup (p := p) hS h10 hj6
      rw [if_neg (by rw [c1]; exact nI_m1 (by omega)), c1, nI_clamp (by omega)]
      unfold rec19
      rw [if_neg (nI_nle (by omega) (by omega))]
      have hcond : V 2 (zsf (von2 P Q np 0 3) 20) 1 = y ↔ T 5 q0 = T 5 p := by
        rw [c4, zsf_nI (by omega) (by decide), hhome, hy]
        exact eq_comm
      by_cases d : T 5 q0 = T 5 p
      · have eP3 : P3 = von2 P Q np := by rw [hP3, if_pos (hcond.mpr d)]
        rw [if_pos d]
        rcases hdup with ⟨d1, d2, d3⟩ | ⟨d1, d2, d3⟩
        · have eP4 : P4 = von2 P Q np := by rw [hP4, eP3, c4, if_pos d1]
          have hz19' : z < 20 := by
            rcases Nat.lt_or_ge z 20 with w | w
            · exact w
            · have : z = 20 := by omega
              subst this
              obtain ⟨i, hi, ei⟩ := zq_pig20 hS hnp hp
              exact absurd ei (d2 i hi)
          obtain ⟨s1, s2, s3, s4, s5⟩ := hS
          refine ⟨0, zup (zup T 16 (120 * k + 20 * j + z) (nI p)) 15 (6 * k + j) (nI (z + 1)), ?_, fun _ => ⟨by rw [eP4, c2], by rw [eP4, c3, b2], ?_⟩, fun q => absurd rfl q⟩
          · rw [d3]
            unfold recT
            dsimp only
            rw [zup_ne (by omega), s2, nI_1]
          · have hp3 : P4 0 3 = nI p := by rw [eP4, c4]
            obtain ⟨V3, hV3⟩ : ∃ V3, vaca V k (P4 0 3) = V3 := ⟨_, rfl⟩
            have eV3 : V3 = zvu (zvu V 8 k (20 * j + z) (nI p)) 7 k j (nI (z + 1)) := by
              rw [← hV3, hp3, zq_aca h10 hj6 s3 hz19']
            rw [hV3]
            have hZ : zqBT nl np nh k T (zup (zup T 16 (120 * k + 20 * j + z) (nI p)) 15 (6 * k + j) (nI (z + 1))) := (zqBT.rf.up (by omega)).up (by omega)
            have hV : zqB nl np nh k V V3 := by
              rw [eV3]
              exact (zqB.rf.up (by omega)).up (by omega)
            have hcS : ∀ i, i < j → zqcS V3 (zup (zup T 16 (120 * k + 20 * j + z) (nI p)) 15 (6 * k + j) (nI (z + 1))) np k i := by
              intro i hi
              obtain ⟨w, b1, b2, b3, b4⟩ := h13 i (by omega)
              refine ⟨w, b1, by rw [zup_ne (by omega), zup_ne (by omega), b2], ?_, fun c hc => ?_⟩
              · rw [eV3, zvu_ne (by omega), zvu_ne (by omega), b3]
              · rw [zup_ne (by omega), zup_ne (by omega), eV3, zvu_ne (by omega), zvu_ne (by omega)]
                exact b4 c hc
            have hS' : zqSt V3 (zup (zup T 16 (120 * k + 20 * j + z) (nI p)) 15 (6 * k + j) (nI (z + 1))) np k j (z + 1) := by
              refine ⟨by omega, zup_same _ _ _ _, by rw [eV3, zvu_same], fun i hi => ?_, fun i i' a1 a2 => ?_⟩
              · by_cases q : i = z
                · subst q
                  rw [zup_ne (by omega), zup_same, eV3, zvu_ne (by omega), zvu_same]
                  exact ⟨rfl, zin_nI hp (by omega)⟩
                · rw [zup_ne (by omega), zup_ne (by omega), eV3, zvu_ne (by omega), zvu_ne (by omega)]
                  exact s4 i (by omega)
              · rw [zup_ne (by omega), zup_ne (by omega)]
                by_cases q : i' = z
                · subst q
                  rw [zup_ne (by omega), zup_same]
                  exact d2 i a1
                · rw [zup_ne (by omega), zup_ne (by omega)]
                  exact s5 i i' a1 (by omega)
            refine ⟨j, z + 1, q0, ⟨h1.cg (fun f hf => by rw [eV3]; simp [zvu]) (fun f hf => by rw [zup_ne (by omega), zup_ne (by omega)]), hNK.n3 h2, h3.fr hV hZ, (h4.up (by omega)).up (by omega), (h5.up (Or.inr (Or.inr (Or.inr (Or.inr ⟨rfl, zin_nI (by omega) (by decide)⟩))))).up (Or.inr (Or.inr (Or.inr (Or.inl ⟨rfl, zin_nI (by omega) (by decide)⟩)))), h6, ?_, ?_, ?_, ?_, ?_, h12, fun i hi => ?_, fun i a1 a2 => ?_⟩, hj6, hS', by omega, ?_, hq0n, ?_⟩
            · rw [eV3]; simp [zvu]; exact h7
            · rw [eV3, zup_ne (by omega), zup_ne (by omega)]; simp [zvu]; exact h8
            · rw [zup_ne (by omega), zup_ne (by omega)]; exact h9
            · rw [eV3]; simp [zvu]; exact h10
            · rw [zup_ne (by omega), zup_ne (by omega)]; exact h11
            · by_cases q : i = j
              · subst q
                exact ⟨z + 1, hS'.1, hS'.2.1, hS'.2.2.1, hS'.2.2.2.1⟩
              · exact hcS i (by omega)
            · rw [zup_ne (by omega), zup_ne (by omega)]
              exact h14 i a1 a2
            · rw [zup_ne (by omega), zup_ne (by omega)]; exact hq0
            · rw [zup_ne (by omega), zup_ne (by omega)]; exact hy
        · refine ⟨7, T, d3, fun q => absurd q (by decide), fun _ => ?_⟩
          have e33 : P3 0 1 = 0 := by rw [eP3, c2]
          obtain ⟨x1, x2⟩ := u5 e33
          rw [hP4, p33, c4, if_neg d1, x1, x2, p30, nI_pred]
          exact ⟨rfl, h.st (by omega)⟩
      · rw [if_neg d]
        refine ⟨6, T, rfl, fun q => absurd q (by decide), fun _ => ?_⟩
        have eP3 : P3 = vte (von2 P Q np) Q 6 := by rw [hP3, if_neg (fun q => d (hcond.mp q))]
        obtain ⟨x1, x2⟩ := t5 c2
        have e31 : P3 0 1 = 6 := by rw [eP3, x1]
        have e32 : P3 0 2 = X0 3 a := by rw [eP3, x2, hst]
        rw [hP4]
        split
        · exact ⟨e31, e32⟩
        · obtain ⟨x3, x4⟩ := u4 (by rw [e31]; decide)
          rw [x3, x4]
          exact ⟨e31, e32⟩
end ZQKL
