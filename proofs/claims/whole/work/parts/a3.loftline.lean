/-! A LOFT'S LINE ON BOTH SIDES -/
def zqLp (V : zV) (P X : zFn) (a l np nh nk s s1 : Nat) (T : zFn) : Prop := zqCn V T (l + 1) np nh nk ∧ zqN3 P X a (l + 1) np nk ∧ zqC V T l np nh nk ∧ zqFr T l nk ∧ zqTB T ∧ l < 6 ∧ T 1 l = nI s1 ∧ V 1 l 0 = nI s ∧ s ≤ 6 ∧ s1 ≤ 6 ∧ V 1 l 3 = 0
  ∧ (∀ j, j < s → V 5 l j = T 2 (6 * l + j) ∧ V 6 l j = T 3 (6 * l + j) ∧ zix (T 2 (6 * l + j)) 64 ∧ zix (T 3 (6 * l + j)) 64) ∧ (0 < s → V 1 l 1 = T 2 (6 * l) ∧ V 1 l 2 = T 3 (6 * l)) ∧ V 1 l 4 = (if 1 < s then 1 else 0)
theorem zqTB.up {T : zFn} (h : zqTB T) {j k : Nat} {x : Int32} (hj : (j ≠ 5 ∧ j ≠ 6 ∧ j ≠ 1 ∧ j ≠ 14 ∧ j ≠ 15 ∧ j ≠ 16) ∨ ((j = 5 ∨ j = 6) ∧ zix x 6) ∨ ((j = 1 ∨ j = 14) ∧ zix x 7) ∨ (j = 15 ∧ zix x 21) ∨ (j = 16 ∧ zix x 20)) : zqTB (zup T j k x) := by
  obtain ⟨h1, h2, h3, h4, h5⟩ := h
  have key : ∀ j' k' N, (j' = 5 ∨ j' = 6) ∧ N = 6 ∨ (j' = 1 ∨ j' = 14) ∧ N = 7 ∨ j' = 15 ∧ N = 21 ∨ j' = 16 ∧ N = 20 → zix (T j' k') N → zix (zup T j k x j' k') N := by
    intro j' k' N hN hz
    by_cases e : j' = j ∧ k' = k
    · obtain ⟨rfl, rfl⟩ := e
      rw [zup_same]
      rcases hj with hj | ⟨hj, hx⟩ | ⟨hj, hx⟩ | ⟨hj, hx⟩ | ⟨hj, hx⟩
      · omega
      · have : N = 6 := by omega
        subst this; exact hx
      · have : N = 7 := by omega
        subst this; exact hx
      · have : N = 21 := by omega
        subst this; exact hx
      · have : N = 20 := by omega
        subst this; exact hx
    · rw [zup_ne e]
      exact hz
  exact ⟨fun p hp => ⟨key 5 p 6 (by omega) (h1 p hp).1, key 6 p 6 (by omega) (h1 p hp).2⟩, fun i hi => key 1 i 7 (by omega) (h2 i hi), fun k hk => key 14 k 7 (by omega) (h3 k hk), fun i hi => key 15 i 21 (by omega) (h4 i hi), fun i hi => key 16 i 20 (by omega) (h5 i hi)⟩
theorem zqFr.up {T : zFn} {bl bk : Nat} (h : zqFr T bl bk) {j k : Nat} {x : Int32} (hj : (j ≠ 4 ∧ j ≠ 14 ∧ j ≠ 15) ∨ (j = 4 ∧ k < bl) ∨ (j = 14 ∧ k < bk) ∨ (j = 15 ∧ k < 6 * bk)) : zqFr (zup T j k x) bl bk := by
  obtain ⟨h1, h2⟩ := h
  refine ⟨fun i a b => by rw [zup_ne (by omega)]; exact h1 i a b, fun i a b => ⟨by rw [zup_ne (by omega)]; exact (h2 i a b).1, fun c d => by rw [zup_ne (by omega)]; exact (h2 i a b).2 c d⟩⟩
theorem zqFr.more {T : zFn} {bl bk bl2 bk2 : Nat} (h : zqFr T bl bk) (h1 : bl ≤ bl2) (h2 : bk ≤ bk2) : zqFr T bl2 bk2 := ⟨fun i a b => h.1 i (by omega) b, fun k a b => h.2 k (by omega) b⟩
theorem zqCn.cg {V U : zV} {T Z : zFn} {nl np nh nk : Nat} (h : zqCn V T nl np nh nk) (hV : ∀ f, f < 4 → U 0 0 f = V 0 0 f) (hT : ∀ f, f < 4 → Z 0 f = T 0 f) : zqCn U Z nl np nh nk := by
  unfold zqCn
  rw [hV 0 (by decide), hV 1 (by decide), hV 2 (by decide), hV 3 (by decide), hT 0 (by decide), hT 1 (by decide), hT 2 (by decide), hT 3 (by decide)]
  exact h
theorem zq_asp {V : zV} {l s : Nat} {x y : Int32} (h : V 1 l 0 = nI s) (hs : s < 6) : vasp V l x y = if s = 0 then zvu (zvu (zvu (zvu (zvu V 5 l s x) 6 l s y) 1 l 1 x) 1 l 2 y) 1 l 0 (nI (s + 1)) else zvu (zvu (zvu (zvu V 5 l s x) 6 l s y) 1 l 4 1) 1 l 0 (nI (s + 1)) := by
  unfold vasp
  rw [h, if_neg (nI_pos (by omega)), if_neg (nI_ge hs (by omega)), if_pos (nI_lt hs (by decide)), zsf_nI hs (by decide)]
  dsimp only
  by_cases c : s = 0
  · subst c
    rw [if_pos (show nI 0 = (0 : Int32) from rfl), if_pos rfl]
    rw [show zvu (zvu (zvu (zvu V 5 l 0 x) 6 l 0 y) 1 l 1 x) 1 l 2 y 1 l 0 = nI 0 by simp [zvu, h], nI_1]
  · rw [if_neg (nI_ne0 (by omega) (by omega)), if_neg c]
    rw [show zvu (zvu (zvu V 5 l s x) 6 l s y) 1 l 4 1 1 l 0 = nI s by simp [zvu, h], nI_1]
theorem zq_sp1 {V : zV} {P X P' X' : zFn} {a b l np nh nk s : Nat} {T : zFn} {x y : Int32} (h : zqLp V P X a l np nh nk s (s + 1) T) (hN : zqNK P X a P' X' b) (hx : zix x 64) (hy : zix y 64) : zqLp (vasp V l x y) P' X' b l np nh nk (s + 1) (s + 1) (zup (zup T 2 (6 * l + s) x) 3 (6 * l + s) y) := by
  obtain ⟨h1, h2, h3, h4, h5, h6, h7, h8, h9, h10, h11, h12, h13, h14⟩ := h
  have hT : zqBT l np nh nk T (zup (zup T 2 (6 * l + s) x) 3 (6 * l + s) y) := zqBT.up (zqBT.up zqBT.rf (by omega)) (by omega)
  have hV : zqB l np nh nk V (vasp V l x y) := by
    rw [zq_asp h8 (by omega)]
    split
    · exact zqB.up (zqB.up (zqB.up (zqB.up (zqB.up zqB.rf (by omega)) (by omega)) (by omega)) (by omega)) (by omega)
    · exact zqB.up (zqB.up (zqB.up (zqB.up zqB.rf (by omega)) (by omega)) (by omega)) (by omega)
  have hV0 : ∀ f, f < 4 → vasp V l x y 0 0 f = V 0 0 f := by
    intro f hf
    rw [zq_asp h8 (by omega)]
    split <;> simp [zvu]
  refine ⟨h1.cg hV0 (fun f hf => by rw [zup_ne (by omega), zup_ne (by omega)]), hN.n3 h2, h3.fr hV hT, (h4.up (by omega)).up (by omega), (h5.up (by omega)).up (by omega), h6, by rw [zup_ne (by omega), zup_ne (by omega)]; exact h7, ?_, by omega, h10, ?_, fun j hj => ?_, fun _ => ?_, ?_⟩
  · rw [zq_asp h8 (by omega)]
    split <;> simp [zvu]
  · rw [zq_asp h8 (by omega)]
    split <;> simp [zvu, h11]
  · by_cases e : j = s
    · subst e
      rw [zup_ne (by omega), zup_same, zup_same]
      refine ⟨?_, ?_, hx, hy⟩
      · rw [zq_asp h8 (by omega)]
        split <;> simp [zvu]
      · rw [zq_asp h8 (by omega)]
        split <;> simp [zvu]
    · rw [zup_ne (by omega), zup_ne (by omega), zup_ne (by omega), zup_ne (by omega)]
      have q := h12 j (by omega)
      rw [zq_asp h8 (by omega)]
      split
      · omega
      · simpa [zvu, e] using q
  · by_cases c : s = 0
    · subst c
      rw [zq_asp h8 (by omega), if_pos rfl]
      simp [zvu, zup]
    · have q := h13 (by omega)
      rw [zup_ne (by omega), zup_ne (by omega), zup_ne (by omega), zup_ne (by omega), zq_asp h8 (by omega), if_neg c]
      simpa [zvu] using q
  · by_cases c : s = 0
    · subst c
      rw [zq_asp h8 (by omega), if_pos rfl]
      rw [if_neg (show ¬ 1 < 0 by decide)] at h14
      simp [zvu, h14]
    · rw [zq_asp h8 (by omega), if_neg c, if_pos (by omega)]
      simp [zvu]
theorem zq_z67 {X0 : zFn} {M : zFn → Prop} {l s : Nat} (hM : ∀ T, M T → l < 6 ∧ s < 6 ∧ T 0 0 = nI (l + 1) ∧ T 1 l = nI (s + 1)) : zqZ X0 M 6 2 (6 * l + s) 0 63 ∧ zqZ X0 M 7 3 (6 * l + s) 0 63 := by
  refine ⟨fun T hT X' t hY h5 h2 => ?_, fun T hT X' t hY h5 h2 => ?_⟩
  · obtain ⟨hl, hs, e1, e2⟩ := hM T hT
    refine ⟨Or.inr (Or.inr (Or.inr (Or.inl ⟨Or.inl h5, h2, l, s, hl, hs, e1, e2⟩))), ?_⟩
    rw [zstp_6 h5, e1, nI_clamp (by omega), Nat.add_sub_cancel, e2, nI_clamp (by omega), Nat.add_sub_cancel]
    unfold reo6
    rw [rno0_cg hY]
  · obtain ⟨hl, hs, e1, e2⟩ := hM T hT
    refine ⟨Or.inr (Or.inr (Or.inr (Or.inl ⟨Or.inr h5, h2, l, s, hl, hs, e1, e2⟩))), ?_⟩
    rw [zstp_7 h5, e1, nI_clamp (by omega), Nat.add_sub_cancel, e2, nI_clamp (by omega), Nat.add_sub_cancel]
    unfold reo7
    rw [rno0_cg hY]
theorem zix_rin {v : Int32} (h : rin v 0 63 ≠ 0) : zix v 64 := by
  obtain ⟨j, hj, rfl⟩ := rin_ex (m := 63) (by decide) h
  exact zin_nI (by omega) (by decide)
section ZQLL
variable {Q : zFn} {K : zKn} {X0 : zFn} {n e : Nat}
/-- one spot of a loft -/
theorem zq_lsp (h : zqI Q K X0 n e) {P X : zFn} {a l np nh nk s : Nat} {V : zV} (hJ : zqJ X0 e a P X (fun T => s < 6 ∧ zqLp V P X a l np nh nk s (s + 1) T)) : (vrs P Q K).1 = (rsp X 6).1 ∧ (((vrs P Q K).1 = 0 ∧ zqFl e (vrs P Q K).2 (rsp X 6).2) ∨ ((vrs P Q K).1 = 1 ∧ zqJ X0 e (a + 3) (vrs P Q K).2 (rsp X 6).2 (fun T => zqLp (vasp V l ((vrs P Q K).2 0 4) ((vrs P Q K).2 0 5)) (vrs P Q K).2 (rsp X 6).2 (a + 3) l np nh nk (s + 1) (s + 1) T))) := by
  have hz := (zq_z67 (X0 := X0) (M := fun T => s < 6 ∧ zqLp V P X a l np nh nk s (s + 1) T) (l := l) (s := s) (fun T hT => ⟨hT.2.2.2.2.2.2.1, hT.1, hT.2.1.1.2.1, hT.2.2.2.2.2.2.2.1⟩)).1
  have hz2 : ∀ v, zqZ X0 (fun T' => ∃ T, (s < 6 ∧ zqLp V P X a l np nh nk s (s + 1) T) ∧ rin v 0 63 ≠ 0 ∧ T' = zup T 2 (6 * l + s) v) (6 + 1) (2 + 1) (6 * l + s) 0 63 := fun v => (zq_z67 (l := l) (s := s) (fun T' hT' => by
    obtain ⟨T, hT, -, rfl⟩ := hT'
    exact ⟨hT.2.2.2.2.2.2.1, hT.1, by rw [zup_ne (by omega)]; exact hT.2.1.1.2.1, by rw [zup_ne (by omega)]; exact hT.2.2.2.2.2.2.2.1⟩)).2
  obtain ⟨r1, r2⟩ := zq_spot h hJ (by decide) (by decide) hz hz2
  refine ⟨r1, ?_⟩
  rcases r2 with q | ⟨q1, q2, q3⟩
  · exact Or.inl q
  · refine Or.inr ⟨q1, q2.imp (fun _ T' hT' => ?_)⟩
    obtain ⟨T, hT, x1, x2, rfl⟩ := hT'
    exact zq_sp1 hT.2 q3 (zix_rin x1) (zix_rin x2)
/-- the end of the line -/
theorem zq_lT (h : zqI Q K X0 n e) {P X : zFn} {a l np nh nk : Nat} {V : zV} (hJ : zqJ X0 e a P X (fun T => ∃ s, 1 ≤ s ∧ zqLp V P X a l np nh nk s s T)) : (vrlT P V Q K l).1 = (rop X 3 8).1 ∧ (((vrlT P V Q K l).1 = 0 ∧ zqFl e (vrlT P V Q K l).2.1 (rop X 3 8).2) ∨ ((vrlT P V Q K l).1 = 1 ∧ ∃ b, a ≤ b ∧ zqJ X0 e b (vrlT P V Q K l).2.1 (rop X 3 8).2 (zqMB (vrlT P V Q K l).2.2 (vrlT P V Q K l).2.1 (rop X 3 8).2 b (l + 1) np nh nk))) := by
  have hz : zqZ X0 (fun T => ∃ s, 1 ≤ s ∧ zqLp V P X a l np nh nk s s T) 8 4 l 0 5 := by
    intro T hT X' t hY h5 h2
    obtain ⟨s, hs, hp⟩ := hT
    have e1 := hp.1.1.2.1
    have hl := hp.2.2.2.2.2.1
    refine ⟨Or.inr (Or.inr (Or.inr (Or.inr (Or.inl ⟨h5, h2, l, hl, e1⟩)))), ?_⟩
    rw [zstp_8 h5, e1, nI_clamp (by omega), Nat.add_sub_cancel]
    unfold reo8
    rw [rno0_cg hY]
  obtain ⟨r1, r2⟩ := zq_opt (lo := 0) (hi := 5) (w := 0) h hJ (q := 9) (qk := 3) (by decide) rfl (by decide) hz
  unfold vrlT
  dsimp only
  rcases r2 with ⟨q1, q2⟩ | ⟨q1, b, q2, q3, q4⟩
  · rw [if_pos q1]
    exact ⟨q1.symm.trans r1, Or.inl ⟨rfl, q2⟩⟩
  · rw [if_neg (by rw [q1]; decide)]
    refine ⟨q1.symm.trans r1, Or.inr ⟨rfl, b, q2, q3.imp (fun _ T' hT' => ?_)⟩⟩
    obtain ⟨T, ⟨s, hs, h1, h2, h3, h4, h5, h6, h7, h8, h9, h10, h11, h12, h13, h14⟩, hv⟩ := hT'
    obtain ⟨v, ev⟩ : ∃ v, (vro P Q K 9 0 5 0).2 0 3 = v := ⟨_, rfl⟩
    rw [ev] at hv ⊢
    have hn := h1.2.1.2.2
    have hVB : zqB l np nh nk V (zvu V 1 l 3 v) := zqB.up zqB.rf (by omega)
    have hfin : ∀ Z : zFn, zqBT l np nh nk T Z → (∀ f, f < 4 → Z 0 f = T 0 f) → zqFr Z (l + 1) nk → zqTB Z → Z 4 l = v → zix v 21 → (∀ j k, j ≠ 4 → Z j k = T j k) → zqMB (zvu V 1 l 3 v) (vro P Q K 9 0 5 0).2 (rop X 3 8).2 b (l + 1) np nh nk Z := by
      intro Z hZ hZ0 hF hTB h4l hv21 hsame
      refine ⟨h1.cg (fun f hf => by simp [zvu]) hZ0, q4.n3 h2, (h3.fr hVB hZ).more ⟨by omega, by omega⟩ ⟨Nat.le_refl _, by omega⟩ (fun i a1 a2 => ?_) (fun i a1 a2 => by omega) (fun i a1 a2 => by omega) (fun i a1 a2 => by omega), hF, hTB⟩
      have : i = l := by omega
      subst this
      refine ⟨s, hs, h9, by rw [hsame 1 i (by decide)]; exact h7, by simp [zvu]; exact h8, by rw [h4l]; simp [zvu], by rw [h4l]; exact hv21, fun j hj => ?_, ?_, ?_, by simpa [zvu] using h14⟩
      · rw [hsame 2 _ (by decide), hsame 3 _ (by decide)]
        simpa [zvu] using h12 j hj
      · rw [hsame 2 _ (by decide)]; simpa [zvu] using (h13 (by omega)).1
      · rw [hsame 3 _ (by decide)]; simpa [zvu] using (h13 (by omega)).2
    rcases hv with ⟨x1, rfl⟩ | ⟨rfl, x1⟩
    · refine hfin _ (zqBT.up zqBT.rf (by omega)) (fun f hf => by rw [zup_ne (by omega)]) ((h4.more (by omega) (Nat.le_refl _)).up (by omega)) (h5.up (by omega)) (zup_same _ _ _ _) ?_ (fun j k hj => by rw [zup_ne (by omega)])
      obtain ⟨j, hj, rfl⟩ := rin_ex (m := 5) (by decide) x1
      exact zin_nI (by omega) (by decide)
    · exact hfin _ zqBT.rf (fun _ _ => rfl) (h4.more (by omega) (Nat.le_refl _)) h5 (by rw [x1]; exact h4.1 l (Nat.le_refl _) h6) (by rw [x1]; exact ⟨by decide, by decide⟩) (fun _ _ _ => rfl)
/-- a further spot's word -/
theorem zq_then (h : zqI Q K X0 n e) {P X : zFn} {a l np nh nk : Nat} {V : zV} (hJ : zqJ X0 e a P X (fun T => ∃ s, 1 ≤ s ∧ zqLp V P X a l np nh nk s s T)) (ha : a < e) (hk : K a = 8) {P' : zFn} (hP' : P' = if V 1 l 0 < 6 then vat P else vte (vat P) Q 4) : zqJ X0 e (a + 1) P' (xas X 5) (fun T => (V 1 l 0).toNatClampNeg < 6 ∧ 1 ≤ (V 1 l 0).toNatClampNeg ∧ zqLp V P' (xas X 5) (a + 1) l np nh nk (V 1 l 0).toNatClampNeg ((V 1 l 0).toNatClampNeg + 1) T) := by
  have he := h.2.1
  obtain ⟨r1, r2⟩ := vat_r (P := P)
  have r0 := vat_0 hJ.1
  obtain ⟨t1, t2, t3, t4, t5⟩ := vte_r (P := vat P) (Q := Q) (x := 4)
  have hst : vsta Q (vat P 0 0 - 1) = X0 3 a := by rw [r0, nI_pred]; exact h.st (by omega)
  have hr : ∀ j k, 0 < j → P' j k = P j k := by
    intro j k hj
    rw [hP']
    split
    · exact r1 j k hj
    · rw [t1 j k hj, r1 j k hj]
  have hNK := (hJ.nk (P' := P') (z := 5) ha he (Or.inr (by decide)) hr).1
  have hY0 := hJ.2.2.2.1.tr0 (xas_Y (z := 5) hJ.2.1 (show a < 401 by omega))
  refine hJ.as ha he ?_ (fun q => ?_) (fun b1 b2 T hT => ?_)
  · rw [hP']
    split
    · exact r0
    · rw [t2, r0]
  · rw [hP']
    split
    · rw [r2 1 (by decide), r2 2 (by decide)]; exact ⟨rfl, rfl⟩
    · obtain ⟨x1, x2⟩ := t4 (by rw [r2 1 (by decide)]; exact q)
      rw [x1, x2, r2 1 (by decide), r2 2 (by decide)]; exact ⟨rfl, rfl⟩
  · obtain ⟨s, hs, h1, h2, h3, h4, h5, h6, h7, h8, h9, h10, h11, h12, h13, h14⟩ := hT
    have e1 := h1.1.2.1
    have hcl : (V 1 l 0).toNatClampNeg = s := by rw [h8, nI_clamp (by omega)]
    have hx5 := xas_5 (z := 5) hJ.2.1 (show a < 401 by omega)
    have hst5 : zstp (xas X 5) a T = reo5 T (xas X 5) a l := by
      rw [zstp_5 hx5, e1, nI_clamp (by omega), Nat.add_sub_cancel]
    refine ⟨Or.inr (Or.inr (Or.inl ⟨hx5, by rw [hY0.2.1, (h.kd (show a ≤ e by omega)).2.1, hk]; rfl, l, s - 1, h6, by omega, e1, by rw [show s - 1 + 1 = s by omega]; exact h7⟩)), ?_⟩
    rw [hst5, hcl]
    unfold reo5
    rw [h7]
    by_cases c : s = 6
    · refine ⟨4, T, by rw [if_pos (by rw [c]; rfl)], fun q => absurd q (by decide), fun _ => ?_⟩
      obtain ⟨x1, x2⟩ := t5 (by rw [r2 1 (by decide)]; exact b1)
      rw [hP', if_neg (by rw [h8, c]; decide), x1, x2]
      exact ⟨rfl, hst⟩
    · refine ⟨0, zup T 1 l (nI s + 1), by rw [if_neg (show ¬ nI s = 6 from fun q => c ((nI_eq (b := 6) (by omega) (by decide)).mp q))], fun _ => ?_, fun q => absurd rfl q⟩
      have hPv : P' = vat P := by rw [hP', if_pos (by rw [h8]; exact nI_lt (b := 6) (by omega) (by decide))]
      refine ⟨by rw [hPv, r2 1 (by decide), b1], by rw [hPv, r2 2 (by decide), b2], by omega, hs, h1.cg (fun _ _ => rfl) (fun f hf => by rw [zup_ne (by omega)]), hNK.n3 h2, h3.fr zqB.rf (zqBT.up zqBT.rf (by omega)), h4.up (by omega), h5.up (Or.inr (Or.inr (Or.inl ⟨Or.inl rfl, by rw [nI_1]; exact zin_nI (by omega) (by decide)⟩))), h6, by rw [zup_same, nI_1], h8, h9, by omega, h11, fun j hj => ?_, fun hj => ?_, h14⟩
      · rw [zup_ne (by omega), zup_ne (by omega)]; exact h12 j hj
      · rw [zup_ne (by omega), zup_ne (by omega)]; exact h13 hj
theorem zq_lL (h : zqI Q K X0 n e) {l np nh nk : Nat} : ∀ (m m' i a : Nat) (P X : zFn) (V : zV), zqJ X0 e a P X (fun T => ∃ s, 1 ≤ s ∧ zqLp V P X a l np nh nk s s T) → e - a < m → e - a < m' → (vrlL Q K l m i P V).1 = (rll m' X).1 ∧ (((vrlL Q K l m i P V).1 = 0 ∧ zqFl e (vrlL Q K l m i P V).2.1 (rll m' X).2) ∨ ((vrlL Q K l m i P V).1 = 1 ∧ ∃ b, a ≤ b ∧ zqJ X0 e b (vrlL Q K l m i P V).2.1 (rll m' X).2 (zqMB (vrlL Q K l m i P V).2.2 (vrlL Q K l m i P V).2.1 (rll m' X).2 b (l + 1) np nh nk)))
  | 0, _, _, a, _, _, _, hJ, h1, _ => absurd h1 (by omega)
  | m + 1, 0, _, a, _, _, _, hJ, _, h2 => absurd h2 (by omega)
  | m + 1, m' + 1, i, a, P, X, V, hJ, h1, h2 => by
    obtain ⟨k1, k2, k3⟩ := h.is hJ
    have k8 : X 2 (zsf (X 0 3) 401) = 2 ↔ K a = 8 := k2 8 (by decide)
    rw [vrlL, rll, k1]
    by_cases c : K a = 8
    · have ha := k3 (by omega)
      rw [if_pos c, if_pos (k8.mpr c)]
      dsimp only
      have go : ∀ P', P' = (if V 1 l 0 < 6 then vat P else vte (vat P) Q 4) → (if (vrs P' Q K).1 = 0 then ((0 : Int32), (vrs P' Q K).2, V) else vrlL Q K l m (i + 1) (vrs P' Q K).2 (vasp V l ((vrs P' Q K).2 0 4) ((vrs P' Q K).2 0 5))).1 = (if (rsp (xas X 5) 6).1 = 0 then ((0 : Int32), (rsp (xas X 5) 6).2) else rll m' (rsp (xas X 5) 6).2).1 ∧ (((if (vrs P' Q K).1 = 0 then ((0 : Int32), (vrs P' Q K).2, V) else vrlL Q K l m (i + 1) (vrs P' Q K).2 (vasp V l ((vrs P' Q K).2 0 4) ((vrs P' Q K).2 0 5))).1 = 0 ∧ zqFl e (if (vrs P' Q K).1 = 0 then ((0 : Int32), (vrs P' Q K).2, V) else vrlL Q K l m (i + 1) (vrs P' Q K).2 (vasp V l ((vrs P' Q K).2 0 4) ((vrs P' Q K).2 0 5))).2.1 (if (rsp (xas X 5) 6).1 = 0 then ((0 : Int32), (rsp (xas X 5) 6).2) else rll m' (rsp (xas X 5) 6).2).2) ∨ ((if (vrs P' Q K).1 = 0 then ((0 : Int32), (vrs P' Q K).2, V) else vrlL Q K l m (i + 1) (vrs P' Q K).2 (vasp V l ((vrs P' Q K).2 0 4) ((vrs P' Q K).2 0 5))).1 = 1 ∧ ∃ b, a ≤ b ∧ zqJ X0 e b (if (vrs P' Q K).1 = 0 then ((0 : Int32), (vrs P' Q K).2, V) else vrlL Q K l m (i + 1) (vrs P' Q K).2 (vasp V l ((vrs P' Q K).2 0 4) ((vrs P' Q K).2 0 5))).2.1 (if (rsp (xas X 5) 6).1 = 0 then ((0 : Int32), (rsp (xas X 5) 6).2) else rll m' (rsp (xas X 5) 6).2).2 (zqMB (if (vrs P' Q K).1 = 0 then ((0 : Int32), (vrs P' Q K).2, V) else vrlL Q K l m (i + 1) (vrs P' Q K).2 (vasp V l ((vrs P' Q K).2 0 4) ((vrs P' Q K).2 0 5))).2.2 (if (vrs P' Q K).1 = 0 then ((0 : Int32), (vrs P' Q K).2, V) else vrlL Q K l m (i + 1) (vrs P' Q K).2 (vasp V l ((vrs P' Q K).2 0 4) ((vrs P' Q K).2 0 5))).2.1 (if (rsp (xas X 5) 6).1 = 0 then ((0 : Int32), (rsp (xas X 5) 6).2) else rll m' (rsp (xas X 5) 6).2).2 b (l + 1) np nh nk))) := by
        intro P' hP'
        have J1 := zq_then h hJ ha c hP'
        obtain ⟨r1, r2⟩ := zq_lsp h (J1.imp (fun _ T hT => ⟨hT.1, hT.2.2⟩))
        rcases r2 with ⟨q1, q2⟩ | ⟨q1, q2⟩
        · rw [if_pos q1, if_pos (by rw [← r1]; exact q1)]
          exact ⟨rfl, Or.inl ⟨rfl, q2⟩⟩
        · rw [if_neg (by rw [q1]; decide), if_neg (by rw [← r1, q1]; decide)]
          obtain ⟨w1, w2⟩ := zq_lL h m m' (i + 1) (a + 1 + 3) _ _ _ (q2.imp (fun _ T hT => ⟨_, by omega, hT⟩)) (by omega) (by omega)
          refine ⟨w1, ?_⟩
          rcases w2 with w | ⟨w2, b, w3, w4⟩
          · exact Or.inl w
          · exact Or.inr ⟨w2, b, by omega, w4⟩
      by_cases d : V 1 l 0 < 6
      · rw [if_pos d]
        exact go (vat P) (by rw [if_pos d])
      · rw [if_neg d]
        exact go (vte (vat P) Q 4) (by rw [if_neg d])
    · rw [if_neg c, if_neg (fun q => c (k8.mp q))]
      exact zq_lT h hJ
/-- the whole line, behind its first word -/
theorem zq_loft (h : zqI Q K X0 n e) {P X : zFn} {a : Nat} {V : zV} (hG : zVG V) (hJ : zqJ X0 e a P X (zqMB V P X a (vc V 0) (vc V 1) (vc V 2) (vc V 3))) : (vrl P V Q K).1 = (rlof X).1 ∧ (((vrl P V Q K).1 = 0 ∧ zqFl e (vrl P V Q K).2.1 (rlof X).2) ∨ ((vrl P V Q K).1 = 1 ∧ ∃ b, a < b ∧ zqJ X0 e b (vrl P V Q K).2.1 (rlof X).2 (fun T => ∃ nl np nh nk, zqMB (vrl P V Q K).2.2 (vrl P V Q K).2.1 (rlof X).2 b nl np nh nk T))) := by
  have he := h.2.1
  obtain ⟨k1, k2, k3⟩ := h.is hJ
  have k20 : X 2 (zsf (X 0 3) 401) = 20 ↔ K a = 2 := k2 2 (by decide)
  have hm : vc V 0 ≤ 6 := hG.1.1.2
  have hv0 : V 0 0 0 = nI (vc V 0) := hG.1.1.1
  unfold vrl rlof
  dsimp only
  rw [k1]
  by_cases c : K a = 2
  · have ha := k3 (by omega)
    rw [if_pos c, if_pos (k20.mpr c)]
    have hx5 := xas_5 (z := 1) hJ.2.1 (show a < 401 by omega)
    have hY := xas_Y (z := 1) hJ.2.1 (show a < 401 by omega)
    have hY0 := hJ.2.2.2.1.tr0 hY
    obtain ⟨l, el⟩ : ∃ l, min (vc V 0) 5 = l := ⟨_, rfl⟩
    have hadd : vaddL V = vclL (zvu V 0 0 0 (zmin (nI (vc V 0) + 1) 6)) l := by
      unfold vaddL
      rw [hv0, znumL _ hm, el]
    have J1 : zqJ X0 e (a + 1) (vnn1 P Q (vc V 0)) (xas X 1) (fun T => zqLp (vaddL V) (vnn1 P Q (vc V 0)) (xas X 1) (a + 1) l (vc V 1) (vc V 2) (vc V 3) 0 1 T) := by
      refine zq_nn1 h hJ ha hm (fun T hT => ?_)
      obtain ⟨h1, h2, h3, h4, h5⟩ := hT
      have e1 := h1.1.2.1
      refine ⟨h2.1, Or.inr (Or.inl ⟨hx5, by rw [hY0.2.1, (h.kd (show a ≤ e by omega)).2.1, c]; rfl, vc V 0, hm, e1⟩), ?_, fun hlt p0 p1 p2 p3 => ?_⟩
      · rw [zstp_1 hx5, e1, nI_clamp (by omega)]
        rfl
      · have hl : vc V 0 = l := by omega
        rw [hl] at p1 p2 p3 h2 hadd ⊢
        rw [hl] at h1 h3 h4 hlt
        have hmin : zmin (nI l + 1) 6 = nI (l + 1) := by
          rw [nI_1]
          unfold zmin
          rw [if_neg (show ¬ 6 < nI (l + 1) from nI_nlt (a := 6) (by omega) (by decide))]
        rw [hmin] at hadd
        unfold U1
        have hZ : zqBT l (vc V 1) (vc V 2) (vc V 3) T (zup (zup T 1 l 1) 0 0 (nI l + 1)) := (zqBT.rf.up (by omega)).up (by omega)
        have hV : zqB l (vc V 1) (vc V 2) (vc V 3) V (vaddL V) := by
          rw [hadd]
          unfold vclL
          exact (((((zqB.rf.up (by omega)).up (by omega)).up (by omega)).up (by omega)).up (by omega)).up (by omega)
        obtain ⟨⟨c1, c2, c3⟩, ⟨c4, c5, c6⟩, ⟨c7, c8, c9⟩, c10, c11, c12⟩ := h1
        refine ⟨⟨⟨?_, by rw [zup_same, nI_1], by omega⟩, ⟨?_, by rw [zup_ne (by omega), zup_ne (by omega)]; exact c5, c6⟩, ⟨?_, by rw [zup_ne (by omega), zup_ne (by omega)]; exact c8, c9⟩, ?_, by rw [zup_ne (by omega), zup_ne (by omega)]; exact c11, c12⟩, ⟨h2.1.add hY hx5 p1 p2, h2.2.1.keep hY (by rw [hx5]; decide) (fun i => p3 2 i (by decide) (by decide)), h2.2.2.keep hY (by rw [hx5]; decide) (fun i => p3 3 i (by decide) (by decide))⟩, h3.fr hV hZ, (h4.up (by omega)).up (by omega), (h5.up (Or.inr (Or.inr (Or.inl ⟨Or.inl rfl, ⟨by decide, by decide⟩⟩)))).up (Or.inl (by omega)), hlt, by rw [zup_ne (by omega), zup_same]; rfl, ?_, by omega, by omega, ?_, fun j hj => absurd hj (by omega), fun hj => absurd hj (by omega), ?_⟩
        · rw [hadd]; simp [vclL, zvu]
        · rw [hadd]; simp [vclL, zvu]; exact c4
        · rw [hadd]; simp [vclL, zvu]; exact c7
        · rw [hadd]; simp [vclL, zvu]; exact c10
        · rw [hadd]; simp [vclL, zvu]; rfl
        · rw [hadd]; simp [vclL, zvu]
        · rw [hadd]; simp [vclL, zvu]
    obtain ⟨m1, m2, m3⟩ := h.is J1
    have m7 : xas X 1 2 (zsf (xas X 1 0 3) 401) = 1 ↔ K (a + 1) = 7 := m2 7 (by decide)
    rw [m1, el]
    by_cases c2 : K (a + 1) = 7
    · have ha2 := m3 (by omega)
      rw [if_pos c2, if_pos (m7.mpr c2)]
      have J2 := J1.at ha2
      have N2 := J1.nkt ha2 he
      obtain ⟨r1, r2⟩ := zq_lsp (V := vaddL V) (l := l) (np := vc V 1) (nh := vc V 2) (nk := vc V 3) (s := 0) h (J2.imp (fun _ T hT => ⟨by decide, hT.1, N2.n3 hT.2.1, hT.2.2⟩))
      rcases r2 with ⟨q1, q2⟩ | ⟨q1, q2⟩
      · rw [if_pos q1, if_pos (by rw [← r1]; exact q1)]
        exact ⟨rfl, Or.inl ⟨rfl, q2⟩⟩
      · rw [if_neg (by rw [q1]; decide), if_neg (by rw [← r1, q1]; decide)]
        have J3 := q2.imp (M' := fun T => ∃ s, 1 ≤ s ∧ zqLp _ _ _ _ l (vc V 1) (vc V 2) (vc V 3) s s T) (fun _ T hT => ⟨1, Nat.le_refl _, hT⟩)
        obtain ⟨w1, w2⟩ := zq_lL h 399 401 1 (a + 1 + 1 + 3) _ _ _ J3 (by omega) (by omega)
        refine ⟨w1, ?_⟩
        rcases w2 with w | ⟨w2, b, w3, w4⟩
        · exact Or.inl w
        · exact Or.inr ⟨w2, b, by omega, w4.imp (fun _ T hT => ⟨_, _, _, _, hT⟩)⟩
    · rw [if_neg c2, if_neg (fun q => c2 (m7.mp q))]
      exact ⟨rfl, Or.inl ⟨rfl, J1.fl⟩⟩
  · rw [if_neg c, if_neg (fun q => c (k20.mp q))]
    exact ⟨rfl, Or.inl ⟨rfl, hJ.fl⟩⟩
end ZQLL
