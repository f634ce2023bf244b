/-! LOOKING AHEAD ON BOTH SIDES: where, blame, doubles, need -/
theorem zqD.st {V U : zV} {T : zFn} {i : Nat} (h : zqD V T i) (hS : zqS V U) : zqD U T i := by
  obtain ⟨n, a, b, c, e, f, m, j⟩ := h
  refine ⟨n, a, b, c, by rw [hS 1 i 0 rfl, e], by rw [hS 1 i 3 rfl, f], m, fun q hq => ?_⟩
  rw [hS 5 i q (by simp [zqs]), hS 6 i q (by simp [zqs])]; exact j q hq
theorem zq_whL {T : zFn} {l : Nat} : ∀ (m i : Nat) (U : zV) (A : zFn), zqD U T l → zqL U T A l → zqL (vwhL l m i U) T (mwhL T l m i A) l
  | 0, _, _, _, _, hL => hL
  | m + 1, i, U, A, hD, hL => by
    rw [vwhL, mwhL]
    exact zq_whL m (i + 1) _ _ (hD.st (zqS_move U l)) (zq_mv1 hD hL)
section ZQW
variable {V U : zV} {T S A X : zFn} {nl np nh nk : Nat}
theorem zq_whe (hR : zqR V T S nl np nh nk 6) {l : Nat} (hl : l < nl) (h : Nat) : ∃ z, z ≤ 6 ∧ V 1 l 0 = nI z ∧ (awhe V U l h z).1 = (mwh X A S T l h).1 := by
  obtain ⟨n, a, b, c, e, f, m, j⟩ := hR.1.2.2.1 l hl
  obtain ⟨c1, c2⟩ := zq_cL U V l n
  have hD : zqD (vcpL U V l n) T l := by
    refine ⟨n, a, b, c, by rw [c1 0 (by decide), e], by rw [c1 3 (by decide), f], m, fun q hq => ?_⟩
    rw [(c2 q hq).1, (c2 q hq).2]
    exact j q hq
  have hL : zqL (vcpL U V l n) T (rbc S) l := by
    have h0 := hR.2.2.1 l hl
    unfold zqL
    rw [c1 1 (by decide), c1 2 (by decide), c1 4 (by decide)]
    simpa [zqL, rbc] using h0
  obtain ⟨w1, w2, -⟩ := zq_whL h 0 _ _ hD hL
  refine ⟨n, b, e, ?_⟩
  unfold awhe mwh
  dsimp only
  rw [w1, w2]
end ZQW
/-! the first hour of an arrival -/
theorem rav_in {T : zFn} {k nl np nh nk : Nat} : ∀ (m i : Nat) (A : zFn), (ravL T k nl np nh nk m i A).1 = -1 ∨ ∃ h, i ≤ h ∧ h < i + m ∧ (ravL T k nl np nh nk m i A).1 = nI h
  | 0, _, _ => Or.inl rfl
  | m + 1, i, A => by
    rw [ravL]
    by_cases c : ria A T k = 0
    · rw [if_pos c]
      rcases rav_in m (i + 1) (rpa A T nl np nh nk) with h | ⟨h, h1, h2, h3⟩
      · exact Or.inl h
      · exact Or.inr ⟨h, by omega, by omega, h3⟩
    · rw [if_neg c]
      exact Or.inr ⟨i, by omega, by omega, rfl⟩
/-- fewer hours -/
theorem rav_le {T : zFn} {k nl np nh nk : Nat} : ∀ (m d i : Nat) (A : zFn), ((ravL T k nl np nh nk m i A).1 = (ravL T k nl np nh nk (m + d) i A).1) ∨ ((ravL T k nl np nh nk m i A).1 = -1 ∧ ∃ h, i + m ≤ h ∧ h < i + (m + d) ∧ (ravL T k nl np nh nk (m + d) i A).1 = nI h)
  | 0, d, i, A => by
    rcases rav_in (T := T) (k := k) (nl := nl) (np := np) (nh := nh) (nk := nk) (0 + d) i A with h | ⟨h, h1, h2, h3⟩
    · exact Or.inl h.symm
    · exact Or.inr ⟨rfl, h, h1, h2, h3⟩
  | m + 1, d, i, A => by
    rw [show m + 1 + d = (m + d) + 1 by omega, ravL, ravL]
    by_cases c : ria A T k = 0
    · rw [if_pos c, if_pos c]
      rcases rav_le m d (i + 1) (rpa A T nl np nh nk) with h | ⟨h1, h, h2, h3, h4⟩
      · exact Or.inl h
      · exact Or.inr ⟨h1, h, by omega, by omega, h4⟩
    · rw [if_neg c, if_neg c]
      exact Or.inl rfl
section ZQX
variable {T S : zFn} {nl np nh nk : Nat}
/-- blame -/
theorem zq_blL {V : zV} (hR : zqR V T S nl np nh nk 6) {k : Nat} (hk : k < nk) {x : Int32} (hx : x = T 14 k) : ∀ (m i : Nat) (a a' b : Int32) (U : zV) (A : zFn), i + m = nh → ((a = -1 ∧ a' = 301) ∨ ∃ h, h ≤ 300 ∧ a = nI h ∧ a' = nI h) → (vblL V nl np nh nk k x m i a' b U).1 = (mblL S T nl np nh nk k m i a b A).1
  | 0, _, _, _, _, _, _, _, _ => rfl
  | m + 1, i, a, a', b, U, A, hi, ha => by
    have hRi := zq_out (zq_copy (U := U) hR (zq_np hR).2.2.1) (i := i) (by omega)
    have IH := fun a a' b U A => zq_blL hR hk hx m (i + 1) a a' b U A (by omega)
    rw [vblL, mblL]
    have hV := fun n => zq_av hk hx n 0 _ _ hRi
    have hm : (maw A S T nl np nh nk k (nI i)).1 = (ravL T k nl np nh nk 301 0 (zup (rbc S) 0 2 (nI i))).1 := rfl
    rw [hm, hV]
    rcases ha with ⟨rfl, rfl⟩ | ⟨h0, hh, rfl, rfl⟩
    · rw [show ((301 : Int32) - 1).toNatClampNeg + 1 = 301 by decide]
      rcases rav_in (T := T) (k := k) (nl := nl) (np := np) (nh := nh) (nk := nk) 301 0 (zup (rbc S) 0 2 (nI i)) with h | ⟨h, h1, h2, h3⟩
      · rw [h, if_pos (by decide), if_pos rfl]
        exact IH _ _ _ _ _ (Or.inl ⟨rfl, rfl⟩)
      · rw [h3, if_neg (nI_pos (by omega)), if_neg (show ¬ (301 : Int32) ≤ nI h from nI_ge (b := 301) (by omega) (by decide)), if_neg (show ¬ nI h = -1 from fun e => absurd (show nI h < 0 by rw [e]; decide) (nI_pos (by omega))), if_pos rfl]
        exact IH _ _ _ _ _ (Or.inr ⟨h, by omega, rfl, rfl⟩)
    · have hne : ¬ nI h0 = -1 := fun e => absurd (show nI h0 < 0 by rw [e]; decide) (nI_pos (by omega))
      have hcl : (nI h0 - 1).toNatClampNeg = h0 - 1 := by
        cases h0 with
        | zero => decide
        | succ q => rw [nI_pred, nI_clamp (by omega)]; rfl
      rw [hcl]
      have hl := rav_le (T := T) (k := k) (nl := nl) (np := np) (nh := nh) (nk := nk) (h0 - 1 + 1) (301 - (h0 - 1 + 1)) 0 (zup (rbc S) 0 2 (nI i))
      rw [show h0 - 1 + 1 + (301 - (h0 - 1 + 1)) = 301 by omega] at hl
      rcases rav_in (T := T) (k := k) (nl := nl) (np := np) (nh := nh) (nk := nk) 301 0 (zup (rbc S) 0 2 (nI i)) with h | ⟨h, h1, h2, h3⟩
      · have hl : (ravL T k nl np nh nk (h0 - 1 + 1) 0 (zup (rbc S) 0 2 (nI i))).1 = -1 := by
          rcases hl with q | ⟨q, -⟩
          · rw [q, h]
          · exact q
        rw [hl, h, if_pos (by decide), if_pos rfl]
        exact IH _ _ _ _ _ (Or.inr ⟨h0, hh, rfl, rfl⟩)
      · have hne2 : ¬ nI h = -1 := fun e => absurd (show nI h < 0 by rw [e]; decide) (nI_pos (by omega))
        rw [h3, if_neg hne2, if_neg hne]
        rcases hl with q | ⟨q, y, y1, y2, y3⟩
        · rw [q, h3, if_neg (nI_pos (by omega))]
          by_cases c : h0 ≤ h
          · rw [if_pos (nI_le c (by omega)), if_neg (nI_nlt c (by omega))]
            exact IH _ _ _ _ _ (Or.inr ⟨h0, hh, rfl, rfl⟩)
          · rw [if_neg (nI_ge (by omega) (by omega)), if_pos (nI_lt (by omega) (by omega))]
            exact IH _ _ _ _ _ (Or.inr ⟨h, by omega, rfl, rfl⟩)
        · rw [h3] at y3
          have : y = h := ((nI_eq (by omega) (by omega)).mp y3).symm
          rw [q, if_pos (by decide), if_neg (nI_nlt (by omega) (by omega))]
          exact IH _ _ _ _ _ (Or.inr ⟨h0, hh, rfl, rfl⟩)
theorem zq_bla {V U : zV} {A X : zFn} (hR : zqR V T S nl np nh nk 6) {k : Nat} (hk : k < nk) : (abla V U nl np nh nk k).1 = (mbl X A S T nl np nh nk k).1 := by
  have hm := zq_maw (U := U) (A := A) hR hk (zq_st0 hR hk)
  have hx := zq_st0 hR hk
  unfold abla mbl
  dsimp only
  rw [cl300, hm]
  have hr : (maw A S T nl np nh nk k (-1)).1 = (ravL T k nl np nh nk 301 0 (zup (rbc S) 0 2 (-1))).1 := rfl
  rw [hr]
  rcases rav_in (T := T) (k := k) (nl := nl) (np := np) (nh := nh) (nk := nk) 301 0 (zup (rbc S) 0 2 (-1)) with h | ⟨h, h1, h2, h3⟩
  · rw [h, if_neg (by decide)]
    exact zq_blL hR hk hx nh 0 _ _ _ _ _ (by omega) (Or.inl ⟨rfl, rfl⟩)
  · rw [h3, if_pos (nI_pos' (by omega))]
    exact zq_blL hR hk hx nh 0 _ _ _ _ _ (by omega) (Or.inr ⟨h, by omega, rfl, rfl⟩)
/-- doubles: the pigeons that stay -/
theorem zq_kf {V : zV} (hR : zqR V T S nl np nh nk 6) {k : Nat} (hk : k < nk) (ha : ria S T k = 0) (x : Int32) (w : Nat) (hw : w < 2 ^ 20) : ∀ (m i e : Nat) (U : zV) (A : zFn), zqR U T A nl np nh nk 7 → A 18 k = S 18 k → i + m ≤ rN S T k → e ≤ i → zqR (vkfL V k x (nI w) m i e U) T (me1L T k x w m i e A) nl np nh nk 7 ∧ vkfL V k x (nI w) m i e U 4 k 2 = U 4 k 2 ∧ me1L T k x w m i e A 18 k = A 18 k
  | 0, _, _, _, _, hRU, _, _, _ => ⟨hRU, rfl, rfl⟩
  | m + 1, i, e, U, A, hRU, h18, hi, he => by
    obtain ⟨-, hN, h3⟩ := zq_N hR hk ha
    obtain ⟨c, hc, c1, c2⟩ := h3 i (by omega)
    have hnp := (zq_np hR).2.1
    have hca : rca A T k i = nI c := by
      unfold rca at c2 ⊢
      rw [h18]
      exact c2
    have hb : vbit (nI c) = zbin 6 1 (nI c) := by
      unfold vbit
      rw [if_neg (nI_pos (by omega)), if_neg (show ¬ (20 : Int32) ≤ nI c from nI_ge (b := 20) (by omega) (by decide))]
    rw [vkfL, me1L, c1, hca, hb, zsf_nI (by omega) (by decide)]
    by_cases b0 : (x &&& zbin 6 1 (nI c)) = 0
    · rw [if_pos b0, if_pos ((zq_bit x (by omega)).mpr b0)]
      exact zq_kf hR hk ha x w hw m (i + 1) e U A hRU h18 (by omega) (by omega)
    · rw [if_neg b0, if_neg (fun q => b0 ((zq_bit x (by omega)).mp q))]
      by_cases d : nI (e + 1) ≤ nI w
      · rw [if_pos d, if_pos d]
        exact zq_kf hR hk ha x w hw m (i + 1) (e + 1) U A hRU h18 (by omega) (by omega)
      · rw [if_neg d, if_neg d]
        dsimp only
        obtain ⟨p1, p2, p3, p4, p5⟩ := hRU.2.2.2.1 c hc
        have hR3 : zqR (zvu U 2 c 0 2) T (zup A 4 c 2) nl np nh nk 7 := by
          refine zqR.pig (i := c) hRU (zqS.up (zqS.rf _) rfl) (zqN.up zqN.rf) (zqM.up zqM.rf (by decide) (by decide)) ?_
          refine ⟨by simp [zvu, zup], by simp [zvu, zup]; exact p2, by simp [zup]; exact p3, fun q => ?_, fun q => ?_⟩
          · exact absurd (show (2 : Int32) = 1 by simpa [zup] using q) (by decide)
          · exact absurd (show (2 : Int32) = 1 by simpa [zup] using q) (by decide)
        obtain ⟨r1, r2, r3⟩ := zq_kf hR hk ha x w hw m (i + 1) (e + 1) _ _ hR3 (by simpa [zup] using h18) (by omega) (by omega)
        exact ⟨r1, r2.trans (by simp [zvu]), r3.trans (by simp [zup])⟩
theorem zq_doL {V : zV} (hR : zqR V T S nl np nh nk 6) {k : Nat} (hk : k < nk) (ha : ria S T k = 0) (x : Int32) : ∀ (m i : Nat) (U : zV) (A : zFn), i + m < 2 ^ 20 → (vdoL V nl np nh nk k x m i U).1 = (mdoL S T nl np nh nk k x m i A).1
  | 0, _, _, _, _ => rfl
  | m + 1, i, U, A, hi => by
    have hRc := zq_copy (U := U) (g2 := 7) hR (by have := (zq_np hR).2.2.1; omega)
    have h18 : (rbc S) 18 k = S 18 k := by simp [rbc]
    obtain ⟨n, s, hn, hs, e1, e2, e3, e4, -⟩ := zq_let hR hk
    obtain ⟨r1, r2, r3⟩ := zq_kf hR hk ha x i (by omega) (rN S T k) 0 0 _ _ hRc h18 (by omega) (by omega)
    have hz : ∀ w : Int32, w ≤ S 18 k ↔ w < S 18 k + 1 := by
      intro w
      rw [e3, nI_1]
      constructor
      · intro h; exact Int32.lt_of_le_of_lt h (nI_lt (by omega) (by omega))
      · intro h
        refine i_le fun q => ?_
        have hw : ¬ w < 0 := i_nlt (Int32.le_trans (nI_pos' (n := s) (by omega)) (Int32.le_of_lt q))
        obtain ⟨j, hj, rfl⟩ := nI_of hw
        have a := (nI_ltI (by omega) hj).mp q
        have b := (nI_ltI hj (by omega)).mp h
        omega
    have hc2 : vcpW U V nl np nh nk 4 k 2 = S 18 k := by rw [(hRc.2.2.2.2.2 k hk).2.1, h18]
    have hq := zq_m2 hk hz 100 0 _ _ r1 (by rw [r2, hc2]; exact Int32.le_refl _) (by decide)
    have hv : V 4 k 2 = S 18 k := by rw [e4, e3]
    have hmen : men A S T nl np nh nk k x i = me2L T nl np nh nk k (S 18 k) 100 0 (me1L T k x i (rN S T k) 0 0 (rbc S)) := by
      show me2L T nl np nh nk k ((rbc S) 18 k) 100 0 (me1L T k x i (rN (rbc S) T k) 0 0 (rbc S)) = _
      rw [h18, rN_cg h18]
    rw [vdoL, mdoL, hmen]
    unfold vkf
    rw [cl100, hv, (zq_N hR hk ha).1]
    rcases hq with ⟨q1, q2⟩ | ⟨q1, q2⟩
    · rw [if_pos q1, if_pos q2]
      exact zq_doL hR hk ha x m (i + 1) _ _ (by omega)
    · rw [if_neg q1, if_neg q2]
theorem zq_dou {V U : zV} {A X : zFn} (hR : zqR V T S nl np nh nk 6) {k : Nat} (hk : k < nk) (hb : ∀ x, (vbc x).toNatClampNeg ≤ 64) : (adou V U nl np nh nk k).1 = (mdo X A S T nl np nh nk k).1 := by
  have hRc := zq_copy (U := U) (g2 := 6) hR (zq_np hR).2.2.1
  have hsl := zq_slL nk 0 _ _ hRc (by omega)
  unfold adou mdo vdep
  dsimp only
  rw [zq_arr hR hk]
  by_cases ha : ria S T k = 0
  · rw [if_pos ha, if_pos ha]
    have e1 := (hsl.2.2.2.2.2 k hk).2.2.1
    have e2 := (hR.2.2.2.2.2 k hk).2.2.1
    rw [e1, e2, show (rbc S) 21 k = S 21 k by simp [rbc]]
    exact zq_doL hR hk ha _ _ 1 _ _ (by have := hb (rso T nk 0 (rbc S) 21 k &&& (S 21 k ^^^ -1)); omega)
  · rw [if_neg ha, if_neg ha]
end ZQX
/-! need -/
theorem rla_18 {S T : zFn} {p k : Nat} (h : S 18 k = T 14 k) : rla S T p 18 k = T 14 k := by
  unfold rla ria
  dsimp only
  generalize zsf (S 11 p) 12 = k'
  by_cases e : k = k'
  · subst e
    have hz : zup (zup (zup S 4 p 0) 5 p (T 5 p)) 10 p 0 18 k = T 14 k := by simp [zup, h]
    rw [if_pos hz, if_neg (show ¬ (1 : Int32) = 0 by decide)]
    simp [zup, h]
  · (repeat' split) <;> simp [zup, h, e]
theorem raim_18' (S T : zFn) (p k : Nat) : raim S T p 18 k = S 18 k := raim_18 S T p k
theorem zq2_18 {S T : zFn} {p k : Nat} (h : S 18 k = T 14 k) : zq2 S T p 18 k = T 14 k := by
  unfold zq2
  dsimp only
  split
  · exact rla_18 (by simp [zup, h])
  · repeat' split
    all_goals simp [zup, h]
theorem rfl_18 {S T : zFn} {p k : Nat} (h : S 18 k = T 14 k) : rfl_ S T p 18 k = T 14 k := by
  rw [rfl_eq]
  split
  · exact zq2_18 h
  · exact zq2_18 (by rw [raim_18', h])
theorem rpl1_18 {T : zFn} {k : Nat} : ∀ (m i : Nat) (S : zFn), rpl1 T m i S 18 k = S 18 k
  | 0, _, _ => rfl
  | m + 1, i, S => by
    rw [rpl1, rpl1_18 m (i + 1)]
    unfold rgl
    dsimp only
    repeat' split
    all_goals simp [zup]
theorem rso2_18 {T : zFn} {k k' : Nat} : ∀ (m i : Nat) (S : zFn), rso2 T k' m i S 18 k = S 18 k
  | 0, _, _ => rfl
  | m + 1, i, S => by
    rw [rso2]
    split
    · exact rso2_18 m (i + 1) S
    · rw [rso2_18 m (i + 1), rsu_18]
theorem rso_18 {T : zFn} {k : Nat} : ∀ (m i : Nat) (S : zFn), rso T m i S 18 k = S 18 k
  | 0, _, _ => rfl
  | m + 1, i, S => by rw [rso, rso_18 m (i + 1), rso2_18]
theorem rpl2_18 {T : zFn} {k : Nat} : ∀ (m i : Nat) (S : zFn), S 18 k = T 14 k → rpl2 T m i S 18 k = T 14 k
  | 0, _, _, h => h
  | m + 1, i, S, h => by
    rw [rpl2]
    split
    · exact rpl2_18 m (i + 1) _ (rfl_18 h)
    · exact rpl2_18 m (i + 1) S h
theorem rhuL_18 {S T : zFn} {h k : Nat} : ∀ (m i : Nat) (a b : Int32), rhuL S T h m i a b 18 k = S 18 k
  | 0, _, _, b => by
    rw [rhuL]
    unfold rpyw rpy
    split
    · rfl
    · simp [zup]
  | m + 1, i, a, b => by
    rw [rhuL]
    repeat' split
    all_goals exact rhuL_18 m (i + 1) _ _
theorem rpl3_18 {T : zFn} {np k : Nat} : ∀ (m i : Nat) (S : zFn), rpl3 T np m i S 18 k = S 18 k
  | 0, _, _ => rfl
  | m + 1, i, S => by
    rw [rpl3]
    split
    · exact rpl3_18 m (i + 1) S
    · rw [rpl3_18 m (i + 1)]
      unfold rhu
      split
      · exact rhuL_18 _ _ _ _
      · simp [zup]
theorem rpa_18 {S T : zFn} {nl np nh nk k : Nat} (h : S 18 k = T 14 k) : rpa S T nl np nh nk 18 k = T 14 k := by
  unfold rpa
  rw [zup_ne' (by omega), rpl3_18]
  exact rpl2_18 np 0 _ (by rw [rso_18, rpl1_18, h])
theorem rps_18 {T : zFn} {nl np nh nk k : Nat} : ∀ (m : Nat) (S : zFn), S 18 k = T 14 k → rps T nl np nh nk m S 18 k = T 14 k
  | 0, _, h => h
  | m + 1, S, h => rps_18 m _ (rpa_18 h)
theorem rav_rps {T : zFn} {k nl np nh nk : Nat} : ∀ (m i : Nat) (A : zFn), i + m < 2 ^ 31 → ((ravL T k nl np nh nk (m + 1) i A).1 = -1 ↔ ria (rps T nl np nh nk m A) T k = 0)
  | 0, i, A, hi => by
    rw [ravL]
    by_cases c : ria A T k = 0
    · rw [if_pos c]
      exact ⟨fun _ => c, fun _ => rfl⟩
    · rw [if_neg c]
      exact ⟨fun e => absurd (show nI i < 0 by have e : nI i = -1 := e; rw [e]; decide) (nI_pos (by omega)), fun e => absurd e c⟩
  | m + 1, i, A, hi => by
    rw [ravL]
    by_cases c : ria A T k = 0
    · rw [if_pos c]
      exact rav_rps m (i + 1) _ (by omega)
    · rw [if_neg c]
      refine ⟨fun e => absurd (show nI i < 0 by have e : nI i = -1 := e; rw [e]; decide) (nI_pos (by omega)), fun e => ?_⟩
      have h : A 18 k = T 14 k := by
        unfold ria at c
        by_cases q : A 18 k = T 14 k
        · exact q
        · rw [if_neg q] at c
          exact absurd rfl c
      unfold ria at e
      rw [rps_18 (m + 1) A h, if_pos rfl] at e
      exact absurd e (by decide)
section ZQY
variable {V U : zV} {T S A X : zFn} {nl np nh nk : Nat}
theorem zq_neL (hR : zqR V T S nl np nh nk 6) : ∀ (m i : Nat) (a b : Int32) (A : zFn), i + m = nk → vneL V (ala V U nl np nh nk 300) m i a b = (mneL S T nl np nh nk m i a b A).1
  | 0, _, _, _, _, _ => rfl
  | m + 1, i, a, b, A, hi => by
    have hRc := zq_copy (U := U) (g2 := 6) hR (zq_np hR).2.2.1
    have hR2 := zq_ps 300 _ _ hRc
    have hE := zq_laE (nl := nl) (np := np) (nh := nh) (nk := nk) 300 0 (vcpW U V nl np nh nk)
    obtain ⟨n, s, hn, hs, e1, e2, e3, e4, -⟩ := zq_let hR (k := i) (by omega)
    have hv : varr (ala V U nl np nh nk 300) i = ria (rps T nl np nh nk 300 (rbc S)) T i := by
      rw [← zq_arr hR2 (k := i) (by omega)]
      exact (zqE_arr hE i).symm
    have hm : (maw A S T nl np nh nk i (-1)).1 = (ravL T i nl np nh nk 301 0 (rbc S)).1 := by
      unfold maw
      dsimp only
      rw [zq_set0 rfl]
    have hr := rav_rps (T := T) (k := i) (nl := nl) (np := np) (nh := nh) (nk := nk) 300 0 (rbc S) (by decide)
    have hx : V 4 i 0 - V 4 i 2 = T 14 i - S 18 i := by rw [e1, e2, e3, e4]
    rw [vneL, mneL, hv, hx]
    dsimp only
    rw [hm]
    by_cases c : T 14 i - S 18 i ≤ a
    · rw [if_pos c, if_pos c]
      simp only [ite_self]
      exact zq_neL hR m (i + 1) a b A (by omega)
    · rw [if_neg c, if_neg c]
      by_cases q : ria (rps T nl np nh nk 300 (rbc S)) T i = 0
      · rw [if_pos q, if_pos (hr.mpr q)]
        exact zq_neL hR m (i + 1) _ _ _ (by omega)
      · rw [if_neg q, if_neg (fun e => q (hr.mp e))]
        exact zq_neL hR m (i + 1) _ _ _ (by omega)
theorem zq_nee (hR : zqR V T S nl np nh nk 6) : (anee V U nl np nh nk).1 = (mne X A S T nl np nh nk).1 := by
  unfold anee mne
  exact zq_neL hR nk 0 0 (-1) A (by omega)
end ZQY
