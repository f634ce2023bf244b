/-! A PIGEON'S LINE ON BOTH SIDES -/
def zqPp (V : zV) (P X : zFn) (a nl p nh nk : Nat) (T : zFn) : Prop := zqCn V T nl (p + 1) nh nk ∧ zqN3 P X a nl (p + 1) nk ∧ zqC V T nl p nh nk ∧ zqFr T nl nk ∧ zqTB T ∧ p < 20 ∧ V 2 p 0 = 0
theorem zqPp.v {V : zV} {P X : zFn} {a nl p nh nk f : Nat} {T : zFn} {x : Int32} (h : zqPp V P X a nl p nh nk T) (hf : f ≠ 0) : zqPp (zvu V 2 p f x) P X a nl p nh nk T := by
  obtain ⟨h1, h2, h3, h4, h5, h6, h7⟩ := h
  exact ⟨h1.cg (fun g hg => by simp [zvu]) (fun _ _ => rfl), h2, h3.fr (zqB.up zqB.rf (by omega)) zqBT.rf, h4, h5, h6, by rw [zvu_ne (by omega)]; exact h7⟩
theorem zqPp.t {V : zV} {P X : zFn} {a nl p nh nk j : Nat} {T : zFn} {x : Int32} (h : zqPp V P X a nl p nh nk T) (hj : (j = 5 ∨ j = 6) ∧ zix x 6 ∨ j = 7 ∨ j = 8) : zqPp V P X a nl p nh nk (zup T j p x) := by
  obtain ⟨h1, h2, h3, h4, h5, h6, h7⟩ := h
  refine ⟨h1.cg (fun _ _ => rfl) (fun g hg => by rw [zup_ne (by omega)]), h2, h3.fr zqB.rf (zqBT.up zqBT.rf (by omega)), h4.up (by omega), h5.up ?_, h6, h7⟩
  rcases hj with ⟨q, hx⟩ | q
  · exact Or.inr (Or.inl ⟨q, hx⟩)
  · exact Or.inl (by omega)
theorem zqPp.n {V : zV} {P X P' X' : zFn} {a b nl p nh nk : Nat} {T : zFn} (h : zqPp V P X a nl p nh nk T) (hN : zqNK P X a P' X' b) : zqPp V P' X' b nl p nh nk T := ⟨h.1, hN.n3 h.2.1, h.2.2⟩
def ptl (P : zFn) (V : zV) (Q : zFn) (K : zKn) (n1 : Nat) : Int32 × zFn × zV :=
  if (vro P Q K 9 1 20 8).1 = 0 then (0, (vro P Q K 9 1 20 8).2, V)
  else if (vro (vro P Q K 9 1 20 8).2 Q K 13 0 20 3).1 = 0 then (0, (vro (vro P Q K 9 1 20 8).2 Q K 13 0 20 3).2, zvu V 2 n1 3 ((vro P Q K 9 1 20 8).2 0 3))
  else (1, (vro (vro P Q K 9 1 20 8).2 Q K 13 0 20 3).2, zvu (zvu V 2 n1 3 ((vro P Q K 9 1 20 8).2 0 3)) 2 n1 4 ((vro (vro P Q K 9 1 20 8).2 Q K 13 0 20 3).2 0 3))
def rptl (X : zFn) : Int32 × zFn :=
  if (rop X 3 11).1 = 0 then (0, (rop X 3 11).2)
  else if (rop (rop X 3 11).2 7 12).1 = 0 then (0, (rop (rop X 3 11).2 7 12).2) else (1, (rop (rop X 3 11).2 7 12).2)
section ZQPL
variable {Q : zFn} {K : zKn} {X0 : zFn} {n e : Nat}
theorem zq_ptl (h : zqI Q K X0 n e) {P X : zFn} {a nl p nh nk : Nat} {V : zV} (hJ : zqJ X0 e a P X (fun T => zqPp V P X a nl p nh nk T ∧ T 7 p = 8 ∧ T 8 p = 3 ∧ V 2 p 1 = T 5 p ∧ zix (T 5 p) nl ∧ V 2 p 2 = T 6 p ∧ zix (T 6 p) nl)) : (ptl P V Q K p).1 = (rptl X).1 ∧ (((ptl P V Q K p).1 = 0 ∧ zqFl e (ptl P V Q K p).2.1 (rptl X).2) ∨ ((ptl P V Q K p).1 = 1 ∧ ∃ b, a ≤ b ∧ zqJ X0 e b (ptl P V Q K p).2.1 (rptl X).2 (zqMB (ptl P V Q K p).2.2 (ptl P V Q K p).2.1 (rptl X).2 b nl (p + 1) nh nk))) := by
  have hz : zqZ X0 (fun T => zqPp V P X a nl p nh nk T ∧ T 7 p = 8 ∧ T 8 p = 3 ∧ V 2 p 1 = T 5 p ∧ zix (T 5 p) nl ∧ V 2 p 2 = T 6 p ∧ zix (T 6 p) nl) 11 7 p 1 20 := by
    intro T hT X' t hY h5 h2
    have e1 := hT.1.1.2.1.2.1
    have hp := hT.1.2.2.2.2.2.1
    refine ⟨Or.inr (Or.inr (Or.inr (Or.inr (Or.inr (Or.inr (Or.inr (Or.inr (Or.inl ⟨Or.inr (Or.inr (Or.inl ⟨h5, h2⟩)), p, hp, e1⟩)))))))), ?_⟩
    rw [zstp_11 h5, e1, nI_clamp (by omega), Nat.add_sub_cancel, rno0_cg hY]
    rfl
  obtain ⟨r1, r2⟩ := zq_opt (lo := 1) (hi := 20) (w := 8) h hJ (q := 9) (qk := 3) (by decide) rfl (by decide) hz
  unfold ptl rptl
  rcases r2 with ⟨q1, q2⟩ | ⟨q1, b, q2, q3, q4⟩
  · rw [if_pos q1, if_pos (show (rop X 3 11).1 = 0 by rw [← r1]; exact q1)]
    exact ⟨rfl, Or.inl ⟨rfl, q2⟩⟩
  · rw [if_neg (show ¬ (vro P Q K 9 1 20 8).1 = 0 by rw [q1]; decide), if_neg (show ¬ (rop X 3 11).1 = 0 by rw [← r1, q1]; decide)]
    obtain ⟨P1, hP1⟩ : ∃ P1, (vro P Q K 9 1 20 8).2 = P1 := ⟨_, rfl⟩
    obtain ⟨X1, hX1⟩ : ∃ X1, (rop X 3 11).2 = X1 := ⟨_, rfl⟩
    rw [hP1, hX1] at q3 q4
    rw [hP1, hX1]
    have J2 : zqJ X0 e b P1 X1 (fun T => zqPp (zvu V 2 p 3 (P1 0 3)) P1 X1 b nl p nh nk T ∧ T 8 p = 3 ∧ V 2 p 1 = T 5 p ∧ zix (T 5 p) nl ∧ V 2 p 2 = T 6 p ∧ zix (T 6 p) nl ∧ P1 0 3 = T 7 p ∧ zix (T 7 p) 21) := by
      refine q3.imp (fun _ T' hT' => ?_)
      obtain ⟨T, ⟨h1, h2, h3, h4, h5, h6, h7⟩, hv⟩ := hT'
      rcases hv with ⟨x1, rfl⟩ | ⟨rfl, x1⟩
      · refine ⟨((h1.n q4).v (by decide)).t (by omega), by rw [zup_ne (by omega)]; exact h3, by rw [zup_ne (by omega)]; exact h4, by rw [zup_ne (by omega)]; exact h5, by rw [zup_ne (by omega)]; exact h6, by rw [zup_ne (by omega)]; exact h7, by rw [zup_same], ?_⟩
        rw [zup_same]
        rw [rin_eq] at x1
        by_cases c : 1 ≤ P1 0 3
        · rw [if_pos c] at x1
          by_cases d : P1 0 3 ≤ 20
          · obtain ⟨j, hj, ej⟩ := nI_of (i_nlt (Int32.le_trans (show (0 : Int32) ≤ 1 by decide) c))
            rw [ej] at d ⊢
            have := (nI_leI (b := 20) hj (by decide)).mp d
            exact zin_nI (by omega) (by decide)
          · rw [if_neg d] at x1; exact absurd rfl x1
        · rw [if_neg c] at x1; exact absurd rfl x1
      · exact ⟨(h1.n q4).v (by decide), h3, h4, h5, h6, h7, by rw [x1, h2], by rw [h2]; exact ⟨by decide, by decide⟩⟩
    have hz2 : zqZ X0 (fun T => zqPp (zvu V 2 p 3 (P1 0 3)) P1 X1 b nl p nh nk T ∧ T 8 p = 3 ∧ V 2 p 1 = T 5 p ∧ zix (T 5 p) nl ∧ V 2 p 2 = T 6 p ∧ zix (T 6 p) nl ∧ P1 0 3 = T 7 p ∧ zix (T 7 p) 21) 12 8 p 0 20 := by
      intro T hT X' t hY h5 h2
      have e1 := hT.1.1.2.1.2.1
      have hp := hT.1.2.2.2.2.2.1
      refine ⟨Or.inr (Or.inr (Or.inr (Or.inr (Or.inr (Or.inr (Or.inr (Or.inr (Or.inl ⟨Or.inr (Or.inr (Or.inr ⟨h5, h2⟩)), p, hp, e1⟩)))))))), ?_⟩
      rw [zstp_12 h5, e1, nI_clamp (by omega), Nat.add_sub_cancel, rno0_cg hY]
      rfl
    obtain ⟨s1, s2⟩ := zq_opt (lo := 0) (hi := 20) (w := 3) h J2 (q := 13) (qk := 7) (by decide) rfl (by decide) hz2
    rcases s2 with ⟨t1, t2⟩ | ⟨t1, b2, t2, t3, t4⟩
    · rw [if_pos t1, if_pos (show (rop X1 7 12).1 = 0 by rw [← s1]; exact t1)]
      exact ⟨rfl, Or.inl ⟨rfl, t2⟩⟩
    · rw [if_neg (show ¬ (vro P1 Q K 13 0 20 3).1 = 0 by rw [t1]; decide), if_neg (show ¬ (rop X1 7 12).1 = 0 by rw [← s1, t1]; decide)]
      refine ⟨rfl, Or.inr ⟨rfl, b2, by omega, t3.imp (fun _ T' hT' => ?_)⟩⟩
      obtain ⟨P2, hP2⟩ : ∃ P2, (vro P1 Q K 13 0 20 3).2 = P2 := ⟨_, rfl⟩
      rw [hP2] at hT' t4 ⊢
      obtain ⟨T, ⟨h1, h2, h3, h4, h5, h6, h7, h8⟩, hv⟩ := hT'
      have fin : ∀ Z : zFn, zqPp (zvu (zvu V 2 p 3 (P1 0 3)) 2 p 4 (P2 0 3)) P2 (rop X1 7 12).2 b2 nl p nh nk Z → Z 5 p = T 5 p → Z 6 p = T 6 p → Z 7 p = T 7 p → P2 0 3 = Z 8 p → zix (Z 8 p) 21 → zqMB (zvu (zvu V 2 p 3 (P1 0 3)) 2 p 4 (P2 0 3)) P2 (rop X1 7 12).2 b2 nl (p + 1) nh nk Z := by
        intro Z hZ z5 z6 z7 z8 z9
        obtain ⟨y1, y2, y3, y4, y5, y6, y7⟩ := hZ
        have hnl := y1.1.2.2
        refine ⟨y1, y2, y3.more ⟨Nat.le_refl _, by omega⟩ ⟨by omega, by omega⟩ (fun i a1 a2 => by omega) (fun i a1 a2 => ?_) (fun i a1 a2 => by omega) (fun i a1 a2 => by omega), y4, y5⟩
        have : i = p := by omega
        subst this
        unfold zqcP
        rw [z5, z6, z7]
        exact ⟨y7, by simp [zvu]; exact h3, by simp [zvu]; exact h5, by simp [zvu]; exact h7, by simp [zvu]; exact z8, h4, h6, h8, z9⟩
      rcases hv with ⟨x1, rfl⟩ | ⟨rfl, x1⟩
      · refine fin _ (((h1.n t4).v (by decide)).t (by omega)) (by rw [zup_ne (by omega)]) (by rw [zup_ne (by omega)]) (by rw [zup_ne (by omega)]) (by rw [zup_same]) ?_
        rw [zup_same]
        obtain ⟨j, hj, ej⟩ := rin_ex (m := 20) (by decide) x1
        rw [ej]
        exact zin_nI (by omega) (by decide)
      · exact fin _ ((h1.n t4).v (by decide)) rfl rfl rfl (by rw [x1, h2]) (by rw [h2]; exact ⟨by decide, by decide⟩)
theorem zq_zrep9 {X T : zFn} {t p : Nat} (h5 : X 5 t = 9) (e1 : T 0 1 = nI (p + 1)) (hp : p < 20) : zstp X t T = if rnmL X t 1 t 0 0 = -1 then (3, zup (zup T 5 p (-1)) 6 p (-1)) else (0, zup (zup T 5 p (rnmL X t 1 t 0 0)) 6 p (rnmL X t 1 t 0 0)) := by
  rw [zstp_9 h5, e1, nI_clamp (by omega), Nat.add_sub_cancel]
  unfold rep9
  dsimp only
  by_cases c : rnmL X t 1 t 0 0 = -1
  · rw [if_pos c, if_pos c, c]
  · rw [if_neg c, if_neg c]
theorem zq_zrep10 {X T : zFn} {t p : Nat} (h5 : X 5 t = 10) (e1 : T 0 1 = nI (p + 1)) (hp : p < 20) : zstp X t T = if rnmL X t 1 t 0 0 = -1 then (3, zup T 6 p (-1)) else (0, zup T 6 p (rnmL X t 1 t 0 0)) := by
  rw [zstp_10 h5, e1, nI_clamp (by omega), Nat.add_sub_cancel]
  unfold rep10
  dsimp only
  by_cases c : rnmL X t 1 t 0 0 = -1
  · rw [if_pos c, if_pos c, c]
  · rw [if_neg c, if_neg c]
theorem zq_pigeon (h : zqI Q K X0 n e) {P X : zFn} {a : Nat} {V : zV} (hG : zVG V) (hJ : zqJ X0 e a P X (zqMB V P X a (vc V 0) (vc V 1) (vc V 2) (vc V 3))) : (vrp P V Q K).1 = (rpig X).1 ∧ (((vrp P V Q K).1 = 0 ∧ zqFl e (vrp P V Q K).2.1 (rpig X).2) ∨ ((vrp P V Q K).1 = 1 ∧ ∃ b, a < b ∧ zqJ X0 e b (vrp P V Q K).2.1 (rpig X).2 (fun T => ∃ nl np nh nk, zqMB (vrp P V Q K).2.2 (vrp P V Q K).2.1 (rpig X).2 b nl np nh nk T))) := by
  have he := h.2.1
  obtain ⟨k1, k2, k3⟩ := h.is hJ
  have k20 : X 2 (zsf (X 0 3) 401) = 20 ↔ K a = 2 := k2 2 (by decide)
  have hm : vc V 1 ≤ 20 := hG.1.2.1.2
  have hm0 : vc V 0 ≤ 6 := hG.1.1.2
  have hv0 : V 0 0 1 = nI (vc V 1) := hG.1.2.1.1
  obtain ⟨p, el⟩ : ∃ p, min (vc V 1) 19 = p := ⟨_, rfl⟩
  obtain ⟨V2, hV2⟩ : ∃ V2, vaddP V = V2 := ⟨_, rfl⟩
  have hadd : V2 = vclP (zvu V 0 0 1 (zmin (nI (vc V 1) + 1) 20)) p := by
    rw [← hV2]
    unfold vaddP
    rw [hv0, znumP _ hm, el]
  have hvc : vc V2 0 = vc V 0 := by
    unfold vc
    rw [hadd]
    simp [vclP, zvu]
  have hvcu : ∀ f x, vc (zvu V2 2 p f x) 0 = vc V 0 := by
    intro f x
    rw [← hvc]
    unfold vc
    simp [zvu]
  have hT1 : ∀ P V, (let r9 := vro P Q K 9 1 20 8
      if r9.1 = 0 then ((0 : Int32), r9.2, V) else
        let V10 := zvu V 2 p 3 ((r9.2 0 3))
        let r11 := vro r9.2 Q K 13 0 20 3
        if r11.1 = 0 then (0, r11.2, V10) else
          let V12 := zvu V10 2 p 4 ((r11.2 0 3))
          (1, r11.2, V12)) = ptl P V Q K p := fun _ _ => rfl
  have hT2 : ∀ X, (let r6 := rop X 3 11
      if r6.1 = 0 then ((0 : Int32), r6.2) else
        let r7 := rop r6.2 7 12
        if r7.1 = 0 then (0, r7.2) else (1, r7.2)) = rptl X := fun _ => rfl
  unfold vrp rpig
  dsimp only at hT1 hT2 ⊢
  simp only [el, hT1, hT2, hV2, hvc, hvcu]
  rw [k1]
  by_cases c : K a = 2
  · have ha := k3 (by omega)
    rw [if_pos c, if_pos (k20.mpr c)]
    have hx5 := xas_5 (z := 2) hJ.2.1 (show a < 401 by omega)
    have hY := xas_Y (z := 2) hJ.2.1 (show a < 401 by omega)
    have J1 : zqJ X0 e (a + 1) (vnn2 P Q (vc V 1)) (xas X 2) (fun T => zqPp V2 (vnn2 P Q (vc V 1)) (xas X 2) (a + 1) (vc V 0) p (vc V 2) (vc V 3) T ∧ T 7 p = 8 ∧ T 8 p = 3) := by
      refine zq_nn2 h hJ ha hm (fun T hT => ?_)
      obtain ⟨h1, h2, h3, h4, h5⟩ := hT
      have e1 := h1.2.1.2.1
      refine ⟨h2.2.1, Or.inr (Or.inr (Or.inr (Or.inr (Or.inr (Or.inr (Or.inr (Or.inl ⟨hx5, vc V 1, hm, e1⟩))))))), ?_, fun hlt p0 p1 p2 p3 => ?_⟩
      · rw [zstp_2 hx5, e1, nI_clamp (by omega)]
        rfl
      · have hl : vc V 1 = p := by omega
        rw [hl] at p1 p2 p3 h2 hadd ⊢
        rw [hl] at h1 h3 hlt
        have hmin : zmin (nI p + 1) 20 = nI (p + 1) := by
          rw [nI_1]
          unfold zmin
          rw [if_neg (show ¬ 20 < nI (p + 1) from nI_nlt (a := 20) (by omega) (by decide))]
        rw [hmin] at hadd
        unfold U2
        have hZ : zqBT (vc V 0) p (vc V 2) (vc V 3) T (zup (zup (zup T 7 p 8) 8 p 3) 0 1 (nI p + 1)) := ((zqBT.rf.up (by omega)).up (by omega)).up (by omega)
        have hV : zqB (vc V 0) p (vc V 2) (vc V 3) V V2 := by
          rw [hadd]
          unfold vclP
          refine zqB.up (zqB.up (zqB.up (zqB.up (zqB.up (zqB.up (zqB.up (zqB.up (zqB.up (zqB.up (zqB.up (zqB.up (zqB.up zqB.rf ?_) ?_) ?_) ?_) ?_) ?_) ?_) ?_) ?_) ?_) ?_) ?_) ?_
          all_goals omega
        obtain ⟨⟨c1, c2, c3⟩, ⟨c4, c5, c6⟩, ⟨c7, c8, c9⟩, c10, c11, c12⟩ := h1
        refine ⟨⟨⟨⟨?_, by rw [zup_ne (by omega), zup_ne (by omega), zup_ne (by omega)]; exact c2, c3⟩, ⟨?_, by rw [zup_same, nI_1], by omega⟩, ⟨?_, by rw [zup_ne (by omega), zup_ne (by omega), zup_ne (by omega)]; exact c8, c9⟩, ?_, by rw [zup_ne (by omega), zup_ne (by omega), zup_ne (by omega)]; exact c11, c12⟩, ⟨h2.1.keep hY (by rw [hx5]; decide) (fun i => p3 1 i (by decide) (by decide)), h2.2.1.add hY hx5 p1 p2, h2.2.2.keep hY (by rw [hx5]; decide) (fun i => p3 3 i (by decide) (by decide))⟩, h3.fr hV hZ, ((h4.up (by omega)).up (by omega)).up (by omega), ((h5.up (Or.inl (by omega))).up (Or.inl (by omega))).up (Or.inl (by omega)), hlt, ?_⟩, by rw [zup_ne (by omega), zup_ne (by omega), zup_same], by rw [zup_ne (by omega), zup_same]⟩
        · rw [hadd]; simp [vclP, zvu]; exact c1
        · rw [hadd]; simp [vclP, zvu]
        · rw [hadd]; simp [vclP, zvu]; exact c7
        · rw [hadd]; simp [vclP, zvu]; exact c10
        · rw [hadd]; simp [vclP, zvu]
    obtain ⟨m1, m2, m3⟩ := h.is J1
    have m5 : xas X 2 2 (zsf (xas X 2 0 3) 401) = 5 ↔ K (a + 1) = 11 := m2 11 (by decide)
    rw [m1]
    by_cases c2 : K (a + 1) = 11
    · have ha2 := m3 (by omega)
      rw [if_pos c2, if_pos (m5.mpr c2)]
      have J2 := J1.at ha2
      have N2 := J1.nkt ha2 he
      obtain ⟨w1, w2, w3⟩ := h.is J2
      have w20 : xat (xas X 2) 2 (zsf (xat (xas X 2) 0 3) 401) = 20 ↔ K (a + 1 + 1) = 2 := w2 2 (by decide)
      rw [w1]
      by_cases c3 : K (a + 1 + 1) = 2
      · have ha3 := w3 (by omega)
        rw [if_pos c3, if_pos (w20.mpr c3)]
        obtain ⟨P3, hP3⟩ : ∃ P3, vat (vnn2 P Q (vc V 1)) = P3 := ⟨_, rfl⟩
        obtain ⟨X3, hX3⟩ : ∃ X3, xat (xas X 2) = X3 := ⟨_, rfl⟩
        rw [hP3, hX3] at J2 N2 ⊢
        have y5 := xas_5 (z := 9) J2.2.1 (show a + 1 + 1 < 401 by omega)
        have hon := zq_on1 (z := 9) (m := vc V 0) (F := fun T f => zup (zup T 5 p f) 6 p f) (M' := fun T => zqPp (zvu V2 2 p 1 (von1 P3 Q (vc V 0) 0 3)) (von1 P3 Q (vc V 0)) (xas X3 9) (a + 1 + 1 + 1) (vc V 0) p (vc V 2) (vc V 3) T ∧ T 7 p = 8 ∧ T 8 p = 3 ∧ von1 P3 Q (vc V 0) 0 3 = T 5 p ∧ zix (T 5 p) (vc V 0) ∧ T 6 p = T 5 p) h J2 ha3 (by omega) (fun T hT => by
          obtain ⟨h1, h2, h3⟩ := hT
          have h1' := h1.n N2
          have e1 := h1.1.2.1.2.1
          have hp20 := h1.2.2.2.2.2.1
          refine ⟨h1'.2.1.1, Or.inr (Or.inr (Or.inr (Or.inr (Or.inr (Or.inr (Or.inr (Or.inr (Or.inl ⟨Or.inl y5, p, hp20, e1⟩)))))))), zq_zrep9 y5 e1 hp20, fun i hi q0 q1 q2 => ?_⟩
          have hN := (J2.nk (P' := von1 P3 Q (vc V 0)) (z := 9) ha3 he (Or.inr (by decide)) q2).1
          have hx6 : zix (nI i) 6 := zin_nI (by omega) (by decide)
          refine ⟨(((h1'.n hN).v (by decide)).t (Or.inl ⟨Or.inl rfl, hx6⟩)).t (Or.inl ⟨Or.inr rfl, hx6⟩), by rw [zup_ne (by omega), zup_ne (by omega)]; exact h2, by rw [zup_ne (by omega), zup_ne (by omega)]; exact h3, by rw [zup_ne (by omega), zup_same]; exact q1, by rw [zup_ne (by omega), zup_same]; exact zin_nI hi (by omega), by rw [zup_same, zup_ne (by omega), zup_same]⟩)
        obtain ⟨J4, R4⟩ := hon
        obtain ⟨P4, hP4⟩ : ∃ P4, von1 P3 Q (vc V 0) = P4 := ⟨_, rfl⟩
        rw [hP4] at J4 R4 ⊢
        obtain ⟨V5, hV5⟩ : ∃ V5, zvu V2 2 p 1 (P4 0 3) = V5 := ⟨_, rfl⟩
        have hV51 : V5 2 p 1 = P4 0 3 := by rw [← hV5, zvu_same]
        rw [hV5] at J4 ⊢
        obtain ⟨u1, u2, u3⟩ := h.is J4
        have u6 : xas X3 9 2 (zsf (xas X3 9 0 3) 401) = 6 ↔ K (a + 1 + 1 + 1) = 12 := u2 12 (by decide)
        rw [u1]
        by_cases c4 : K (a + 1 + 1 + 1) = 12
        · have ha4 := u3 (by omega)
          rw [if_pos c4, if_pos (u6.mpr c4)]
          have J5 := J4.at ha4
          have N5 := J4.nkt ha4 he
          obtain ⟨x1, x2, x3⟩ := h.is J5
          have x20 : xat (xas X3 9) 2 (zsf (xat (xas X3 9) 0 3) 401) = 20 ↔ K (a + 1 + 1 + 1 + 1) = 2 := x2 2 (by decide)
          rw [x1]
          by_cases c5 : K (a + 1 + 1 + 1 + 1) = 2
          · have ha5 := x3 (by omega)
            rw [if_pos c5, if_pos (x20.mpr c5)]
            obtain ⟨P6, hP6⟩ : ∃ P6, vat P4 = P6 := ⟨_, rfl⟩
            obtain ⟨X6, hX6⟩ : ∃ X6, xat (xas X3 9) = X6 := ⟨_, rfl⟩
            rw [hP6, hX6] at J5 N5 ⊢
            have z5 := xas_5 (z := 10) J5.2.1 (show a + 1 + 1 + 1 + 1 < 401 by omega)
            have hon2 := zq_on1 (z := 10) (m := vc V 0) (F := fun T f => zup T 6 p f) (M' := fun T => zqPp (zvu V5 2 p 2 (von1 P6 Q (vc V 0) 0 3)) (von1 P6 Q (vc V 0)) (xas X6 10) (a + 1 + 1 + 1 + 1 + 1) (vc V 0) p (vc V 2) (vc V 3) T ∧ T 7 p = 8 ∧ T 8 p = 3 ∧ zvu V5 2 p 2 (von1 P6 Q (vc V 0) 0 3) 2 p 1 = T 5 p ∧ zix (T 5 p) (vc V 0) ∧ zvu V5 2 p 2 (von1 P6 Q (vc V 0) 0 3) 2 p 2 = T 6 p ∧ zix (T 6 p) (vc V 0)) h J5 ha5 (by omega) (fun T hT => by
              obtain ⟨h1, h2, h3, h4, h5, h6⟩ := hT
              have h1' := h1.n N5
              have e1 := h1.1.2.1.2.1
              have hp20 := h1.2.2.2.2.2.1
              refine ⟨h1'.2.1.1, Or.inr (Or.inr (Or.inr (Or.inr (Or.inr (Or.inr (Or.inr (Or.inr (Or.inl ⟨Or.inr (Or.inl z5), p, hp20, e1⟩)))))))), zq_zrep10 z5 e1 hp20, fun i hi q0 q1 q2 => ?_⟩
              have hN := (J5.nk (P' := von1 P6 Q (vc V 0)) (z := 10) ha5 he (Or.inr (by decide)) q2).1
              have hx6 : zix (nI i) 6 := zin_nI (by omega) (by decide)
              refine ⟨((h1'.n hN).v (by decide)).t (Or.inl ⟨Or.inr rfl, hx6⟩), by rw [zup_ne (by omega)]; exact h2, by rw [zup_ne (by omega)]; exact h3, by rw [zvu_ne (by omega), zup_ne (by omega), hV51]; exact h4, by rw [zup_ne (by omega)]; exact h5, by rw [zvu_same, zup_same]; exact q1, by rw [zup_same]; exact zin_nI hi (by omega)⟩)
            obtain ⟨J7, R7⟩ := hon2
            obtain ⟨t1, t2⟩ := zq_ptl h J7
            refine ⟨t1, ?_⟩
            rcases t2 with t2 | ⟨t2, b, t3, t4⟩
            · exact Or.inl t2
            · exact Or.inr ⟨t2, b, by omega, t4.imp (fun _ T hT => ⟨_, _, _, _, hT⟩)⟩
          · rw [if_neg c5, if_neg (fun q => c5 (x20.mp q))]
            exact ⟨rfl, Or.inl ⟨rfl, J5.fl⟩⟩
        · rw [if_neg c4, if_neg (fun q => c4 (u6.mp q))]
          have J5 : zqJ X0 e (a + 1 + 1 + 1) P4 (xas X3 9) (fun T => zqPp (zvu V5 2 p 2 (P4 0 3)) P4 (xas X3 9) (a + 1 + 1 + 1) (vc V 0) p (vc V 2) (vc V 3) T ∧ T 7 p = 8 ∧ T 8 p = 3 ∧ zvu V5 2 p 2 (P4 0 3) 2 p 1 = T 5 p ∧ zix (T 5 p) (vc V 0) ∧ zvu V5 2 p 2 (P4 0 3) 2 p 2 = T 6 p ∧ zix (T 6 p) (vc V 0)) := by
            refine J4.imp (fun _ T hT => ?_)
            obtain ⟨h1, h2, h3, h4, h5, h6⟩ := hT
            exact ⟨h1.v (by decide), h2, h3, by rw [zvu_ne (by omega), hV51]; exact h4, h5, by rw [zvu_same, h4, h6], by rw [h6]; exact h5⟩
          obtain ⟨t1, t2⟩ := zq_ptl h J5
          refine ⟨t1, ?_⟩
          rcases t2 with t2 | ⟨t2, b, t3, t4⟩
          · exact Or.inl t2
          · exact Or.inr ⟨t2, b, by omega, t4.imp (fun _ T hT => ⟨_, _, _, _, hT⟩)⟩
      · rw [if_neg c3, if_neg (fun q => c3 (w20.mp q))]
        exact ⟨rfl, Or.inl ⟨rfl, J2.fl⟩⟩
    · rw [if_neg c2, if_neg (fun q => c2 (m5.mp q))]
      exact ⟨rfl, Or.inl ⟨rfl, J1.fl⟩⟩
  · rw [if_neg c, if_neg (fun q => c (k20.mp q))]
    exact ⟨rfl, Or.inl ⟨rfl, hJ.fl⟩⟩
end ZQPL
