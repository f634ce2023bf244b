/-! A HAWK'S LINE ON BOTH SIDES -/
def zqHp (V : zV) (P X : zFn) (a nl np h nk : Nat) (T : zFn) : Prop := zqCn V T nl np (h + 1) nk ∧ zqN3 P X a nl np nk ∧ zqC V T nl np h nk ∧ zqFr T nl nk ∧ zqTB T ∧ h < 6 ∧ V 3 h 4 = 0 ∧ V 3 h 5 = 0
theorem zqHp.v {V : zV} {P X : zFn} {a nl np h nk f : Nat} {T : zFn} {x : Int32} (hh : zqHp V P X a nl np h nk T) (hf : f < 4) : zqHp (zvu V 3 h f x) P X a nl np h nk T := by
  obtain ⟨h1, h2, h3, h4, h5, h6, h7, h8⟩ := hh
  exact ⟨h1.cg (fun g hg => by simp [zvu]) (fun _ _ => rfl), h2, h3.fr (zqB.up zqB.rf (by omega)) zqBT.rf, h4, h5, h6, by rw [zvu_ne (by omega)]; exact h7, by rw [zvu_ne (by omega)]; exact h8⟩
theorem zqHp.t {V : zV} {P X : zFn} {a nl np h nk j : Nat} {T : zFn} {x : Int32} (hh : zqHp V P X a nl np h nk T) (hj : 9 ≤ j ∧ j ≤ 12) : zqHp V P X a nl np h nk (zup T j h x) := by
  obtain ⟨h1, h2, h3, h4, h5, h6, h7⟩ := hh
  exact ⟨h1.cg (fun _ _ => rfl) (fun g hg => by rw [zup_ne (by omega)]), h2, h3.fr zqB.rf (zqBT.up zqBT.rf (by omega)), h4.up (by omega), h5.up (Or.inl (by omega)), h6, h7⟩
theorem zqHp.n {V : zV} {P X P' X' : zFn} {a b nl np h nk : Nat} {T : zFn} (hh : zqHp V P X a nl np h nk T) (hN : zqNK P X a P' X' b) : zqHp V P' X' b nl np h nk T := ⟨hh.1, hN.n3 hh.2.1, hh.2.2⟩
theorem zq_zh {X0 : zFn} {M : zFn → Prop} {h : Nat} (hM : ∀ T, M T → h < 6 ∧ T 0 2 = nI (h + 1)) : zqZ X0 M 13 9 h 0 63 ∧ zqZ X0 M 14 10 h 0 63 ∧ zqZ X0 M 15 11 h 0 20 ∧ zqZ X0 M 16 12 h 1 24 := by
  have hok : ∀ (T X' : zFn) (t : Nat), M T → (X' 5 t = 13 ∨ X' 5 t = 14 ∨ X' 5 t = 15 ∨ X' 5 t = 16) → X' 2 t = 21 → zOK X' t T := by
    intro T X' t hT h5 h2
    obtain ⟨hl, e1⟩ := hM T hT
    exact Or.inr (Or.inr (Or.inr (Or.inr (Or.inr (Or.inr (Or.inl ⟨h5, h2, h, hl, e1⟩))))))
  refine ⟨fun T hT X' t hY h5 h2 => ⟨hok T X' t hT (Or.inl h5) h2, ?_⟩, fun T hT X' t hY h5 h2 => ⟨hok T X' t hT (Or.inr (Or.inl h5)) h2, ?_⟩, fun T hT X' t hY h5 h2 => ⟨hok T X' t hT (Or.inr (Or.inr (Or.inl h5))) h2, ?_⟩, fun T hT X' t hY h5 h2 => ⟨hok T X' t hT (Or.inr (Or.inr (Or.inr h5))) h2, ?_⟩⟩
  · obtain ⟨hl, e1⟩ := hM T hT
    rw [zstp_13 h5, e1, nI_clamp (by omega), Nat.add_sub_cancel]
    unfold reo13
    rw [rno0_cg hY]
  · obtain ⟨hl, e1⟩ := hM T hT
    rw [zstp_14 h5, e1, nI_clamp (by omega), Nat.add_sub_cancel]
    unfold reo14
    rw [rno0_cg hY]
  · obtain ⟨hl, e1⟩ := hM T hT
    rw [zstp_15 h5, e1, nI_clamp (by omega), Nat.add_sub_cancel]
    unfold reo15
    rw [rno0_cg hY]
  · obtain ⟨hl, e1⟩ := hM T hT
    rw [zstp_16 h5, e1, nI_clamp (by omega), Nat.add_sub_cancel]
    unfold reo16
    rw [rno0_cg hY]
def htl (P : zFn) (V1 : zV) (Q : zFn) (K : zKn) (n1 : Nat) : Int32 × zFn × zV :=
    if vko Q K (P 0 0) = 7 then
      let P2 := vat P
      let r3 := vrs P2 Q K
      if r3.1 = 0 then
        (0, r3.2, V1)
      else
        let V4 := zvu V1 3 n1 0 ((r3.2 0 4))
        let V5 := zvu V4 3 n1 1 ((r3.2 0 5))
        if vko Q K (r3.2 0 0) = 15 then
          let P6 := vat r3.2
          if vko Q K (P6 0 0) = 3 then
            let P7 := vrn P6 Q 0 20
            let V8 := zvu V5 3 n1 2 ((P7 0 3))
            let r9 := vro P7 Q K 16 1 24 4
            if r9.1 = 0 then
              (0, r9.2, V8)
            else
              let V10 := zvu V8 3 n1 3 ((r9.2 0 3))
              (1, r9.2, V10)
          else
            (0, P6, V5)
        else
          (0, r3.2, V5)
    else
      (0, P, V1)
theorem vrh_eq (P : zFn) (V : zV) (Q : zFn) (K : zKn) : vrh P V Q K = if V 0 0 2 < 6 then htl P (vaddH V) Q K (min (vc V 2) 5) else htl (vte P Q 4) (vaddH V) Q K (min (vc V 2) 5) := rfl
section ZQHL
variable {Q : zFn} {K : zKn} {X0 : zFn} {n e : Nat}
theorem zq_htl (h : zqI Q K X0 n e) {P X : zFn} {a nl np q nk : Nat} {V : zV} (hJ : zqJ X0 e a P X (fun T => zqHp V P X a nl np q nk T ∧ T 12 q = 4)) : (htl P V Q K q).1 = (rhaw X).1 ∧ (((htl P V Q K q).1 = 0 ∧ zqFl e (htl P V Q K q).2.1 (rhaw X).2) ∨ ((htl P V Q K q).1 = 1 ∧ ∃ b, a ≤ b ∧ zqJ X0 e b (htl P V Q K q).2.1 (rhaw X).2 (zqMB (htl P V Q K q).2.2 (htl P V Q K q).2.1 (rhaw X).2 b nl np (q + 1) nk))) := by
  have he := h.2.1
  obtain ⟨k1, k2, k3⟩ := h.is hJ
  have k7 : X 2 (zsf (X 0 3) 401) = 1 ↔ K a = 7 := k2 7 (by decide)
  unfold htl rhaw
  dsimp only
  rw [k1]
  by_cases c : K a = 7
  · have ha := k3 (by omega)
    rw [if_pos c, if_pos (k7.mpr c)]
    have J1 := hJ.at ha
    have N1 := hJ.nkt ha he
    obtain ⟨P1, hP1⟩ : ∃ P1, vat P = P1 := ⟨_, rfl⟩
    obtain ⟨X1, hX1⟩ : ∃ X1, xat X = X1 := ⟨_, rfl⟩
    rw [hP1, hX1] at J1 N1 ⊢
    have hz := (zq_zh (X0 := X0) (M := fun T => zqHp V P X a nl np q nk T ∧ T 12 q = 4) (h := q) (fun T hT => ⟨hT.1.2.2.2.2.2.1, hT.1.1.2.2.1.2.1⟩)).1
    have hz2 : ∀ v, zqZ X0 (fun T' => ∃ T, (zqHp V P X a nl np q nk T ∧ T 12 q = 4) ∧ rin v 0 63 ≠ 0 ∧ T' = zup T 9 q v) (13 + 1) (9 + 1) q 0 63 := fun v => (zq_zh (h := q) (fun T' hT' => by
      obtain ⟨T, hT, -, rfl⟩ := hT'
      exact ⟨hT.1.2.2.2.2.2.1, by rw [zup_ne (by omega)]; exact hT.1.1.2.2.1.2.1⟩)).2.1
    obtain ⟨r1, r2⟩ := zq_spot h J1 (by decide) (by decide) hz hz2
    rcases r2 with ⟨q1, q2⟩ | ⟨q1, q2, q3⟩
    · rw [if_pos q1, if_pos (show (rsp X1 13).1 = 0 by rw [← r1]; exact q1)]
      exact ⟨rfl, Or.inl ⟨rfl, q2⟩⟩
    · rw [if_neg (show ¬ (vrs P1 Q K).1 = 0 by rw [q1]; decide), if_neg (show ¬ (rsp X1 13).1 = 0 by rw [← r1, q1]; decide)]
      obtain ⟨P3, hP3⟩ : ∃ P3, (vrs P1 Q K).2 = P3 := ⟨_, rfl⟩
      obtain ⟨X3, hX3⟩ : ∃ X3, (rsp X1 13).2 = X3 := ⟨_, rfl⟩
      rw [hP3, hX3] at q2 q3 ⊢
      have J3 : zqJ X0 e (a + 1 + 3) P3 X3 (fun T => zqHp (zvu (zvu V 3 q 0 (P3 0 4)) 3 q 1 (P3 0 5)) P3 X3 (a + 1 + 3) nl np q nk T ∧ T 12 q = 4 ∧ P3 0 4 = T 9 q ∧ P3 0 5 = T 10 q ∧ zix (T 9 q) 64 ∧ zix (T 10 q) 64) := by
        refine q2.imp (fun _ T' hT' => ?_)
        obtain ⟨T, ⟨h1, h2⟩, x1, x2, rfl⟩ := hT'
        refine ⟨(((((h1.n N1).n q3).v (by decide)).v (by decide)).t (by omega)).t (by omega), by rw [zup_ne (by omega), zup_ne (by omega)]; exact h2, by rw [zup_ne (by omega), zup_same], by rw [zup_same], by rw [zup_ne (by omega), zup_same]; exact zix_rin x1, by rw [zup_same]; exact zix_rin x2⟩
      obtain ⟨m1, m2, m3⟩ := h.is J3
      have m9 : X3 2 (zsf (X3 0 3) 401) = 9 ↔ K (a + 1 + 3) = 15 := m2 15 (by decide)
      rw [m1]
      by_cases c2 : K (a + 1 + 3) = 15
      · have ha2 := m3 (by omega)
        rw [if_pos c2, if_pos (m9.mpr c2)]
        have J4 := J3.at ha2
        have N4 := J3.nkt ha2 he
        obtain ⟨P4, hP4⟩ : ∃ P4, vat P3 = P4 := ⟨_, rfl⟩
        obtain ⟨X4, hX4⟩ : ∃ X4, xat X3 = X4 := ⟨_, rfl⟩
        rw [hP4, hX4] at J4 N4 ⊢
        obtain ⟨V5, hV5⟩ : ∃ V5, zvu (zvu V 3 q 0 (P3 0 4)) 3 q 1 (P3 0 5) = V5 := ⟨_, rfl⟩
        have e50 : V5 3 q 0 = P3 0 4 := by rw [← hV5, zvu_ne (by omega), zvu_same]
        have e51 : V5 3 q 1 = P3 0 5 := by rw [← hV5, zvu_same]
        rw [hV5] at J3 J4 ⊢
        obtain ⟨w1, w2, w3⟩ := h.is J4
        have w21 : X4 2 (zsf (X4 0 3) 401) = 21 ↔ K (a + 1 + 3 + 1) = 3 := w2 3 (by decide)
        rw [w1]
        by_cases c3 : K (a + 1 + 3 + 1) = 3
        · have ha3 := w3 (by omega)
          rw [if_pos c3, if_pos (w21.mpr c3)]
          have hz15 := (zq_zh (X0 := X0) (M := fun T => zqHp V5 P3 X3 (a + 1 + 3) nl np q nk T ∧ T 12 q = 4 ∧ P3 0 4 = T 9 q ∧ P3 0 5 = T 10 q ∧ zix (T 9 q) 64 ∧ zix (T 10 q) 64) (h := q) (fun T hT => ⟨hT.1.2.2.2.2.2.1, hT.1.1.2.2.1.2.1⟩)).2.2.1
          obtain ⟨J5, N5, -⟩ := zq_numz h J4 ha3 c3 hz15 (by decide)
          obtain ⟨P7, hP7⟩ : ∃ P7, vrn P4 Q 0 20 = P7 := ⟨_, rfl⟩
          obtain ⟨X7, hX7⟩ : ∃ X7, xas X4 15 = X7 := ⟨_, rfl⟩
          rw [hP7, hX7] at J5 N5 ⊢
          have J6 : zqJ X0 e (a + 1 + 3 + 1 + 1) P7 X7 (fun T => zqHp (zvu V5 3 q 2 (P7 0 3)) P7 X7 (a + 1 + 3 + 1 + 1) nl np q nk T ∧ T 12 q = 4 ∧ V5 3 q 0 = T 9 q ∧ V5 3 q 1 = T 10 q ∧ zix (T 9 q) 64 ∧ zix (T 10 q) 64 ∧ P7 0 3 = T 11 q) := by
            refine J5.imp (fun _ T' hT' => ?_)
            obtain ⟨T, ⟨h1, h2, h3, h4, h5, h6⟩, x1, rfl⟩ := hT'
            exact ⟨((((h1.n N4).n N5).v (by decide))).t (by omega), by rw [zup_ne (by omega)]; exact h2, by rw [zup_ne (by omega), e50]; exact h3, by rw [zup_ne (by omega), e51]; exact h4, by rw [zup_ne (by omega)]; exact h5, by rw [zup_ne (by omega)]; exact h6, by rw [zup_same]⟩
          have hz16 := (zq_zh (X0 := X0) (M := fun T => zqHp (zvu V5 3 q 2 (P7 0 3)) P7 X7 (a + 1 + 3 + 1 + 1) nl np q nk T ∧ T 12 q = 4 ∧ V5 3 q 0 = T 9 q ∧ V5 3 q 1 = T 10 q ∧ zix (T 9 q) 64 ∧ zix (T 10 q) 64 ∧ P7 0 3 = T 11 q) (h := q) (fun T hT => ⟨hT.1.2.2.2.2.2.1, hT.1.1.2.2.1.2.1⟩)).2.2.2
          obtain ⟨s1, s2⟩ := zq_opt (lo := 1) (hi := 24) (w := 4) h J6 (q := 16) (qk := 10) (by decide) rfl (by decide) hz16
          rcases s2 with ⟨t1, t2⟩ | ⟨t1, b, t2, t3, t4⟩
          · rw [if_pos t1, if_pos (show (rop X7 10 16).1 = 0 by rw [← s1]; exact t1)]
            exact ⟨rfl, Or.inl ⟨rfl, t2⟩⟩
          · rw [if_neg (show ¬ (vro P7 Q K 16 1 24 4).1 = 0 by rw [t1]; decide), if_neg (show ¬ (rop X7 10 16).1 = 0 by rw [← s1, t1]; decide)]
            refine ⟨rfl, Or.inr ⟨rfl, b, by omega, t3.imp (fun _ T' hT' => ?_)⟩⟩
            obtain ⟨P9, hP9⟩ : ∃ P9, (vro P7 Q K 16 1 24 4).2 = P9 := ⟨_, rfl⟩
            rw [hP9] at hT' t4 ⊢
            obtain ⟨T, ⟨h1, h2, h3, h4, h5, h6, h7⟩, hv⟩ := hT'
            have fin : ∀ Z : zFn, zqHp (zvu (zvu V5 3 q 2 (P7 0 3)) 3 q 3 (P9 0 3)) P9 (rop X7 10 16).2 b nl np q nk Z → Z 9 q = T 9 q → Z 10 q = T 10 q → Z 11 q = T 11 q → P9 0 3 = Z 12 q → zqMB (zvu (zvu V5 3 q 2 (P7 0 3)) 3 q 3 (P9 0 3)) P9 (rop X7 10 16).2 b nl np (q + 1) nk Z := by
              intro Z hZ z9 z10 z11 z12
              obtain ⟨y1, y2, y3, y4, y5, y6, y7, y8⟩ := hZ
              have hnl := y1.1.2.2
              have hnp := y1.2.1.2.2
              refine ⟨y1, y2, y3.more ⟨Nat.le_refl _, by omega⟩ ⟨by omega, by omega⟩ (fun i a1 a2 => by omega) (fun i a1 a2 => by omega) (fun i a1 a2 => ?_) (fun i a1 a2 => by omega), y4, y5⟩
              have : i = q := by omega
              subst this
              unfold zqcH
              rw [z9, z10, z11]
              exact ⟨by simp [zvu]; exact h3, by simp [zvu]; exact h4, by simp [zvu]; exact h7, by simp [zvu]; exact z12, y7, y8, h5, h6⟩
            rcases hv with ⟨x1, rfl⟩ | ⟨rfl, x1⟩
            · exact fin _ (((h1.n t4).v (by decide)).t (by omega)) (by rw [zup_ne (by omega)]) (by rw [zup_ne (by omega)]) (by rw [zup_ne (by omega)]) (by rw [zup_same])
            · exact fin _ ((h1.n t4).v (by decide)) rfl rfl rfl (by rw [x1, h2])
        · rw [if_neg c3, if_neg (fun q => c3 (w21.mp q))]
          exact ⟨rfl, Or.inl ⟨rfl, J4.fl⟩⟩
      · rw [if_neg c2, if_neg (fun q => c2 (m9.mp q))]
        exact ⟨rfl, Or.inl ⟨rfl, J3.fl⟩⟩
  · rw [if_neg c, if_neg (fun q => c (k7.mp q))]
    exact ⟨rfl, Or.inl ⟨rfl, hJ.fl⟩⟩
theorem zq_hawk (h : zqI Q K X0 n e) {P X : zFn} {a : Nat} {V : zV} (hG : zVG V) (hJ : zqJ X0 e a P X (zqMB V P X a (vc V 0) (vc V 1) (vc V 2) (vc V 3))) (ha : a < e) (hk : K a = 14) : (vrh (vat P) V Q K).1 = (rhaw (xas X 4)).1 ∧ (((vrh (vat P) V Q K).1 = 0 ∧ zqFl e (vrh (vat P) V Q K).2.1 (rhaw (xas X 4)).2) ∨ ((vrh (vat P) V Q K).1 = 1 ∧ ∃ b, a < b ∧ zqJ X0 e b (vrh (vat P) V Q K).2.1 (rhaw (xas X 4)).2 (fun T => ∃ nl np nh nk, zqMB (vrh (vat P) V Q K).2.2 (vrh (vat P) V Q K).2.1 (rhaw (xas X 4)).2 b nl np nh nk T))) := by
  have he := h.2.1
  have hm : vc V 2 ≤ 6 := hG.1.2.2.1.2
  have hv0 : V 0 0 2 = nI (vc V 2) := hG.1.2.2.1.1
  obtain ⟨q, el⟩ : ∃ q, min (vc V 2) 5 = q := ⟨_, rfl⟩
  obtain ⟨r1, r2⟩ := vat_r (P := P)
  have r0 := vat_0 hJ.1
  obtain ⟨t1, t2, t3, t4, t5⟩ := vte_r (P := vat P) (Q := Q) (x := 4)
  have hst : vsta Q (vat P 0 0 - 1) = X0 3 a := by rw [r0, nI_pred]; exact h.st (by omega)
  have hadd : vaddH V = vclH (zvu V 0 0 2 (zmin (nI (vc V 2) + 1) 6)) q := by
    unfold vaddH
    rw [hv0, znumH _ hm, el]
  have hx5 := xas_5 (z := 4) hJ.2.1 (show a < 401 by omega)
  have hY := xas_Y (z := 4) hJ.2.1 (show a < 401 by omega)
  have hY0 := hJ.2.2.2.1.tr0 hY
  rw [vrh_eq, el]
  have main : ∀ P', P' = (if V 0 0 2 < 6 then vat P else vte (vat P) Q 4) → zqJ X0 e (a + 1) P' (xas X 4) (fun T => zqHp (vaddH V) P' (xas X 4) (a + 1) (vc V 0) (vc V 1) q (vc V 3) T ∧ T 12 q = 4) := by
    intro P' hP'
    have hr : ∀ j k, 0 < j → P' j k = P j k := by
      intro j k hj
      rw [hP']
      split
      · exact r1 j k hj
      · rw [t1 j k hj, r1 j k hj]
    have hNK := (hJ.nk (P' := P') (z := 4) ha he (Or.inr (by decide)) hr).1
    refine hJ.as ha he ?_ (fun z => ?_) (fun b1 b2 T hT => ?_)
    · rw [hP']
      split
      · exact r0
      · rw [t2, r0]
    · rw [hP']
      split
      · rw [r2 1 (by decide), r2 2 (by decide)]; exact ⟨rfl, rfl⟩
      · obtain ⟨x1, x2⟩ := t4 (by rw [r2 1 (by decide)]; exact z)
        rw [x1, x2, r2 1 (by decide), r2 2 (by decide)]; exact ⟨rfl, rfl⟩
    · obtain ⟨h1, h2, h3, h4, h5⟩ := hT
      have e1 := h1.2.2.1.2.1
      refine ⟨Or.inr (Or.inr (Or.inr (Or.inr (Or.inr (Or.inl ⟨hx5, by rw [hY0.2.1, (h.kd (show a ≤ e by omega)).2.1, hk]; rfl, vc V 2, hm, e1⟩))))), ?_⟩
      rw [zstp_4 hx5, e1, nI_clamp (by omega)]
      unfold reo4
      by_cases c : vc V 2 = 6
      · refine ⟨4, T, by rw [if_pos (by rw [c]; rfl)], fun z => absurd z (by decide), fun _ => ?_⟩
        obtain ⟨x1, x2⟩ := t5 (by rw [r2 1 (by decide)]; exact b1)
        rw [hP', if_neg (by rw [hv0, c]; decide), x1, x2]
        exact ⟨rfl, hst⟩
      · have hl : vc V 2 = q := by omega
        refine ⟨0, zup (zup T 12 (vc V 2) 4) 0 2 (nI (vc V 2) + 1), by rw [if_neg (show ¬ nI (vc V 2) = 6 from fun z => c ((nI_eq (b := 6) (by omega) (by decide)).mp z))], fun _ => ?_, fun z => absurd rfl z⟩
        have hPv : P' = vat P := by rw [hP', if_pos (by rw [hv0]; exact nI_lt (b := 6) (by omega) (by decide))]
        rw [hl] at h1 h3 ⊢
        rw [hl] at hadd
        have hmin : zmin (nI q + 1) 6 = nI (q + 1) := by
          rw [nI_1]
          unfold zmin
          rw [if_neg (show ¬ 6 < nI (q + 1) from nI_nlt (a := 6) (by omega) (by decide))]
        rw [hmin] at hadd
        have hZ : zqBT (vc V 0) (vc V 1) q (vc V 3) T (zup (zup T 12 q 4) 0 2 (nI q + 1)) := (zqBT.rf.up (by omega)).up (by omega)
        have hV : zqB (vc V 0) (vc V 1) q (vc V 3) V (vaddH V) := by
          rw [hadd]
          unfold vclH
          refine zqB.up (zqB.up (zqB.up (zqB.up (zqB.up (zqB.up (zqB.up zqB.rf ?_) ?_) ?_) ?_) ?_) ?_) ?_
          all_goals omega
        obtain ⟨⟨c1, c2, c3⟩, ⟨c4, c5, c6⟩, ⟨c7, c8, c9⟩, c10, c11, c12⟩ := h1
        refine ⟨by rw [hPv, r2 1 (by decide), b1], by rw [hPv, r2 2 (by decide), b2], ⟨⟨⟨?_, by rw [zup_ne (by omega), zup_ne (by omega)]; exact c2, c3⟩, ⟨?_, by rw [zup_ne (by omega), zup_ne (by omega)]; exact c5, c6⟩, ⟨?_, by rw [zup_same, nI_1], by omega⟩, ?_, by rw [zup_ne (by omega), zup_ne (by omega)]; exact c11, c12⟩, hNK.n3 h2, h3.fr hV hZ, (h4.up (by omega)).up (by omega), (h5.up (Or.inl (by omega))).up (Or.inl (by omega)), by omega, ?_, ?_⟩, by rw [zup_ne (by omega), zup_same]⟩
        · rw [hadd]; simp [vclH, zvu]; exact c1
        · rw [hadd]; simp [vclH, zvu]; exact c4
        · rw [hadd]; simp [vclH, zvu]
        · rw [hadd]; simp [vclH, zvu]; exact c10
        · rw [hadd]; simp [vclH, zvu]
        · rw [hadd]; simp [vclH, zvu]
  by_cases d : V 0 0 2 < 6
  · rw [if_pos d]
    have J1 := main (vat P) (by rw [if_pos d])
    obtain ⟨w1, w2⟩ := zq_htl h J1
    refine ⟨w1, ?_⟩
    rcases w2 with w2 | ⟨w2, b, w3, w4⟩
    · exact Or.inl w2
    · exact Or.inr ⟨w2, b, by omega, w4.imp (fun _ T hT => ⟨_, _, _, _, hT⟩)⟩
  · rw [if_neg d]
    have J1 := main (vte (vat P) Q 4) (by rw [if_neg d])
    obtain ⟨w1, w2⟩ := zq_htl h J1
    refine ⟨w1, ?_⟩
    rcases w2 with w2 | ⟨w2, b, w3, w4⟩
    · exact Or.inl w2
    · exact Or.inr ⟨w2, b, by omega, w4.imp (fun _ T hT => ⟨_, _, _, _, hT⟩)⟩
end ZQHL
