/-! THE WHOLE TEXT ON BOTH SIDES -/
section ZQRD
variable {Q : zFn} {K : zKn} {X0 : zFn} {n e : Nat}
def zqEx (V : zV) (P X : zFn) (a : Nat) (T : zFn) : Prop := ∃ nl np nh nk, zqMB V P X a nl np nh nk T
theorem zqEx.vc {V : zV} {P X : zFn} {a : Nat} {T : zFn} (h : zqEx V P X a T) : zqMB V P X a (vc V 0) (vc V 1) (vc V 2) (vc V 3) T := by
  obtain ⟨nl, np, nh, nk, h⟩ := h
  obtain ⟨a1, a2, a3, a4⟩ := h.vc4
  rw [a1, a2, a3, a4]
  exact h
theorem zqEx_nk {V : zV} {P X P' X' : zFn} {a b : Nat} {T : zFn} (h : zqEx V P X a T) (hN : zqNK P X a P' X' b) : zqEx V P' X' b T := by
  obtain ⟨nl, np, nh, nk, h1, h2, h3⟩ := h
  exact ⟨nl, np, nh, nk, h1, hN.n3 h2, h3⟩
/-- the end of reading -/
def zqDn (Q : zFn) (X0 : zFn) (e : Nat) (R : Int32 × zFn × zV) (Y : Int32 × zFn) : Prop :=
  (Y.1 = 0 ∧ ∃ b, b ≤ e ∧ Y.2 0 3 = nI b ∧ R.1 = 1 ∧ R.2.1 0 2 = X0 3 b) ∨ (Y.1 = 1 ∧ R.1 = R.2.1 0 1 ∧ ∃ b, zqJ X0 e b R.2.1 Y.2 (zqEx R.2.2 R.2.1 Y.2 b))
theorem vrdL_0 (m i : Nat) (P : zFn) (V : zV) : vrdL Q K m i 0 P V = vrdT P V Q 0 := by
  cases m with
  | zero => rfl
  | succ m => rw [vrdL, if_pos rfl]
theorem zq_fail (h : zqI Q K X0 n e) {P X : zFn} {V : zV} {m i : Nat} (hF : zqFl e P X) : zqDn Q X0 e (vrdL Q K m i 0 P V) (0, X) := by
  obtain ⟨b, hb, h1, h2⟩ := hF
  rw [vrdL_0]
  unfold vrdT
  rw [if_pos rfl]
  refine Or.inl ⟨rfl, b, hb, h2, ?_, ?_⟩
  · show zup (zup P 0 1 1) 0 2 (vsta Q (zup P 0 1 1 0 0)) 0 1 = 1
    rw [zup_ne (by omega), zup_same]
  · show zup (zup P 0 1 1) 0 2 (vsta Q (zup P 0 1 1 0 0)) 0 2 = X0 3 b
    rw [zup_same, zup_ne (by omega), h1]
    exact h.st hb
theorem zq_text (h : zqI Q K X0 n e) : ∀ (m m' i a : Nat) (P X : zFn) (V : zV), zVG V → zqJ X0 e a P X (zqEx V P X a) → e - a < 2 * m → e - a < m' → zqDn Q X0 e (vrdL Q K m i 1 P V) (rtx m' X)
  | 0, _, _, _, _, _, _, _, _, h1, _ => absurd h1 (by omega)
  | m + 1, 0, _, _, _, _, _, _, _, _, h2 => absurd h2 (by omega)
  | m + 1, m' + 1, i, a, P, X, V, hG, hJ, h1, h2 => by
    have he := h.2.1
    obtain ⟨k1, k2, k3⟩ := h.is hJ
    have k30 : X 2 (zsf (X 0 3) 401) = 30 ↔ K a = 0 := k2 0 (by decide)
    have k0 : X 2 (zsf (X 0 3) 401) = 0 ↔ K a = 6 := k2 6 (by decide)
    have k4 : X 2 (zsf (X 0 3) 401) = 4 ↔ K a = 10 := k2 10 (by decide)
    have k8 : X 2 (zsf (X 0 3) 401) = 8 ↔ K a = 14 := k2 14 (by decide)
    have k11 : X 2 (zsf (X 0 3) 401) = 11 ↔ K a = 17 := k2 17 (by decide)
    have hJ0 := hJ.imp (fun _ T hT => hT.vc)
    rw [vrdL, if_neg (by decide), k1, rtx]
    have semi : ∀ (r : Int32 × zFn × zV) (x : Int32 × zFn), zVG r.2.2 → r.1 = x.1 → ((r.1 = 0 ∧ zqFl e r.2.1 x.2) ∨ (r.1 = 1 ∧ ∃ b, a < b ∧ zqJ X0 e b r.2.1 x.2 (zqEx r.2.2 r.2.1 x.2 b))) → zqDn Q X0 e (if r.1 = 0 then vrdL Q K m (i + 1) 0 r.2.1 r.2.2 else if vko Q K (r.2.1 0 0) = 5 then vrdL Q K m (i + 1) 1 (vat r.2.1) r.2.2 else vrdL Q K m (i + 1) 0 r.2.1 r.2.2) (if x.1 = 0 then (0, x.2) else if x.2 2 (zsf (x.2 0 3) 401) = 23 then rtx m' (xat x.2) else (0, x.2)) := by
      intro r x hG2 hrx hc
      rcases hc with ⟨q1, q2⟩ | ⟨q1, b, q2, q3⟩
      · rw [if_pos q1, if_pos (by rw [← hrx]; exact q1)]
        exact zq_fail h q2
      · rw [if_neg (show ¬ r.1 = 0 by rw [q1]; decide), if_neg (show ¬ x.1 = 0 by rw [← hrx, q1]; decide)]
        obtain ⟨m1, m2, m3⟩ := h.is q3
        have m23 : x.2 2 (zsf (x.2 0 3) 401) = 23 ↔ K b = 5 := m2 5 (by decide)
        rw [m1]
        by_cases c : K b = 5
        · have hb := m3 (by omega)
          rw [if_pos c, if_pos (m23.mpr c)]
          have J2 := q3.at hb
          have N2 := q3.nkt hb he
          exact zq_text h m m' (i + 1) (b + 1) _ _ _ hG2 (J2.imp (fun _ T hT => zqEx_nk hT N2)) (by omega) (by omega)
        · rw [if_neg c, if_neg (fun q => c (m23.mp q))]
          exact zq_fail h q3.fl
    by_cases c0 : K a = 0
    · rw [if_pos c0, if_pos (k30.mpr c0)]
      unfold vrdT
      rw [if_neg (by decide)]
      exact Or.inr ⟨rfl, rfl, a, hJ⟩
    · rw [if_neg c0, if_neg (fun q => c0 (k30.mp q))]
      by_cases c1 : K a = 6
      · have ha := k3 (by omega)
        rw [if_pos c1, if_pos (k0.mpr c1)]
        have J1 := hJ0.at ha
        have N1 := hJ0.nkt ha he
        have J1 := J1.imp (M' := zqMB V (vat P) (xat X) (a + 1) (vc V 0) (vc V 1) (vc V 2) (vc V 3)) (fun _ T hT => ⟨hT.1, N1.n3 hT.2.1, hT.2.2⟩)
        obtain ⟨w1, w2⟩ := zq_loft h hG J1
        refine semi _ _ (vrl_G hG _ _ _) w1 ?_
        rcases w2 with w | ⟨w2, b, w3, w4⟩
        · exact Or.inl w
        · exact Or.inr ⟨w2, b, by omega, w4⟩
      · rw [if_neg c1, if_neg (fun q => c1 (k0.mp q))]
        by_cases c2 : K a = 10
        · have ha := k3 (by omega)
          rw [if_pos c2, if_pos (k4.mpr c2)]
          have J1 := hJ0.at ha
          have N1 := hJ0.nkt ha he
          have J1 := J1.imp (M' := zqMB V (vat P) (xat X) (a + 1) (vc V 0) (vc V 1) (vc V 2) (vc V 3)) (fun _ T hT => ⟨hT.1, N1.n3 hT.2.1, hT.2.2⟩)
          obtain ⟨w1, w2⟩ := zq_pigeon h hG J1
          refine semi _ _ (vrp_G hG _ _ _) w1 ?_
          rcases w2 with w | ⟨w2, b, w3, w4⟩
          · exact Or.inl w
          · exact Or.inr ⟨w2, b, by omega, w4⟩
        · rw [if_neg c2, if_neg (fun q => c2 (k4.mp q))]
          by_cases c3 : K a = 14
          · have ha := k3 (by omega)
            rw [if_pos c3, if_pos (k8.mpr c3)]
            obtain ⟨w1, w2⟩ := zq_hawk h hG hJ0 ha c3
            exact semi _ _ (vrh_G hG _ _ _) w1 w2
          · rw [if_neg c3, if_neg (fun q => c3 (k8.mp q))]
            by_cases c4 : K a = 17
            · have ha := k3 (by omega)
              rw [if_pos c4, if_pos (k11.mpr c4)]
              have J1 := hJ0.at ha
              have N1 := hJ0.nkt ha he
              have J1 := J1.imp (M' := zqMB V (vat P) (xat X) (a + 1) (vc V 0) (vc V 1) (vc V 2) (vc V 3)) (fun _ T hT => ⟨hT.1, N1.n3 hT.2.1, hT.2.2⟩)
              obtain ⟨w1, w2⟩ := zq_letter h hG (by omega) J1
              refine semi _ _ (vrk_G hG _ _ _) w1 ?_
              rcases w2 with w | ⟨w2, b, w3, w4⟩
              · exact Or.inl w
              · exact Or.inr ⟨w2, b, by omega, w4⟩
            · rw [if_neg c4, if_neg (fun q => c4 (k11.mp q))]
              exact zq_fail h hJ.fl
end ZQRD
theorem zq_reads {Q P X : zFn} {K : zKn} {V : zV} {n : Nat} (hT : zqTp Q X n) (hSZ : zSZ V) : ∃ e, e ≤ 400 ∧ (∀ a, rct n 401 0 0 X 0 a = X 0 a) ∧ zqI (vsc Q K n).1 (vsc Q K n).2 (zup (rct n 401 0 0 X) 0 3 0) n e ∧ zqDn (vsc Q K n).1 (zup (rct n 401 0 0 X) 0 3 0) e (vrd P V (vsc Q K n).1 (vsc Q K n).2) (rtx 401 (zup (rct n 401 0 0 X) 0 3 0)) := by
  obtain ⟨e, e1, e2, e3, e4, e5, e6⟩ := zq_scans (K := K) hT
  obtain ⟨X0, hX0⟩ : ∃ X0, zup (rct n 401 0 0 X) 0 3 0 = X0 := ⟨_, rfl⟩
  have hr : ∀ j k, 0 < j → X0 j k = rct n 401 0 0 X j k := fun j k hj => by rw [← hX0, zup_ne (by omega)]
  have hI : zqI (vsc Q K n).1 (vsc Q K n).2 X0 n e := by
    refine ⟨e5.up rfl (fun _ => rfl) (by rw [← hX0, zup_ne (by omega)]) (fun a => hr 1 a (by decide)), e1, e2, fun j hj => ?_, ?_⟩
    · obtain ⟨f, l, t1, t2, t3, t4, t5, t6, t7, t8, t9, t10⟩ := e3 j hj
      exact ⟨f, l, t1, t2, by rw [hr 2 j (by decide)]; exact t3, t4, by rw [hr 3 j (by decide)]; exact t5, t6, by rw [hr 4 j (by decide)]; exact t7, t8, by rw [hr 5 j (by decide)]; exact t9, fun q => ⟨(t10 q).1, fun i a1 a2 => by rw [hr 1 i (by decide)]; exact (t10 q).2 i a1 a2⟩⟩
    · obtain ⟨f, t1, t2, t3, t4, t5, t6⟩ := e4
      exact ⟨f, t1, by rw [hr 2 e (by decide)]; exact t2, t3, by rw [hr 3 e (by decide)]; exact t4, t5, by rw [hr 5 e (by decide)]; exact t6⟩
  rw [hX0]
  refine ⟨e, e1, e6, hI, ?_⟩
  · unfold vrd
    refine zq_text hI 400 401 0 0 _ _ _ (vclW_G hSZ) ?_ (by omega) (by omega)
    have z0 : X0 0 3 = nI 0 := by rw [← hX0, zup_same]; rfl
    have hz5 : ∀ j, j ≤ e → X0 5 j = 0 := by
      intro j hj
      rcases Nat.lt_or_ge j e with q | q
      · obtain ⟨f, l, t1, t2, t3, t4, t5, t6, t7, t8, t9, t10⟩ := hI.2.2.2.1 j q
        exact t9
      · have : j = e := by omega
        subst this
        obtain ⟨f, t1, t2, t3, t4, t5, t6⟩ := hI.2.2.2.2
        exact t6
    refine ⟨by simp [zup]; rfl, z0, by omega, ⟨fun _ => rfl, fun _ => rfl, fun _ => rfl, fun _ => rfl, fun _ _ => rfl⟩, fun j _ hj => hz5 j hj, fun k hk => absurd hk (by omega), Or.inr ⟨by simp [zup], by simp [zup], rfl, 0, 0, 0, 0, ?_⟩⟩
    have hn : ∀ y, zqNm (zup (zup (zup P 0 0 0) 0 1 0) 0 2 (-1)) X0 y 0 0 := fun y => ⟨rfl, fun i hi => absurd hi (by omega)⟩
    refine ⟨⟨⟨by simp [vclW, zvu]; rfl, rfl, by decide⟩, ⟨by simp [vclW, zvu]; rfl, rfl, by decide⟩, ⟨by simp [vclW, zvu]; rfl, rfl, by decide⟩, by simp [vclW, zvu]; rfl, rfl, by decide⟩, ⟨hn 1, hn 2, hn 3⟩, ⟨fun i hi => absurd hi (by omega), fun i hi => absurd hi (by omega), fun i hi => absurd hi (by omega), fun i hi => absurd hi (by omega)⟩, ⟨fun _ _ _ => rfl, fun _ _ _ => ⟨rfl, fun _ _ => rfl⟩⟩, ⟨fun _ _ => ⟨show zix 0 6 from ⟨by decide, by decide⟩, show zix 0 6 from ⟨by decide, by decide⟩⟩, fun _ _ => show zix 0 7 from ⟨by decide, by decide⟩, fun _ _ => show zix 0 7 from ⟨by decide, by decide⟩, fun _ _ => show zix 0 21 from ⟨by decide, by decide⟩, fun _ _ => show zix 0 20 from ⟨by decide, by decide⟩⟩⟩
