/-! STAGES, LETTERS, THE WHOLE TEXT ON BOTH SIDES -/
section ZQTX
variable {Q : zFn} {K : zKn} {X0 : zFn} {n e : Nat}
/-- how a stage ends: both fail at one place, or both go on -/
def zqSE (K : zKn) (X0 : zFn) (e a : Nat) (R : Int32 × zFn × zV) (Y : Int32 × zFn) (nl np nh k : Nat) : Prop :=
  (R.1 = 0 ∧ Y.1 = 0 ∧ zqFl e R.2.1 Y.2) ∨ (R.1 = 1 ∧ ∃ b m2 X2, a ≤ b ∧ e - b < m2 ∧ Y = rle m2 X2 ∧ K b ≠ 19 ∧ zqJ X0 e b R.2.1 X2 (fun T => ∃ j, zqKp R.2.2 R.2.1 X2 b nl np nh k j T))
theorem zqSE.le {K : zKn} {X0 : zFn} {e a a' : Nat} {R : Int32 × zFn × zV} {Y : Int32 × zFn} {nl np nh k : Nat} (h : zqSE K X0 e a R Y nl np nh k) (ha : a' ≤ a) : zqSE K X0 e a' R Y nl np nh k := by
  rcases h with h | ⟨h1, b, m2, X2, h2, h3⟩
  · exact Or.inl h
  · exact Or.inr ⟨h1, b, m2, X2, by omega, h3⟩
theorem vc_of {V : zV} {f m : Nat} (h : V 0 0 f = nI m) (hm : m < 2 ^ 31) : vc V f = m := by
  unfold vc
  rw [h, nI_clamp hm]
theorem zqMB.vc4 {V : zV} {P X : zFn} {a nl np nh nk : Nat} {T : zFn} (h : zqMB V P X a nl np nh nk T) : vc V 0 = nl ∧ vc V 1 = np ∧ vc V 2 = nh ∧ vc V 3 = nk := by
  obtain ⟨⟨a1, a2, a3⟩, ⟨b1, b2, b3⟩, ⟨c1, c2, c3⟩, d1, d2, d3⟩ := h.1
  exact ⟨vc_of a1 (by omega), vc_of b1 (by omega), vc_of c1 (by omega), vc_of d1 (by omega)⟩
theorem vaca_vc {V : zV} {k f : Nat} {x : Int32} : vc (vaca V k x) f = vc V f := by
  unfold vc vaca
  dsimp only
  repeat' split
  all_goals simp [zvu]
theorem vast_vc {V : zV} {k f : Nat} : vc (vast V k) f = vc V f := by
  unfold vc vast
  dsimp only
  repeat' split
  all_goals simp [zvu]
theorem zq_sL (h : zqI Q K X0 n e) {nl np nh k : Nat} {y : Int32} (hnp : np ≤ 20) : ∀ (m m' i a : Nat) (P X : zFn) (V : zV), vc V 1 = np → zqJ X0 e a P X (zqKl V P X a nl np nh k y) → e - a < m → e - a < m' → zqSE K X0 e a (vrsL Q K k y m i P V) (rle m' X) nl np nh k
  | 0, _, _, a, _, _, _, _, hJ, h1, _ => absurd h1 (by omega)
  | m + 1, 0, _, a, _, _, _, _, hJ, _, h2 => absurd h2 (by omega)
  | m + 1, m' + 1, i, a, P, X, V, hv, hJ, h1, h2 => by
    have he := h.2.1
    obtain ⟨k1, k2, k3⟩ := h.is hJ
    have k13 : X 2 (zsf (X 0 3) 401) = 13 ↔ K a = 19 := k2 19 (by decide)
    rw [vrsL, k1]
    by_cases c : K a = 19
    · have ha := k3 (by omega)
      rw [if_pos c, rle, if_pos (k13.mpr c)]
      dsimp only
      have J1 := hJ.at ha
      have N1 := hJ.nkt ha he
      obtain ⟨P1, hP1⟩ : ∃ P1, vat P = P1 := ⟨_, rfl⟩
      obtain ⟨X1, hX1⟩ : ∃ X1, xat X = X1 := ⟨_, rfl⟩
      rw [hP1, hX1] at J1 N1 ⊢
      have J1 := J1.imp (fun _ T hT => hT.n N1)
      obtain ⟨m1, m2, m3⟩ := h.is J1
      have m20 : X1 2 (zsf (X1 0 3) 401) = 20 ↔ K (a + 1) = 2 := m2 2 (by decide)
      rw [m1]
      by_cases c2 : K (a + 1) = 2
      · have ha2 := m3 (by omega)
        rw [if_pos c2, if_pos (m20.mpr c2), hv]
        have go : ∀ P3 P4, P3 = (if V 2 (zsf (von2 P1 Q np 0 3) 20) 1 = y then von2 P1 Q np else vte (von2 P1 Q np) Q 6) → P4 = (if vlshW V k (P3 0 3) = 0 then P3 else vte P3 Q 7) → zqSE K X0 e a (vrsL Q K k y m (i + 1) P4 (vaca V k (P4 0 3))) (rle m' (xas X1 19)) nl np nh k := by
          intro P3 P4 h3 h4
          have J2 := zq_more h J1 ha2 hnp h3 h4
          exact (zq_sL h hnp m m' (i + 1) (a + 1 + 1) _ _ _ (by rw [vaca_vc, hv]) J2 (by omega) (by omega)).le (by omega)
        by_cases d : V 2 (zsf (von2 P1 Q np 0 3) 20) 1 = y
        · rw [if_pos d]
          by_cases d2 : vlshW V k (von2 P1 Q np 0 3) = 0
          · rw [if_pos d2]
            exact go _ _ (by rw [if_pos d]) (by rw [if_pos d2])
          · rw [if_neg d2]
            exact go _ _ (by rw [if_pos d]) (by rw [if_neg d2])
        · rw [if_neg d]
          by_cases d2 : vlshW V k (vte (von2 P1 Q np) Q 6 0 3) = 0
          · rw [if_pos d2]
            exact go _ _ (by rw [if_neg d]) (by rw [if_pos d2])
          · rw [if_neg d2]
            exact go _ _ (by rw [if_neg d]) (by rw [if_neg d2])
      · rw [if_neg c2, if_neg (fun q => c2 (m20.mp q))]
        exact Or.inl ⟨rfl, rfl, J1.fl⟩
    · rw [if_neg c]
      refine Or.inr ⟨rfl, a, m' + 1, X, Nat.le_refl _, h2, rfl, c, hJ.imp (fun _ T hT => ?_)⟩
      obtain ⟨j, z, q0, hk, -⟩ := hT
      exact ⟨j + 1, hk⟩
/-- a stage, at its first name -/
theorem zq_stg (h : zqI Q K X0 n e) {P X : zFn} {a nl np nh k m' : Nat} {V : zV} (hnp : np ≤ 20) (hv : vc V 1 = np) (hJ : zqJ X0 e a P X (zqKp V P X a nl np nh k (V 4 k 0).toNatClampNeg)) (h1 : e - a < 399) (h2 : e - a < m') : zqSE K X0 e a (vrst P V Q K k) (if X 2 (zsf (X 0 3) 401) = 20 then rle m' (xas X 18) else (0, X)) nl np nh k := by
  obtain ⟨k1, k2, k3⟩ := h.is hJ
  have k20 : X 2 (zsf (X 0 3) 401) = 20 ↔ K a = 2 := k2 2 (by decide)
  unfold vrst
  rw [k1]
  by_cases c : K a = 2
  · have ha := k3 (by omega)
    rw [if_pos c, if_pos (k20.mpr c), hv]
    dsimp only
    have go : ∀ P', P' = (if V 4 k 0 < 6 then von2 P Q np else vte (von2 P Q np) Q 4) → zqSE K X0 e a (vrsL Q K k (vaca (vast V k) k (P' 0 3) 2 (zsf (P' 0 3) 20) 1) 399 1 P' (vaca (vast V k) k (P' 0 3))) (rle m' (xas X 18)) nl np nh k := by
      intro P' hP'
      have J1 := zq_first h hJ ha hnp hP'
      exact (zq_sL h hnp 399 m' 1 (a + 1) _ _ _ (by rw [vaca_vc, vast_vc, hv]) J1 (by omega) (by omega)).le (by omega)
    by_cases d : V 4 k 0 < 6
    · rw [if_pos d]
      exact go _ (by rw [if_pos d])
    · rw [if_neg d]
      exact go _ (by rw [if_neg d])
  · rw [if_neg c, if_neg (fun q => c (k20.mp q))]
    exact Or.inl ⟨rfl, rfl, hJ.fl⟩
theorem vrkL_0 (k : Nat) (m i : Nat) (P : zFn) (V : zV) : vrkL Q K k m i 0 P V = (0, P, V) := by
  cases m with
  | zero => rfl
  | succ m => rw [vrkL, if_pos rfl]
theorem vrst_G' {V : zV} (hG : zVG V) {k : Nat} (hk : k < 12) (P : zFn) : zVG (vrst P V Q K k).2.2 := vrst_G hG hk P Q K
theorem vrsL_vc (k : Nat) (y : Int32) : ∀ (m i : Nat) (P : zFn) (V : zV) (f : Nat), vc (vrsL Q K k y m i P V).2.2 f = vc V f
  | 0, _, _, _, _ => rfl
  | m + 1, i, P, V, f => by
    rw [vrsL]
    dsimp only
    repeat' split
    all_goals first | rfl | (rw [vrsL_vc k y m (i + 1), vaca_vc])
theorem vrst_vc (P : zFn) (V : zV) (k f : Nat) : vc (vrst P V Q K k).2.2 f = vc V f := by
  unfold vrst
  by_cases c : vko Q K (P 0 0) = 2
  · rw [if_pos c]
    dsimp only
    by_cases d : V 4 k 0 < 6
    · rw [if_pos d, vrsL_vc, vaca_vc, vast_vc]
    · rw [if_neg d, vrsL_vc, vaca_vc, vast_vc]
  · rw [if_neg c]
/-- the stages behind a comma, to the end of the letter -/
theorem zq_kL (h : zqI Q K X0 n e) {nl np nh k : Nat} (hnp : np ≤ 20) : ∀ (m m' i a : Nat) (P X : zFn) (V : zV), vc V 1 = np → K a ≠ 19 → zqJ X0 e a P X (fun T => ∃ j, zqKp V P X a nl np nh k j T) → e - a < m → e - a < m' → e - a < 399 → (vrkL Q K k m i 1 P V).1 = (rle m' X).1 ∧ (((vrkL Q K k m i 1 P V).1 = 0 ∧ zqFl e (vrkL Q K k m i 1 P V).2.1 (rle m' X).2) ∨ ((vrkL Q K k m i 1 P V).1 = 1 ∧ ∃ b, a ≤ b ∧ zqJ X0 e b (vrkL Q K k m i 1 P V).2.1 (rle m' X).2 (zqMB (vrkL Q K k m i 1 P V).2.2 (vrkL Q K k m i 1 P V).2.1 (rle m' X).2 b nl np nh (k + 1))))
  | 0, _, _, a, _, _, _, _, _, hJ, h1, _, _ => absurd h1 (by omega)
  | m + 1, 0, _, a, _, _, _, _, _, hJ, _, h2, _ => absurd h2 (by omega)
  | m + 1, m' + 1, i, a, P, X, V, hv, h19, hJ, h1, h2, h3 => by
    have he := h.2.1
    obtain ⟨k1, k2, k3⟩ := h.is hJ
    have k13 : X 2 (zsf (X 0 3) 401) = 13 ↔ K a = 19 := k2 19 (by decide)
    have k22 : X 2 (zsf (X 0 3) 401) = 22 ↔ K a = 4 := k2 4 (by decide)
    rw [vrkL, if_neg (by decide), k1]
    by_cases c : K a = 4
    · have ha := k3 (by omega)
      have er : rle (m' + 1) X = if xat X 2 (zsf (xat X 0 3) 401) = 20 then rle m' (xas (xat X) 18) else (0, xat X) := by
        rw [rle, if_neg (fun q => h19 (k13.mp q)), if_pos (k22.mpr c)]
      rw [if_pos c, er]
      dsimp only
      have J1 := hJ.at ha
      have N1 := hJ.nkt ha he
      obtain ⟨P1, hP1⟩ : ∃ P1, vat P = P1 := ⟨_, rfl⟩
      obtain ⟨X1, hX1⟩ : ∃ X1, xat X = X1 := ⟨_, rfl⟩
      rw [hP1, hX1] at J1 N1 ⊢
      have J1 : zqJ X0 e (a + 1) P1 X1 (zqKp V P1 X1 (a + 1) nl np nh k (V 4 k 0).toNatClampNeg) := J1.imp (fun _ T hT => by
        obtain ⟨j, hk⟩ := hT
        have h0 := hk.2.2.2.2.2.2.2.2.2.1
        have h6 := hk.2.2.2.2.2.2.2.2.2.2.2.1
        rw [h0, nI_clamp (by omega)]
        exact hk.n N1)
      have hS := zq_stg (m' := m') h hnp hv J1 (by omega) (by omega)
      rcases hS with ⟨s1, s2, s3⟩ | ⟨s1, b, m2, X2, s2, s3, s4, s5, s6⟩
      · rw [s1, vrkL_0]
        exact ⟨s2.symm, Or.inl ⟨rfl, s3⟩⟩
      · rw [s1, s4]
        obtain ⟨w1, w2⟩ := zq_kL h hnp m m2 (i + 1) b _ X2 _ (by rw [vrst_vc, hv]) s5 s6 (by omega) s3 (by omega)
        refine ⟨w1, ?_⟩
        rcases w2 with w | ⟨w2, b2, w3, w4⟩
        · exact Or.inl w
        · exact Or.inr ⟨w2, b2, by omega, w4⟩
    · have er : rle (m' + 1) X = (1, X) := by
        rw [rle, if_neg (fun q => h19 (k13.mp q)), if_neg (fun q => c (k22.mp q))]
      rw [if_neg c, er]
      refine ⟨rfl, Or.inr ⟨rfl, a, Nat.le_refl _, hJ.imp (fun _ T hT => ?_)⟩⟩
      obtain ⟨j, h1, h2, h3, h4, h5, h6, ⟨a1, a2, a3, a4⟩, h8, h9, h10, h11, h12, h13, h14⟩ := hT
      have hn := h1.1.2.2
      refine ⟨h1, h2, h3.more ⟨Nat.le_refl _, by omega⟩ ⟨Nat.le_refl _, by omega⟩ (fun i b1 b2 => by omega) (fun i b1 b2 => by omega) (fun i b1 b2 => by omega) (fun i b1 b2 => ?_), h4, h5⟩
      have : i = k := by omega
      subst this
      exact ⟨h8, h9, a1, a2, a3, a4, j, h12, h11, h10, h13⟩
theorem zq_zrep17 {X T : zFn} {t k : Nat} (h5 : X 5 t = 17) (e1 : T 0 3 = nI (k + 1)) (hk : k < 12) : zstp X t T = if rnmL X t 1 t 0 0 = -1 then (3, zup T 13 k (-1)) else (0, zup T 13 k (rnmL X t 1 t 0 0)) := by
  rw [zstp_17 h5, e1, nI_clamp (by omega), Nat.add_sub_cancel]
  unfold rep17
  dsimp only
  by_cases c : rnmL X t 1 t 0 0 = -1
  · rw [if_pos c, if_pos c, c]
  · rw [if_neg c, if_neg c]
theorem zq_letter (h : zqI Q K X0 n e) {P X : zFn} {a : Nat} {V : zV} (hG : zVG V) (h0 : 1 ≤ a) (hJ : zqJ X0 e a P X (zqMB V P X a (vc V 0) (vc V 1) (vc V 2) (vc V 3))) : (vrk P V Q K).1 = (rlet X).1 ∧ (((vrk P V Q K).1 = 0 ∧ zqFl e (vrk P V Q K).2.1 (rlet X).2) ∨ ((vrk P V Q K).1 = 1 ∧ ∃ b, a < b ∧ zqJ X0 e b (vrk P V Q K).2.1 (rlet X).2 (fun T => ∃ nl np nh nk, zqMB (vrk P V Q K).2.2 (vrk P V Q K).2.1 (rlet X).2 b nl np nh nk T))) := by
  have he := h.2.1
  obtain ⟨k1, k2, k3⟩ := h.is hJ
  have k20 : X 2 (zsf (X 0 3) 401) = 20 ↔ K a = 2 := k2 2 (by decide)
  have hm : vc V 3 ≤ 12 := hG.1.2.2.2.2
  have hm0 : vc V 0 ≤ 6 := hG.1.1.2
  have hm1 : vc V 1 ≤ 20 := hG.1.2.1.2
  have hv0 : V 0 0 3 = nI (vc V 3) := hG.1.2.2.2.1
  obtain ⟨k, el⟩ : ∃ k, min (vc V 3) 11 = k := ⟨_, rfl⟩
  obtain ⟨V2, hV2⟩ : ∃ V2, vaddK V = V2 := ⟨_, rfl⟩
  have hadd : V2 = vclK (zvu V 0 0 3 (zmin (nI (vc V 3) + 1) 12)) k := by
    rw [← hV2]
    unfold vaddK
    rw [hv0, znumK _ hm, el]
  have hvc : ∀ f, f < 3 → vc V2 f = vc V f := by
    intro f hf
    unfold vc
    rw [hadd]
    have : f ≠ 3 := by omega
    simp [vclK, zvu, this]
  unfold vrk rlet
  dsimp only
  simp only [el, hV2, hvc 0 (by decide)]
  rw [k1]
  by_cases c : K a = 2
  · have ha := k3 (by omega)
    rw [if_pos c, if_pos (k20.mpr c)]
    have hx5 := xas_5 (z := 3) hJ.2.1 (show a < 401 by omega)
    have hY := xas_Y (z := 3) hJ.2.1 (show a < 401 by omega)
    have J1 : zqJ X0 e (a + 1) (vnn3 P Q (vc V 3)) (xas X 3) (fun T => T 0 3 = nI (k + 1) ∧ k < 12 ∧ zqN3 (vnn3 P Q (vc V 3)) (xas X 3) (a + 1) (vc V 0) (vc V 1) (k + 1) ∧ ∀ w, zix w (vc V 0) → zqKp (zvu V2 4 k 1 w) (vnn3 P Q (vc V 3)) (xas X 3) (a + 1) (vc V 0) (vc V 1) (vc V 2) k 0 (zup T 13 k w)) := by
      refine zq_nn3 h hJ ha hm (fun T hT => ?_)
      obtain ⟨h1, h2, h3, h4, h5⟩ := hT
      have e1 := h1.2.2.2.2.1
      refine ⟨h2.2.2, Or.inr (Or.inr (Or.inr (Or.inr (Or.inr (Or.inr (Or.inr (Or.inr (Or.inr (Or.inl ⟨hx5, vc V 3, hm, e1⟩))))))))), ?_, fun hlt p0 p1 p2 p3 => ?_⟩
      · rw [zstp_3 hx5, e1, nI_clamp (by omega)]
        rfl
      · have hl : vc V 3 = k := by omega
        rw [hl] at p1 p2 p3 h2 hadd ⊢
        rw [hl] at h1 h3 h4 hlt
        have hmin : zmin (nI k + 1) 12 = nI (k + 1) := by
          rw [nI_1]
          unfold zmin
          rw [if_neg (show ¬ 12 < nI (k + 1) from nI_nlt (a := 12) (by omega) (by decide))]
        rw [hmin] at hadd
        unfold U3
        have hn3 : zqN3 (vnn3 P Q k) (xas X 3) (a + 1) (vc V 0) (vc V 1) (k + 1) := ⟨h2.1.keep hY (by rw [hx5]; decide) (fun i => p3 1 i (by decide) (by decide)), h2.2.1.keep hY (by rw [hx5]; decide) (fun i => p3 2 i (by decide) (by decide)), h2.2.2.add hY hx5 p1 p2⟩
        refine ⟨by rw [zup_same, nI_1], hlt, hn3, fun w hw => ?_⟩
        have hZ : zqBT (vc V 0) (vc V 1) (vc V 2) k T (zup (zup T 0 3 (nI k + 1)) 13 k w) := (zqBT.rf.up (by omega)).up (by omega)
        have hV : zqB (vc V 0) (vc V 1) (vc V 2) k V (zvu V2 4 k 1 w) := by
          rw [hadd]
          unfold vclK
          refine zqB.up (zqB.up (zqB.up (zqB.up (zqB.up (zqB.up (zqB.up (zqB.up zqB.rf ?_) ?_) ?_) ?_) ?_) ?_) ?_) ?_
          all_goals omega
        obtain ⟨⟨c1, c2, c3⟩, ⟨c4, c5, c6⟩, ⟨c7, c8, c9⟩, c10, c11, c12⟩ := h1
        have hfr := h4.2 k (Nat.le_refl _) hlt
        refine ⟨⟨⟨?_, by rw [zup_ne (by omega), zup_ne (by omega)]; exact c2, c3⟩, ⟨?_, by rw [zup_ne (by omega), zup_ne (by omega)]; exact c5, c6⟩, ⟨?_, by rw [zup_ne (by omega), zup_ne (by omega)]; exact c8, c9⟩, ?_, by rw [zup_ne (by omega), zup_same, nI_1], by omega⟩, hn3, h3.fr hV hZ, ((h4.more (Nat.le_refl _) (by omega)).up (by omega)).up (by omega), (h5.up (Or.inl (by omega))).up (Or.inl (by omega)), hlt, ⟨?_, ?_, ?_, ?_⟩, by rw [zvu_same, zup_same], by rw [zup_same]; exact hw, ?_, ?_, by decide, fun i hi => absurd hi (by omega), fun i a1 a2 => ?_⟩
        · rw [hadd]; simp [vclK, zvu]; exact c1
        · rw [hadd]; simp [vclK, zvu]; exact c4
        · rw [hadd]; simp [vclK, zvu]; exact c7
        · rw [hadd]; simp [vclK, zvu]
        · rw [hadd]; simp [vclK, zvu]
        · rw [hadd]; simp [vclK, zvu]
        · rw [hadd]; simp [vclK, zvu]
        · rw [hadd]; simp [vclK, zvu]
        · rw [hadd]; simp [vclK, zvu]; rfl
        · rw [zup_ne (by omega), zup_ne (by omega)]; exact hfr.1
        · rw [zup_ne (by omega), zup_ne (by omega)]; exact hfr.2 i a2
    obtain ⟨m1, m2, m3⟩ := h.is J1
    have m6 : xas X 3 2 (zsf (xas X 3 0 3) 401) = 6 ↔ K (a + 1) = 12 := m2 12 (by decide)
    rw [m1]
    by_cases c2 : K (a + 1) = 12
    · have ha2 := m3 (by omega)
      rw [if_pos c2, if_pos (m6.mpr c2)]
      have J2 := J1.at ha2
      have N2 := J1.nkt ha2 he
      obtain ⟨w1, w2, w3⟩ := h.is J2
      have w20 : xat (xas X 3) 2 (zsf (xat (xas X 3) 0 3) 401) = 20 ↔ K (a + 1 + 1) = 2 := w2 2 (by decide)
      rw [w1]
      by_cases c3 : K (a + 1 + 1) = 2
      · have ha3 := w3 (by omega)
        rw [if_pos c3, if_pos (w20.mpr c3)]
        obtain ⟨P3, hP3⟩ : ∃ P3, vat (vnn3 P Q (vc V 3)) = P3 := ⟨_, rfl⟩
        obtain ⟨X3, hX3⟩ : ∃ X3, xat (xas X 3) = X3 := ⟨_, rfl⟩
        rw [hP3, hX3] at J2 N2 ⊢
        have y5 := xas_5 (z := 17) J2.2.1 (show a + 1 + 1 < 401 by omega)
        have hon := zq_on1 (z := 17) (m := vc V 0) (F := fun T f => zup T 13 k f) (M' := zqKp (zvu V2 4 k 1 (von1 P3 Q (vc V 0) 0 3)) (von1 P3 Q (vc V 0)) (xas X3 17) (a + 1 + 1 + 1) (vc V 0) (vc V 1) (vc V 2) k 0) h J2 ha3 (by omega) (fun T hT => by
          obtain ⟨h2, h3, h4, h1⟩ := hT
          refine ⟨(N2.n3 h4).1, Or.inr (Or.inr (Or.inr (Or.inr (Or.inr (Or.inr (Or.inr (Or.inr (Or.inr (Or.inr (Or.inl ⟨y5, k, h3, h2⟩)))))))))), zq_zrep17 y5 h2 h3, fun i hi q0 q1 q2 => ?_⟩
          have hN := (J2.nk (P' := von1 P3 Q (vc V 0)) (z := 17) ha3 he (Or.inr (by decide)) q2).1
          rw [q1]
          exact ((h1 (nI i) (zin_nI hi (by omega))).n N2).n hN)
        obtain ⟨J4, R4⟩ := hon
        obtain ⟨P4, hP4⟩ : ∃ P4, von1 P3 Q (vc V 0) = P4 := ⟨_, rfl⟩
        obtain ⟨X4, hX4⟩ : ∃ X4, xas X3 17 = X4 := ⟨_, rfl⟩
        rw [hP4, hX4] at J4
        rw [hP4, hX4]
        obtain ⟨V5, hV5⟩ : ∃ V5, zvu V2 4 k 1 (P4 0 3) = V5 := ⟨_, rfl⟩
        rw [hV5] at J4 ⊢
        have hv1 : vc V5 1 = vc V 1 := by
          rw [← hvc 1 (by decide), ← hV5]
          unfold vc
          simp [zvu]
        obtain ⟨u1, u2, u3⟩ := h.is J4
        have u12 : X4 2 (zsf (X4 0 3) 401) = 12 ↔ K (a + 1 + 1 + 1) = 18 := u2 18 (by decide)
        rw [u1]
        by_cases c4 : K (a + 1 + 1 + 1) = 18
        · have ha4 := u3 (by omega)
          rw [if_pos c4, if_pos (u12.mpr c4)]
          have J5 := J4.at ha4
          have N5 := J4.nkt ha4 he
          have J5 : zqJ X0 e (a + 1 + 1 + 1 + 1) (vat P4) (xat X4) (zqKp V5 (vat P4) (xat X4) (a + 1 + 1 + 1 + 1) (vc V 0) (vc V 1) (vc V 2) k (V5 4 k 0).toNatClampNeg) := J5.imp (fun _ T hT => by
            have h0 : V5 4 k 0 = nI 0 := hT.2.2.2.2.2.2.2.2.2.1
            rw [h0, nI_clamp (by omega)]
            exact hT.n N5)
          have hS := zq_stg (m' := 401) h hm1 hv1 J5 (by omega) (by omega)
          rcases hS with ⟨s1, s2, s3⟩ | ⟨s1, b, m2, X2, s2, s3, s4, s5, s6⟩
          · rw [if_pos s1, vrkL_0]
            exact ⟨s2.symm, Or.inl ⟨rfl, s3⟩⟩
          · rw [if_neg (by rw [s1]; decide), s4]
            obtain ⟨w1, w2⟩ := zq_kL h hm1 399 m2 1 b _ X2 _ (by rw [vrst_vc, hv1]) s5 s6 (by omega) s3 (by omega)
            refine ⟨w1, ?_⟩
            rcases w2 with w | ⟨w2, b2, w3, w4⟩
            · exact Or.inl w
            · exact Or.inr ⟨w2, b2, by omega, w4.imp (fun _ T hT => ⟨_, _, _, _, hT⟩)⟩
        · rw [if_neg c4, if_neg (fun q => c4 (u12.mp q)), vrkL_0]
          exact ⟨rfl, Or.inl ⟨rfl, J4.fl⟩⟩
      · rw [if_neg c3, if_neg (fun q => c3 (w20.mp q))]
        exact ⟨rfl, Or.inl ⟨rfl, J2.fl⟩⟩
    · rw [if_neg c2, if_neg (fun q => c2 (m6.mp q))]
      exact ⟨rfl, Or.inl ⟨rfl, J1.fl⟩⟩
  · rw [if_neg c, if_neg (fun q => c (k20.mp q))]
    exact ⟨rfl, Or.inl ⟨rfl, hJ.fl⟩⟩
end ZQTX
