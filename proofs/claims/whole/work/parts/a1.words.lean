/-! BOTH READERS: names, numbers, what may follow a word -/
theorem zstp_1 {X T : zFn} {t : Nat} (h : X 5 t = 1) : zstp X t T = reo1 T X t (T 0 0).toNatClampNeg := by
  unfold zstp
  rw [h]
  rw [if_neg (show ¬ (1 : Int32) = 0 by decide), if_pos rfl]
theorem zstp_5 {X T : zFn} {t : Nat} (h : X 5 t = 5) : zstp X t T = reo5 T X t ((T 0 0).toNatClampNeg - 1) := by
  unfold zstp
  rw [h]
  rw [if_neg (show ¬ (5 : Int32) = 0 by decide), if_neg (show ¬ (5 : Int32) = 1 by decide), if_pos rfl]
theorem zstp_6 {X T : zFn} {t : Nat} (h : X 5 t = 6) : zstp X t T = reo6 T X t ((T 0 0).toNatClampNeg - 1) ((T 1 ((T 0 0).toNatClampNeg - 1)).toNatClampNeg - 1) := by
  unfold zstp
  rw [h]
  rw [if_neg (show ¬ (6 : Int32) = 0 by decide), if_neg (show ¬ (6 : Int32) = 1 by decide), if_neg (show ¬ (6 : Int32) = 5 by decide), if_pos rfl]
theorem zstp_7 {X T : zFn} {t : Nat} (h : X 5 t = 7) : zstp X t T = reo7 T X t ((T 0 0).toNatClampNeg - 1) ((T 1 ((T 0 0).toNatClampNeg - 1)).toNatClampNeg - 1) := by
  unfold zstp
  rw [h]
  rw [if_neg (show ¬ (7 : Int32) = 0 by decide), if_neg (show ¬ (7 : Int32) = 1 by decide), if_neg (show ¬ (7 : Int32) = 5 by decide), if_neg (show ¬ (7 : Int32) = 6 by decide), if_pos rfl]
theorem zstp_8 {X T : zFn} {t : Nat} (h : X 5 t = 8) : zstp X t T = reo8 T X t ((T 0 0).toNatClampNeg - 1) := by
  unfold zstp
  rw [h]
  rw [if_neg (show ¬ (8 : Int32) = 0 by decide), if_neg (show ¬ (8 : Int32) = 1 by decide), if_neg (show ¬ (8 : Int32) = 5 by decide), if_neg (show ¬ (8 : Int32) = 6 by decide), if_neg (show ¬ (8 : Int32) = 7 by decide), if_pos rfl]
theorem zstp_4 {X T : zFn} {t : Nat} (h : X 5 t = 4) : zstp X t T = reo4 T X t (T 0 2).toNatClampNeg := by
  unfold zstp
  rw [h]
  rw [if_neg (show ¬ (4 : Int32) = 0 by decide), if_neg (show ¬ (4 : Int32) = 1 by decide), if_neg (show ¬ (4 : Int32) = 5 by decide), if_neg (show ¬ (4 : Int32) = 6 by decide), if_neg (show ¬ (4 : Int32) = 7 by decide), if_neg (show ¬ (4 : Int32) = 8 by decide), if_pos rfl]
theorem zstp_13 {X T : zFn} {t : Nat} (h : X 5 t = 13) : zstp X t T = reo13 T X t ((T 0 2).toNatClampNeg - 1) := by
  unfold zstp
  rw [h]
  rw [if_neg (show ¬ (13 : Int32) = 0 by decide), if_neg (show ¬ (13 : Int32) = 1 by decide), if_neg (show ¬ (13 : Int32) = 5 by decide), if_neg (show ¬ (13 : Int32) = 6 by decide), if_neg (show ¬ (13 : Int32) = 7 by decide), if_neg (show ¬ (13 : Int32) = 8 by decide), if_neg (show ¬ (13 : Int32) = 4 by decide), if_pos rfl]
theorem zstp_14 {X T : zFn} {t : Nat} (h : X 5 t = 14) : zstp X t T = reo14 T X t ((T 0 2).toNatClampNeg - 1) := by
  unfold zstp
  rw [h]
  rw [if_neg (show ¬ (14 : Int32) = 0 by decide), if_neg (show ¬ (14 : Int32) = 1 by decide), if_neg (show ¬ (14 : Int32) = 5 by decide), if_neg (show ¬ (14 : Int32) = 6 by decide), if_neg (show ¬ (14 : Int32) = 7 by decide), if_neg (show ¬ (14 : Int32) = 8 by decide), if_neg (show ¬ (14 : Int32) = 4 by decide), if_neg (show ¬ (14 : Int32) = 13 by decide), if_pos rfl]
theorem zstp_15 {X T : zFn} {t : Nat} (h : X 5 t = 15) : zstp X t T = reo15 T X t ((T 0 2).toNatClampNeg - 1) := by
  unfold zstp
  rw [h]
  rw [if_neg (show ¬ (15 : Int32) = 0 by decide), if_neg (show ¬ (15 : Int32) = 1 by decide), if_neg (show ¬ (15 : Int32) = 5 by decide), if_neg (show ¬ (15 : Int32) = 6 by decide), if_neg (show ¬ (15 : Int32) = 7 by decide), if_neg (show ¬ (15 : Int32) = 8 by decide), if_neg (show ¬ (15 : Int32) = 4 by decide), if_neg (show ¬ (15 : Int32) = 13 by decide), if_neg (show ¬ (15 : Int32) = 14 by decide), if_pos rfl]
theorem zstp_16 {X T : zFn} {t : Nat} (h : X 5 t = 16) : zstp X t T = reo16 T X t ((T 0 2).toNatClampNeg - 1) := by
  unfold zstp
  rw [h]
  rw [if_neg (show ¬ (16 : Int32) = 0 by decide), if_neg (show ¬ (16 : Int32) = 1 by decide), if_neg (show ¬ (16 : Int32) = 5 by decide), if_neg (show ¬ (16 : Int32) = 6 by decide), if_neg (show ¬ (16 : Int32) = 7 by decide), if_neg (show ¬ (16 : Int32) = 8 by decide), if_neg (show ¬ (16 : Int32) = 4 by decide), if_neg (show ¬ (16 : Int32) = 13 by decide), if_neg (show ¬ (16 : Int32) = 14 by decide), if_neg (show ¬ (16 : Int32) = 15 by decide), if_pos rfl]
theorem zstp_2 {X T : zFn} {t : Nat} (h : X 5 t = 2) : zstp X t T = rep2 T X t 0 (T 0 1).toNatClampNeg := by
  unfold zstp
  rw [h]
  rw [if_neg (show ¬ (2 : Int32) = 0 by decide), if_neg (show ¬ (2 : Int32) = 1 by decide), if_neg (show ¬ (2 : Int32) = 5 by decide), if_neg (show ¬ (2 : Int32) = 6 by decide), if_neg (show ¬ (2 : Int32) = 7 by decide), if_neg (show ¬ (2 : Int32) = 8 by decide), if_neg (show ¬ (2 : Int32) = 4 by decide), if_neg (show ¬ (2 : Int32) = 13 by decide), if_neg (show ¬ (2 : Int32) = 14 by decide), if_neg (show ¬ (2 : Int32) = 15 by decide), if_neg (show ¬ (2 : Int32) = 16 by decide), if_pos rfl]
theorem zstp_9 {X T : zFn} {t : Nat} (h : X 5 t = 9) : zstp X t T = rep9 T X t 0 ((T 0 1).toNatClampNeg - 1) := by
  unfold zstp
  rw [h]
  rw [if_neg (show ¬ (9 : Int32) = 0 by decide), if_neg (show ¬ (9 : Int32) = 1 by decide), if_neg (show ¬ (9 : Int32) = 5 by decide), if_neg (show ¬ (9 : Int32) = 6 by decide), if_neg (show ¬ (9 : Int32) = 7 by decide), if_neg (show ¬ (9 : Int32) = 8 by decide), if_neg (show ¬ (9 : Int32) = 4 by decide), if_neg (show ¬ (9 : Int32) = 13 by decide), if_neg (show ¬ (9 : Int32) = 14 by decide), if_neg (show ¬ (9 : Int32) = 15 by decide), if_neg (show ¬ (9 : Int32) = 16 by decide), if_neg (show ¬ (9 : Int32) = 2 by decide), if_pos rfl]
theorem zstp_10 {X T : zFn} {t : Nat} (h : X 5 t = 10) : zstp X t T = rep10 T X t 0 ((T 0 1).toNatClampNeg - 1) := by
  unfold zstp
  rw [h]
  rw [if_neg (show ¬ (10 : Int32) = 0 by decide), if_neg (show ¬ (10 : Int32) = 1 by decide), if_neg (show ¬ (10 : Int32) = 5 by decide), if_neg (show ¬ (10 : Int32) = 6 by decide), if_neg (show ¬ (10 : Int32) = 7 by decide), if_neg (show ¬ (10 : Int32) = 8 by decide), if_neg (show ¬ (10 : Int32) = 4 by decide), if_neg (show ¬ (10 : Int32) = 13 by decide), if_neg (show ¬ (10 : Int32) = 14 by decide), if_neg (show ¬ (10 : Int32) = 15 by decide), if_neg (show ¬ (10 : Int32) = 16 by decide), if_neg (show ¬ (10 : Int32) = 2 by decide), if_neg (show ¬ (10 : Int32) = 9 by decide), if_pos rfl]
theorem zstp_11 {X T : zFn} {t : Nat} (h : X 5 t = 11) : zstp X t T = rep11 T X t (rnoL X t (rmn X t) 0 0) ((T 0 1).toNatClampNeg - 1) := by
  unfold zstp
  rw [h]
  rw [if_neg (show ¬ (11 : Int32) = 0 by decide), if_neg (show ¬ (11 : Int32) = 1 by decide), if_neg (show ¬ (11 : Int32) = 5 by decide), if_neg (show ¬ (11 : Int32) = 6 by decide), if_neg (show ¬ (11 : Int32) = 7 by decide), if_neg (show ¬ (11 : Int32) = 8 by decide), if_neg (show ¬ (11 : Int32) = 4 by decide), if_neg (show ¬ (11 : Int32) = 13 by decide), if_neg (show ¬ (11 : Int32) = 14 by decide), if_neg (show ¬ (11 : Int32) = 15 by decide), if_neg (show ¬ (11 : Int32) = 16 by decide), if_neg (show ¬ (11 : Int32) = 2 by decide), if_neg (show ¬ (11 : Int32) = 9 by decide), if_neg (show ¬ (11 : Int32) = 10 by decide), if_pos rfl]
theorem zstp_12 {X T : zFn} {t : Nat} (h : X 5 t = 12) : zstp X t T = rep12 T X t (rnoL X t (rmn X t) 0 0) ((T 0 1).toNatClampNeg - 1) := by
  unfold zstp
  rw [h]
  rw [if_neg (show ¬ (12 : Int32) = 0 by decide), if_neg (show ¬ (12 : Int32) = 1 by decide), if_neg (show ¬ (12 : Int32) = 5 by decide), if_neg (show ¬ (12 : Int32) = 6 by decide), if_neg (show ¬ (12 : Int32) = 7 by decide), if_neg (show ¬ (12 : Int32) = 8 by decide), if_neg (show ¬ (12 : Int32) = 4 by decide), if_neg (show ¬ (12 : Int32) = 13 by decide), if_neg (show ¬ (12 : Int32) = 14 by decide), if_neg (show ¬ (12 : Int32) = 15 by decide), if_neg (show ¬ (12 : Int32) = 16 by decide), if_neg (show ¬ (12 : Int32) = 2 by decide), if_neg (show ¬ (12 : Int32) = 9 by decide), if_neg (show ¬ (12 : Int32) = 10 by decide), if_neg (show ¬ (12 : Int32) = 11 by decide), if_pos rfl]
theorem zstp_3 {X T : zFn} {t : Nat} (h : X 5 t = 3) : zstp X t T = rep3 T X t 0 (T 0 3).toNatClampNeg := by
  unfold zstp
  rw [h]
  rw [if_neg (show ¬ (3 : Int32) = 0 by decide), if_neg (show ¬ (3 : Int32) = 1 by decide), if_neg (show ¬ (3 : Int32) = 5 by decide), if_neg (show ¬ (3 : Int32) = 6 by decide), if_neg (show ¬ (3 : Int32) = 7 by decide), if_neg (show ¬ (3 : Int32) = 8 by decide), if_neg (show ¬ (3 : Int32) = 4 by decide), if_neg (show ¬ (3 : Int32) = 13 by decide), if_neg (show ¬ (3 : Int32) = 14 by decide), if_neg (show ¬ (3 : Int32) = 15 by decide), if_neg (show ¬ (3 : Int32) = 16 by decide), if_neg (show ¬ (3 : Int32) = 2 by decide), if_neg (show ¬ (3 : Int32) = 9 by decide), if_neg (show ¬ (3 : Int32) = 10 by decide), if_neg (show ¬ (3 : Int32) = 11 by decide), if_neg (show ¬ (3 : Int32) = 12 by decide), if_pos rfl]
theorem zstp_17 {X T : zFn} {t : Nat} (h : X 5 t = 17) : zstp X t T = rep17 T X t 0 ((T 0 3).toNatClampNeg - 1) := by
  unfold zstp
  rw [h]
  rw [if_neg (show ¬ (17 : Int32) = 0 by decide), if_neg (show ¬ (17 : Int32) = 1 by decide), if_neg (show ¬ (17 : Int32) = 5 by decide), if_neg (show ¬ (17 : Int32) = 6 by decide), if_neg (show ¬ (17 : Int32) = 7 by decide), if_neg (show ¬ (17 : Int32) = 8 by decide), if_neg (show ¬ (17 : Int32) = 4 by decide), if_neg (show ¬ (17 : Int32) = 13 by decide), if_neg (show ¬ (17 : Int32) = 14 by decide), if_neg (show ¬ (17 : Int32) = 15 by decide), if_neg (show ¬ (17 : Int32) = 16 by decide), if_neg (show ¬ (17 : Int32) = 2 by decide), if_neg (show ¬ (17 : Int32) = 9 by decide), if_neg (show ¬ (17 : Int32) = 10 by decide), if_neg (show ¬ (17 : Int32) = 11 by decide), if_neg (show ¬ (17 : Int32) = 12 by decide), if_neg (show ¬ (17 : Int32) = 3 by decide), if_pos rfl]
theorem zstp_18 {X T : zFn} {t : Nat} (h : X 5 t = 18) : zstp X t T = if rnmL X t 2 t 0 0 = -1 then (3, T) else rec18 T X t ((T 0 3).toNatClampNeg - 1) (T 14 ((T 0 3).toNatClampNeg - 1)).toNatClampNeg (rnmL X t 2 t 0 0).toNatClampNeg := by
  unfold zstp
  rw [h]
  rw [if_neg (show ¬ (18 : Int32) = 0 by decide), if_neg (show ¬ (18 : Int32) = 1 by decide), if_neg (show ¬ (18 : Int32) = 5 by decide), if_neg (show ¬ (18 : Int32) = 6 by decide), if_neg (show ¬ (18 : Int32) = 7 by decide), if_neg (show ¬ (18 : Int32) = 8 by decide), if_neg (show ¬ (18 : Int32) = 4 by decide), if_neg (show ¬ (18 : Int32) = 13 by decide), if_neg (show ¬ (18 : Int32) = 14 by decide), if_neg (show ¬ (18 : Int32) = 15 by decide), if_neg (show ¬ (18 : Int32) = 16 by decide), if_neg (show ¬ (18 : Int32) = 2 by decide), if_neg (show ¬ (18 : Int32) = 9 by decide), if_neg (show ¬ (18 : Int32) = 10 by decide), if_neg (show ¬ (18 : Int32) = 11 by decide), if_neg (show ¬ (18 : Int32) = 12 by decide), if_neg (show ¬ (18 : Int32) = 3 by decide), if_neg (show ¬ (18 : Int32) = 17 by decide), if_pos rfl]
theorem zstp_19 {X T : zFn} {t : Nat} (h : X 5 t = 19) : zstp X t T = if rnmL X t 2 t 0 0 = -1 then (3, T) else rec19 T X t ((T 0 3).toNatClampNeg - 1) ((T 14 ((T 0 3).toNatClampNeg - 1)).toNatClampNeg - 1) (T 15 (6 * ((T 0 3).toNatClampNeg - 1) + ((T 14 ((T 0 3).toNatClampNeg - 1)).toNatClampNeg - 1))).toNatClampNeg (rnmL X t 2 t 0 0).toNatClampNeg (T 16 (120 * ((T 0 3).toNatClampNeg - 1) + 20 * ((T 14 ((T 0 3).toNatClampNeg - 1)).toNatClampNeg - 1))).toNatClampNeg := by
  unfold zstp
  rw [h]
  rw [if_neg (show ¬ (19 : Int32) = 0 by decide), if_neg (show ¬ (19 : Int32) = 1 by decide), if_neg (show ¬ (19 : Int32) = 5 by decide), if_neg (show ¬ (19 : Int32) = 6 by decide), if_neg (show ¬ (19 : Int32) = 7 by decide), if_neg (show ¬ (19 : Int32) = 8 by decide), if_neg (show ¬ (19 : Int32) = 4 by decide), if_neg (show ¬ (19 : Int32) = 13 by decide), if_neg (show ¬ (19 : Int32) = 14 by decide), if_neg (show ¬ (19 : Int32) = 15 by decide), if_neg (show ¬ (19 : Int32) = 16 by decide), if_neg (show ¬ (19 : Int32) = 2 by decide), if_neg (show ¬ (19 : Int32) = 9 by decide), if_neg (show ¬ (19 : Int32) = 10 by decide), if_neg (show ¬ (19 : Int32) = 11 by decide), if_neg (show ¬ (19 : Int32) = 12 by decide), if_neg (show ¬ (19 : Int32) = 3 by decide), if_neg (show ¬ (19 : Int32) = 17 by decide), if_neg (show ¬ (19 : Int32) = 18 by decide)]
/-- the class's kept names and the reference's roles -/
def zqNm (P X : zFn) (y : Nat) (m a : Nat) : Prop := (zrl_ X (nI y) a).length = m ∧ ∀ i, i < m → P y i = nI ((zrl_ X (nI y) a).getD i 0)
theorem zqNm.keep {P P' X X' : zFn} {y m a : Nat} (h : zqNm P X y m a) (hY : zqY a X X') (h5 : X' 5 a ≠ nI y) (hP : ∀ i, P' y i = P y i) : zqNm P' X' y m (a + 1) := by
  unfold zqNm
  rw [zrl_succ, if_neg h5, zrl_cg hY]
  exact ⟨h.1, fun i hi => by rw [hP]; exact h.2 i hi⟩
theorem zqNm.add {P P' X X' : zFn} {y m a : Nat} (h : zqNm P X y m a) (hY : zqY a X X') (h5 : X' 5 a = nI y) (hP : ∀ i, i ≠ m → P' y i = P y i) (hm : P' y m = nI a) : zqNm P' X' y (m + 1) (a + 1) := by
  unfold zqNm
  rw [zrl_succ, if_pos h5, zrl_cg hY]
  refine ⟨by rw [List.length_append, h.1]; rfl, fun i hi => ?_⟩
  by_cases e : i = m
  · subst e
    rw [hm, List.getD_eq_getElem?_getD, List.getElem?_append_right (by rw [h.1]; exact Nat.le_refl _), h.1, Nat.sub_self]
    rfl
  · rw [hP i e, h.2 i (by omega), List.getD_eq_getElem?_getD, List.getD_eq_getElem?_getD, List.getElem?_append_left (by rw [h.1]; omega)]
theorem xas_5 {X : zFn} {a : Nat} {z : Int32} (h : X 0 3 = nI a) (ha : a < 401) : xas X z 5 a = z := by
  rw [xas_eq h ha]
  simp [zup]
theorem vat_r {P : zFn} : (∀ j k, 0 < j → vat P j k = P j k) ∧ (∀ k, 0 < k → vat P 0 k = P 0 k) := by
  unfold vat
  refine ⟨fun j k hj => ?_, fun k hk => ?_⟩
  · have : j ≠ 0 := by omega
    simp [zup, this]
  · have : k ≠ 0 := by omega
    simp [zup, this]
theorem vat_0 {P : zFn} {a : Nat} (h : P 0 0 = nI a) : vat P 0 0 = nI (a + 1) := by
  unfold vat
  rw [h, nI_1]
  simp [zup]
/-- an error told -/
theorem vte_r {P Q : zFn} {x : Int32} : (∀ j k, 0 < j → vte P Q x j k = P j k) ∧ (vte P Q x 0 0 = P 0 0) ∧ (∀ k, 2 < k → vte P Q x 0 k = P 0 k) ∧ (P 0 1 ≠ 0 → vte P Q x 0 1 = P 0 1 ∧ vte P Q x 0 2 = P 0 2) ∧ (P 0 1 = 0 → vte P Q x 0 1 = x ∧ vte P Q x 0 2 = vsta Q (P 0 0 - 1)) := by
  unfold vte
  refine ⟨fun j k hj => ?_, ?_, fun k hk => ?_, fun h => ?_, fun h => ?_⟩
  · have : j ≠ 0 := by omega
    split <;> simp [zup, this]
  · split <;> simp [zup]
  · have h1 : k ≠ 1 := by omega
    have h2 : k ≠ 2 := by omega
    split <;> simp [zup, h1, h2]
  · rw [if_neg h]; exact ⟨rfl, rfl⟩
  · rw [if_pos h]
    simp [zup]

theorem zq_fi1 {Q : zFn} {K : zKn} {X0 P X P' : zFn} {n e a m : Nat} (h : zqI Q K X0 n e) (hY : zqY 0 X0 X) (hN : zqNm P X 1 m a) (ha : a < e) (hP : ∀ i, P' 1 i = P 1 i) (h0 : P' 0 0 = nI (a + 1)) : ∀ (r i : Nat), i + r = m → vfi1 P' Q r i = zfn X a ((zrl_ X 1 a).drop i) i
  | 0, i, hi => by
    have hl : (zrl_ X 1 a).length = m := hN.1
    rw [vfi1, List.drop_eq_nil_of_le (by omega), zfn]
  | r + 1, i, hi => by
    have hl : (zrl_ X 1 a).length = m := hN.1
    have hd : (zrl_ X 1 a).drop i = (zrl_ X 1 a).getD i 0 :: (zrl_ X 1 a).drop (i + 1) := by
      rw [List.drop_eq_getElem_cons (by omega), List.getD_eq_getElem?_getD, List.getElem?_eq_getElem (by omega)]
      rfl
    have hj : (zrl_ X 1 a).getD i 0 < a := by
      rw [List.getD_eq_getElem?_getD, List.getElem?_eq_getElem (by omega)]
      exact zrl_lt (List.getElem_mem _)
    have hp : P 1 i = nI ((zrl_ X 1 a).getD i 0) := hN.2 i (by omega)
    rw [vfi1, hd, zfn, hP, hp, h0, nI_pred, h.same (by omega) ha, ← rsa_cg hY, zq_fi1 h hY hN ha hP h0 r (i + 1) (by omega)]
theorem zq_rn1 {Q : zFn} {K : zKn} {X0 P X P' : zFn} {n e a m : Nat} {z : Int32} (h : zqI Q K X0 n e) (hY : zqY 0 X0 X) (h3 : X 0 3 = nI a) (hN : zqNm P X 1 m a) (ha : a < e) (hP : ∀ i, P' 1 i = P 1 i) (h0 : P' 0 0 = nI (a + 1)) : rnmL (xas X z) a 1 a 0 0 = vfi1 P' Q m 0 ∧ (vfi1 P' Q m 0 = -1 ∨ ∃ i, i < m ∧ vfi1 P' Q m 0 = nI i) := by
  have he := h.2.1
  have hY2 := xas_Y (z := z) h3 (by omega)
  have hl : (zrl_ X 1 a).length = m := hN.1
  rw [rnm_fn, zrl_cg hY2, zfn_cg hY2, zq_fi1 h hY hN ha hP h0 m 0 (by omega), List.drop_zero]
  refine ⟨rfl, ?_⟩
  rcases zfn_in X a (zrl_ X 1 a) 0 with q | ⟨i, q1, q2, q3⟩
  · exact Or.inl q
  · exact Or.inr ⟨i, by omega, q3⟩

theorem zq_fi2 {Q : zFn} {K : zKn} {X0 P X P' : zFn} {n e a m : Nat} (h : zqI Q K X0 n e) (hY : zqY 0 X0 X) (hN : zqNm P X 2 m a) (ha : a < e) (hP : ∀ i, P' 2 i = P 2 i) (h0 : P' 0 0 = nI (a + 1)) : ∀ (r i : Nat), i + r = m → vfi2 P' Q r i = zfn X a ((zrl_ X 2 a).drop i) i
  | 0, i, hi => by
    have hl : (zrl_ X 2 a).length = m := hN.1
    rw [vfi2, List.drop_eq_nil_of_le (by omega), zfn]
  | r + 1, i, hi => by
    have hl : (zrl_ X 2 a).length = m := hN.1
    have hd : (zrl_ X 2 a).drop i = (zrl_ X 2 a).getD i 0 :: (zrl_ X 2 a).drop (i + 1) := by
      rw [List.drop_eq_getElem_cons (by omega), List.getD_eq_getElem?_getD, List.getElem?_eq_getElem (by omega)]
      rfl
    have hj : (zrl_ X 2 a).getD i 0 < a := by
      rw [List.getD_eq_getElem?_getD, List.getElem?_eq_getElem (by omega)]
      exact zrl_lt (List.getElem_mem _)
    have hp : P 2 i = nI ((zrl_ X 2 a).getD i 0) := hN.2 i (by omega)
    rw [vfi2, hd, zfn, hP, hp, h0, nI_pred, h.same (by omega) ha, ← rsa_cg hY, zq_fi2 h hY hN ha hP h0 r (i + 1) (by omega)]
theorem zq_rn2 {Q : zFn} {K : zKn} {X0 P X P' : zFn} {n e a m : Nat} {z : Int32} (h : zqI Q K X0 n e) (hY : zqY 0 X0 X) (h3 : X 0 3 = nI a) (hN : zqNm P X 2 m a) (ha : a < e) (hP : ∀ i, P' 2 i = P 2 i) (h0 : P' 0 0 = nI (a + 1)) : rnmL (xas X z) a 2 a 0 0 = vfi2 P' Q m 0 ∧ (vfi2 P' Q m 0 = -1 ∨ ∃ i, i < m ∧ vfi2 P' Q m 0 = nI i) := by
  have he := h.2.1
  have hY2 := xas_Y (z := z) h3 (by omega)
  have hl : (zrl_ X 2 a).length = m := hN.1
  rw [rnm_fn, zrl_cg hY2, zfn_cg hY2, zq_fi2 h hY hN ha hP h0 m 0 (by omega), List.drop_zero]
  refine ⟨rfl, ?_⟩
  rcases zfn_in X a (zrl_ X 2 a) 0 with q | ⟨i, q1, q2, q3⟩
  · exact Or.inl q
  · exact Or.inr ⟨i, by omega, q3⟩

theorem zq_fi3 {Q : zFn} {K : zKn} {X0 P X P' : zFn} {n e a m : Nat} (h : zqI Q K X0 n e) (hY : zqY 0 X0 X) (hN : zqNm P X 3 m a) (ha : a < e) (hP : ∀ i, P' 3 i = P 3 i) (h0 : P' 0 0 = nI (a + 1)) : ∀ (r i : Nat), i + r = m → vfi3 P' Q r i = zfn X a ((zrl_ X 3 a).drop i) i
  | 0, i, hi => by
    have hl : (zrl_ X 3 a).length = m := hN.1
    rw [vfi3, List.drop_eq_nil_of_le (by omega), zfn]
  | r + 1, i, hi => by
    have hl : (zrl_ X 3 a).length = m := hN.1
    have hd : (zrl_ X 3 a).drop i = (zrl_ X 3 a).getD i 0 :: (zrl_ X 3 a).drop (i + 1) := by
      rw [List.drop_eq_getElem_cons (by omega), List.getD_eq_getElem?_getD, List.getElem?_eq_getElem (by omega)]
      rfl
    have hj : (zrl_ X 3 a).getD i 0 < a := by
      rw [List.getD_eq_getElem?_getD, List.getElem?_eq_getElem (by omega)]
      exact zrl_lt (List.getElem_mem _)
    have hp : P 3 i = nI ((zrl_ X 3 a).getD i 0) := hN.2 i (by omega)
    rw [vfi3, hd, zfn, hP, hp, h0, nI_pred, h.same (by omega) ha, ← rsa_cg hY, zq_fi3 h hY hN ha hP h0 r (i + 1) (by omega)]
theorem zq_rn3 {Q : zFn} {K : zKn} {X0 P X P' : zFn} {n e a m : Nat} {z : Int32} (h : zqI Q K X0 n e) (hY : zqY 0 X0 X) (h3 : X 0 3 = nI a) (hN : zqNm P X 3 m a) (ha : a < e) (hP : ∀ i, P' 3 i = P 3 i) (h0 : P' 0 0 = nI (a + 1)) : rnmL (xas X z) a 3 a 0 0 = vfi3 P' Q m 0 ∧ (vfi3 P' Q m 0 = -1 ∨ ∃ i, i < m ∧ vfi3 P' Q m 0 = nI i) := by
  have he := h.2.1
  have hY2 := xas_Y (z := z) h3 (by omega)
  have hl : (zrl_ X 3 a).length = m := hN.1
  rw [rnm_fn, zrl_cg hY2, zfn_cg hY2, zq_fi3 h hY hN ha hP h0 m 0 (by omega), List.drop_zero]
  refine ⟨rfl, ?_⟩
  rcases zfn_in X a (zrl_ X 3 a) 0 with q | ⟨i, q1, q2, q3⟩
  · exact Or.inl q
  · exact Or.inr ⟨i, by omega, q3⟩

def U1 (T : zFn) (m : Nat) : zFn := zup (zup T 1 m 1) 0 0 (nI m + 1)
theorem zq_nn1 {Q : zFn} {K : zKn} {X0 P X : zFn} {n e a m : Nat} {M M' : zFn → Prop} (h : zqI Q K X0 n e) (hJ : zqJ X0 e a P X M) (ha : a < e) (hm : m ≤ 6) (hM : ∀ T, M T → zqNm P X 1 m a ∧ zOK (xas X 1) a T ∧ zstp (xas X 1) a T = (if rnmL (xas X 1) a 1 a 0 0 = -1 then (if nI m = 6 then (4, T) else (0, U1 T m)) else (2, T)) ∧ (m < 6 → (vnn1 P Q m) 0 0 = nI (a + 1) → (∀ i, i ≠ m → vnn1 P Q m 1 i = P 1 i) → vnn1 P Q m 1 m = nI a → (∀ j k, 0 < j → j ≠ 1 → vnn1 P Q m j k = P j k) → M' (U1 T m))) : zqJ X0 e (a + 1) (vnn1 P Q m) (xas X 1) M' := by
  have he := h.2.1
  obtain ⟨r1, r2⟩ := vat_r (P := P)
  have r0 := vat_0 hJ.1
  have hst : vsta Q (vat P 0 0 - 1) = X0 3 a := by rw [r0, nI_pred]; exact h.st (by omega)
  have hF : nI 6 ≤ nI m ↔ m = 6 := ⟨fun q => by have := (nI_leI (by omega) (by omega)).mp q; omega, fun q => by rw [q]; exact Int32.le_refl _⟩
  have hF2 : nI m = 6 ↔ m = 6 := ⟨fun q => (nI_eq (b := 6) (by omega) (by decide)).mp q, fun q => by rw [q]; rfl⟩
  obtain ⟨t1, t2, t3, t4, t5⟩ := vte_r (P := vat P) (Q := Q) (x := 4)
  obtain ⟨u1, u2, u3, u4, u5⟩ := vte_r (P := vat P) (Q := Q) (x := 2)
  obtain ⟨w1, w2, w3, w4, w5⟩ := vte_r (P := vte (vat P) Q 2) (Q := Q) (x := 4)
  have hp0 : (vnn1 P Q m) 0 0 = nI (a + 1) := by
    unfold vnn1
    dsimp only
    split
    · split
      · rw [t2, r0]
      · rw [zup_ne (by omega), r0]
    · split
      · rw [w2, u2, r0]
      · rw [zup_ne (by omega), u2, r0]
  refine hJ.as ha he hp0 (fun q => ?_) (fun b1 b2 T hT => ?_)
  · have q2 : vat P 0 1 ≠ 0 := by rw [r2 1 (by decide)]; exact q
    obtain ⟨x1, x2⟩ := t4 q2
    obtain ⟨x3, x4⟩ := u4 q2
    obtain ⟨x5, x6⟩ := w4 (by rw [x3]; exact q2)
    unfold vnn1
    dsimp only
    split
    · split
      · rw [x1, x2, r2 1 (by decide), r2 2 (by decide)]; exact ⟨rfl, rfl⟩
      · rw [zup_ne (by omega), zup_ne (by omega), r2 1 (by decide), r2 2 (by decide)]; exact ⟨rfl, rfl⟩
    · split
      · rw [x5, x6, x3, x4, r2 1 (by decide), r2 2 (by decide)]; exact ⟨rfl, rfl⟩
      · rw [zup_ne (by omega), zup_ne (by omega), x3, x4, r2 1 (by decide), r2 2 (by decide)]; exact ⟨rfl, rfl⟩
  · obtain ⟨hN, hok, hst2, hend⟩ := hM T hT
    obtain ⟨n1, n2⟩ := zq_rn1 (z := 1) h hJ.2.2.2.1 hJ.2.1 hN ha (fun i => r1 1 i (by decide)) r0
    have q2 : vat P 0 1 = 0 := by rw [r2 1 (by decide)]; exact b1
    have q3 : vat P 0 2 = -1 := by rw [r2 2 (by decide)]; exact b2
    refine ⟨hok, ?_⟩
    rw [hst2, n1]
    obtain ⟨x1, x2⟩ := t5 q2
    obtain ⟨x3, x4⟩ := u5 q2
    obtain ⟨x5, x6⟩ := w4 (by rw [x3]; decide)
    rcases n2 with c | ⟨i, hi, c⟩
    · have hlt : vfi1 (vat P) Q m 0 < 0 := by rw [c]; decide
      by_cases d : m = 6
      · refine ⟨4, T, by rw [if_pos c, if_pos (hF2.mpr d)], fun z => absurd z (by decide), fun _ => ?_⟩
        unfold vnn1
        dsimp only
        rw [if_pos hlt, if_pos (hF.mpr d), x1, x2]
        exact ⟨rfl, hst⟩
      · have hv : vnn1 P Q m = zup (vat P) 1 m (vat P 0 0 - 1) := by
          unfold vnn1
          dsimp only
          rw [if_pos hlt, if_neg (fun z => d (hF.mp z))]
        refine ⟨0, U1 T m, by rw [if_pos c, if_neg (fun z => d (hF2.mp z))], fun _ => ⟨by rw [hv, zup_ne (by omega)]; exact q2, by rw [hv, zup_ne (by omega)]; exact q3, hend (by omega) hp0 (fun i hi => by rw [hv, zup_ne (by omega)]; exact r1 1 i (by decide)) (by rw [hv, zup_same, r0, nI_pred]) (fun j k h1 h2 => by rw [hv, zup_ne (by omega)]; exact r1 j k h1)⟩, fun z => absurd rfl z⟩
    · have hlt : ¬ vfi1 (vat P) Q m 0 < 0 := by rw [c]; exact nI_pos (by omega)
      refine ⟨2, T, by rw [if_neg (show ¬ vfi1 (vat P) Q m 0 = -1 by rw [c]; exact nI_m1 (by omega))], fun z => absurd z (by decide), fun _ => ?_⟩
      unfold vnn1
      dsimp only
      rw [if_neg hlt]
      by_cases d : m = 6
      · rw [if_pos (hF.mpr d), x5, x6, x3, x4]
        exact ⟨rfl, hst⟩
      · rw [if_neg (fun z => d (hF.mp z)), zup_ne (by omega), zup_ne (by omega), x3, x4]
        exact ⟨rfl, hst⟩

def U2 (T : zFn) (m : Nat) : zFn := zup (zup (zup T 7 m 8) 8 m 3) 0 1 (nI m + 1)
theorem zq_nn2 {Q : zFn} {K : zKn} {X0 P X : zFn} {n e a m : Nat} {M M' : zFn → Prop} (h : zqI Q K X0 n e) (hJ : zqJ X0 e a P X M) (ha : a < e) (hm : m ≤ 20) (hM : ∀ T, M T → zqNm P X 2 m a ∧ zOK (xas X 2) a T ∧ zstp (xas X 2) a T = (if rnmL (xas X 2) a 2 a 0 0 = -1 then (if nI m = 20 then (4, T) else (0, U2 T m)) else (2, T)) ∧ (m < 20 → (vnn2 P Q m) 0 0 = nI (a + 1) → (∀ i, i ≠ m → vnn2 P Q m 2 i = P 2 i) → vnn2 P Q m 2 m = nI a → (∀ j k, 0 < j → j ≠ 2 → vnn2 P Q m j k = P j k) → M' (U2 T m))) : zqJ X0 e (a + 1) (vnn2 P Q m) (xas X 2) M' := by
  have he := h.2.1
  obtain ⟨r1, r2⟩ := vat_r (P := P)
  have r0 := vat_0 hJ.1
  have hst : vsta Q (vat P 0 0 - 1) = X0 3 a := by rw [r0, nI_pred]; exact h.st (by omega)
  have hF : nI 20 ≤ nI m ↔ m = 20 := ⟨fun q => by have := (nI_leI (by omega) (by omega)).mp q; omega, fun q => by rw [q]; exact Int32.le_refl _⟩
  have hF2 : nI m = 20 ↔ m = 20 := ⟨fun q => (nI_eq (b := 20) (by omega) (by decide)).mp q, fun q => by rw [q]; rfl⟩
  obtain ⟨t1, t2, t3, t4, t5⟩ := vte_r (P := vat P) (Q := Q) (x := 4)
  obtain ⟨u1, u2, u3, u4, u5⟩ := vte_r (P := vat P) (Q := Q) (x := 2)
  obtain ⟨w1, w2, w3, w4, w5⟩ := vte_r (P := vte (vat P) Q 2) (Q := Q) (x := 4)
  have hp0 : (vnn2 P Q m) 0 0 = nI (a + 1) := by
    unfold vnn2
    dsimp only
    split
    · split
      · rw [t2, r0]
      · rw [zup_ne (by omega), r0]
    · split
      · rw [w2, u2, r0]
      · rw [zup_ne (by omega), u2, r0]
  refine hJ.as ha he hp0 (fun q => ?_) (fun b1 b2 T hT => ?_)
  · have q2 : vat P 0 1 ≠ 0 := by rw [r2 1 (by decide)]; exact q
    obtain ⟨x1, x2⟩ := t4 q2
    obtain ⟨x3, x4⟩ := u4 q2
    obtain ⟨x5, x6⟩ := w4 (by rw [x3]; exact q2)
    unfold vnn2
    dsimp only
    split
    · split
      · rw [x1, x2, r2 1 (by decide), r2 2 (by decide)]; exact ⟨rfl, rfl⟩
      · rw [zup_ne (by omega), zup_ne (by omega), r2 1 (by decide), r2 2 (by decide)]; exact ⟨rfl, rfl⟩
    · split
      · rw [x5, x6, x3, x4, r2 1 (by decide), r2 2 (by decide)]; exact ⟨rfl, rfl⟩
      · rw [zup_ne (by omega), zup_ne (by omega), x3, x4, r2 1 (by decide), r2 2 (by decide)]; exact ⟨rfl, rfl⟩
  · obtain ⟨hN, hok, hst2, hend⟩ := hM T hT
    obtain ⟨n1, n2⟩ := zq_rn2 (z := 2) h hJ.2.2.2.1 hJ.2.1 hN ha (fun i => r1 2 i (by decide)) r0
    have q2 : vat P 0 1 = 0 := by rw [r2 1 (by decide)]; exact b1
    have q3 : vat P 0 2 = -1 := by rw [r2 2 (by decide)]; exact b2
    refine ⟨hok, ?_⟩
    rw [hst2, n1]
    obtain ⟨x1, x2⟩ := t5 q2
    obtain ⟨x3, x4⟩ := u5 q2
    obtain ⟨x5, x6⟩ := w4 (by rw [x3]; decide)
    rcases n2 with c | ⟨i, hi, c⟩
    · have hlt : vfi2 (vat P) Q m 0 < 0 := by rw [c]; decide
      by_cases d : m = 20
      · refine ⟨4, T, by rw [if_pos c, if_pos (hF2.mpr d)], fun z => absurd z (by decide), fun _ => ?_⟩
        unfold vnn2
        dsimp only
        rw [if_pos hlt, if_pos (hF.mpr d), x1, x2]
        exact ⟨rfl, hst⟩
      · have hv : vnn2 P Q m = zup (vat P) 2 m (vat P 0 0 - 1) := by
          unfold vnn2
          dsimp only
          rw [if_pos hlt, if_neg (fun z => d (hF.mp z))]
        refine ⟨0, U2 T m, by rw [if_pos c, if_neg (fun z => d (hF2.mp z))], fun _ => ⟨by rw [hv, zup_ne (by omega)]; exact q2, by rw [hv, zup_ne (by omega)]; exact q3, hend (by omega) hp0 (fun i hi => by rw [hv, zup_ne (by omega)]; exact r1 2 i (by decide)) (by rw [hv, zup_same, r0, nI_pred]) (fun j k h1 h2 => by rw [hv, zup_ne (by omega)]; exact r1 j k h1)⟩, fun z => absurd rfl z⟩
    · have hlt : ¬ vfi2 (vat P) Q m 0 < 0 := by rw [c]; exact nI_pos (by omega)
      refine ⟨2, T, by rw [if_neg (show ¬ vfi2 (vat P) Q m 0 = -1 by rw [c]; exact nI_m1 (by omega))], fun z => absurd z (by decide), fun _ => ?_⟩
      unfold vnn2
      dsimp only
      rw [if_neg hlt]
      by_cases d : m = 20
      · rw [if_pos (hF.mpr d), x5, x6, x3, x4]
        exact ⟨rfl, hst⟩
      · rw [if_neg (fun z => d (hF.mp z)), zup_ne (by omega), zup_ne (by omega), x3, x4]
        exact ⟨rfl, hst⟩

def U3 (T : zFn) (m : Nat) : zFn := zup T 0 3 (nI m + 1)
theorem zq_nn3 {Q : zFn} {K : zKn} {X0 P X : zFn} {n e a m : Nat} {M M' : zFn → Prop} (h : zqI Q K X0 n e) (hJ : zqJ X0 e a P X M) (ha : a < e) (hm : m ≤ 12) (hM : ∀ T, M T → zqNm P X 3 m a ∧ zOK (xas X 3) a T ∧ zstp (xas X 3) a T = (if rnmL (xas X 3) a 3 a 0 0 = -1 then (if nI m = 12 then (4, T) else (0, U3 T m)) else (2, T)) ∧ (m < 12 → (vnn3 P Q m) 0 0 = nI (a + 1) → (∀ i, i ≠ m → vnn3 P Q m 3 i = P 3 i) → vnn3 P Q m 3 m = nI a → (∀ j k, 0 < j → j ≠ 3 → vnn3 P Q m j k = P j k) → M' (U3 T m))) : zqJ X0 e (a + 1) (vnn3 P Q m) (xas X 3) M' := by
  have he := h.2.1
  obtain ⟨r1, r2⟩ := vat_r (P := P)
  have r0 := vat_0 hJ.1
  have hst : vsta Q (vat P 0 0 - 1) = X0 3 a := by rw [r0, nI_pred]; exact h.st (by omega)
  have hF : nI 12 ≤ nI m ↔ m = 12 := ⟨fun q => by have := (nI_leI (by omega) (by omega)).mp q; omega, fun q => by rw [q]; exact Int32.le_refl _⟩
  have hF2 : nI m = 12 ↔ m = 12 := ⟨fun q => (nI_eq (b := 12) (by omega) (by decide)).mp q, fun q => by rw [q]; rfl⟩
  obtain ⟨t1, t2, t3, t4, t5⟩ := vte_r (P := vat P) (Q := Q) (x := 4)
  obtain ⟨u1, u2, u3, u4, u5⟩ := vte_r (P := vat P) (Q := Q) (x := 2)
  obtain ⟨w1, w2, w3, w4, w5⟩ := vte_r (P := vte (vat P) Q 2) (Q := Q) (x := 4)
  have hp0 : (vnn3 P Q m) 0 0 = nI (a + 1) := by
    unfold vnn3
    dsimp only
    split
    · split
      · rw [t2, r0]
      · rw [zup_ne (by omega), r0]
    · split
      · rw [w2, u2, r0]
      · rw [zup_ne (by omega), u2, r0]
  refine hJ.as ha he hp0 (fun q => ?_) (fun b1 b2 T hT => ?_)
  · have q2 : vat P 0 1 ≠ 0 := by rw [r2 1 (by decide)]; exact q
    obtain ⟨x1, x2⟩ := t4 q2
    obtain ⟨x3, x4⟩ := u4 q2
    obtain ⟨x5, x6⟩ := w4 (by rw [x3]; exact q2)
    unfold vnn3
    dsimp only
    split
    · split
      · rw [x1, x2, r2 1 (by decide), r2 2 (by decide)]; exact ⟨rfl, rfl⟩
      · rw [zup_ne (by omega), zup_ne (by omega), r2 1 (by decide), r2 2 (by decide)]; exact ⟨rfl, rfl⟩
    · split
      · rw [x5, x6, x3, x4, r2 1 (by decide), r2 2 (by decide)]; exact ⟨rfl, rfl⟩
      · rw [zup_ne (by omega), zup_ne (by omega), x3, x4, r2 1 (by decide), r2 2 (by decide)]; exact ⟨rfl, rfl⟩
  · obtain ⟨hN, hok, hst2, hend⟩ := hM T hT
    obtain ⟨n1, n2⟩ := zq_rn3 (z := 3) h hJ.2.2.2.1 hJ.2.1 hN ha (fun i => r1 3 i (by decide)) r0
    have q2 : vat P 0 1 = 0 := by rw [r2 1 (by decide)]; exact b1
    have q3 : vat P 0 2 = -1 := by rw [r2 2 (by decide)]; exact b2
    refine ⟨hok, ?_⟩
    rw [hst2, n1]
    obtain ⟨x1, x2⟩ := t5 q2
    obtain ⟨x3, x4⟩ := u5 q2
    obtain ⟨x5, x6⟩ := w4 (by rw [x3]; decide)
    rcases n2 with c | ⟨i, hi, c⟩
    · have hlt : vfi3 (vat P) Q m 0 < 0 := by rw [c]; decide
      by_cases d : m = 12
      · refine ⟨4, T, by rw [if_pos c, if_pos (hF2.mpr d)], fun z => absurd z (by decide), fun _ => ?_⟩
        unfold vnn3
        dsimp only
        rw [if_pos hlt, if_pos (hF.mpr d), x1, x2]
        exact ⟨rfl, hst⟩
      · have hv : vnn3 P Q m = zup (vat P) 3 m (vat P 0 0 - 1) := by
          unfold vnn3
          dsimp only
          rw [if_pos hlt, if_neg (fun z => d (hF.mp z))]
        refine ⟨0, U3 T m, by rw [if_pos c, if_neg (fun z => d (hF2.mp z))], fun _ => ⟨by rw [hv, zup_ne (by omega)]; exact q2, by rw [hv, zup_ne (by omega)]; exact q3, hend (by omega) hp0 (fun i hi => by rw [hv, zup_ne (by omega)]; exact r1 3 i (by decide)) (by rw [hv, zup_same, r0, nI_pred]) (fun j k h1 h2 => by rw [hv, zup_ne (by omega)]; exact r1 j k h1)⟩, fun z => absurd rfl z⟩
    · have hlt : ¬ vfi3 (vat P) Q m 0 < 0 := by rw [c]; exact nI_pos (by omega)
      refine ⟨2, T, by rw [if_neg (show ¬ vfi3 (vat P) Q m 0 = -1 by rw [c]; exact nI_m1 (by omega))], fun z => absurd z (by decide), fun _ => ?_⟩
      unfold vnn3
      dsimp only
      rw [if_neg hlt]
      by_cases d : m = 12
      · rw [if_pos (hF.mpr d), x5, x6, x3, x4]
        exact ⟨rfl, hst⟩
      · rw [if_neg (fun z => d (hF.mp z)), zup_ne (by omega), zup_ne (by omega), x3, x4]
        exact ⟨rfl, hst⟩

theorem zq_on1 {Q : zFn} {K : zKn} {X0 P X : zFn} {n e a m : Nat} {M M' : zFn → Prop} {z : Int32} {F : zFn → Int32 → zFn} (h : zqI Q K X0 n e) (hJ : zqJ X0 e a P X M) (ha : a < e) (hm : m ≤ 20) (hM : ∀ T, M T → zqNm P X 1 m a ∧ zOK (xas X z) a T ∧ zstp (xas X z) a T = (if rnmL (xas X z) a 1 a 0 0 = -1 then (3, F T (-1)) else (0, F T (rnmL (xas X z) a 1 a 0 0))) ∧ ∀ i, i < m → von1 P Q m 0 0 = nI (a + 1) → von1 P Q m 0 3 = nI i → (∀ j k, 0 < j → von1 P Q m j k = P j k) → M' (F T (nI i))) : zqJ X0 e (a + 1) (von1 P Q m) (xas X z) M' ∧ (∀ j k, 0 < j → von1 P Q m j k = P j k) := by
  have he := h.2.1
  obtain ⟨r1, r2⟩ := vat_r (P := P)
  have r0 := vat_0 hJ.1
  have hst : vsta Q (vat P 0 0 - 1) = X0 3 a := by rw [r0, nI_pred]; exact h.st (by omega)
  obtain ⟨P2, hP2⟩ : ∃ P2, zup (vat P) 0 3 (vfi1 (vat P) Q m 0) = P2 := ⟨_, rfl⟩
  have e0 : P2 0 0 = nI (a + 1) := by rw [← hP2, zup_ne (by omega), r0]
  have e1 : P2 0 1 = P 0 1 := by rw [← hP2, zup_ne (by omega), r2 1 (by decide)]
  have e2 : P2 0 2 = P 0 2 := by rw [← hP2, zup_ne (by omega), r2 2 (by decide)]
  have e3 : P2 0 3 = vfi1 (vat P) Q m 0 := by rw [← hP2, zup_same]
  have er : ∀ j k, 0 < j → P2 j k = P j k := fun j k hj => by rw [← hP2, zup_ne (by omega), r1 j k hj]
  obtain ⟨t1, t2, t3, t4, t5⟩ := vte_r (P := P2) (Q := Q) (x := 3)
  have hv : von1 P Q m = if 0 ≤ P2 0 3 then P2 else zup (vte P2 Q 3) 0 3 0 := by
    unfold von1
    dsimp only
    rw [hP2]
  have hp0 : von1 P Q m 0 0 = nI (a + 1) := by
    rw [hv]
    split
    · exact e0
    · rw [zup_ne (by omega), t2, e0]
  have hr : ∀ j k, 0 < j → von1 P Q m j k = P j k := by
    intro j k hj
    rw [hv]
    split
    · exact er j k hj
    · rw [zup_ne (by omega), t1 j k hj, er j k hj]
  refine ⟨hJ.as ha he hp0 (fun q => ?_) (fun b1 b2 T hT => ?_), hr⟩
  · rw [hv]
    split
    · rw [e1, e2]; exact ⟨rfl, rfl⟩
    · obtain ⟨x1, x2⟩ := t4 (by rw [e1]; exact q)
      rw [zup_ne (by omega), zup_ne (by omega), x1, x2, e1, e2]
      exact ⟨rfl, rfl⟩
  · obtain ⟨hN, hok, hst2, hend⟩ := hM T hT
    obtain ⟨n1, n2⟩ := zq_rn1 (z := z) h hJ.2.2.2.1 hJ.2.1 hN ha (fun i => r1 1 i (by decide)) r0
    refine ⟨hok, ?_⟩
    rw [hst2, n1]
    rcases n2 with c | ⟨i, hi, c⟩
    · refine ⟨3, F T (-1), by rw [if_pos c], fun q => absurd q (by decide), fun _ => ?_⟩
      obtain ⟨x1, x2⟩ := t5 (by rw [e1]; exact b1)
      have hlt : ¬ 0 ≤ P2 0 3 := by rw [e3, c]; decide
      rw [hv, if_neg hlt, zup_ne (by omega), zup_ne (by omega), x1, x2, e0, nI_pred]
      exact ⟨rfl, h.st (by omega)⟩
    · refine ⟨0, F T (nI i), by rw [if_neg (by rw [c]; exact nI_m1 (by omega)), c], fun _ => ?_, fun q => absurd rfl q⟩
      have hge : 0 ≤ P2 0 3 := by rw [e3, c]; exact nI_pos' (by omega)
      have hv2 : von1 P Q m = P2 := by rw [hv, if_pos hge]
      exact ⟨by rw [hv2, e1, b1], by rw [hv2, e2, b2], hend i hi hp0 (by rw [hv2, e3, c]) hr⟩

/-- a number -/
theorem vrn_r {Q P : zFn} {lo hi : Int32} {X0 : zFn} {K : zKn} {n e a : Nat} (h : zqI Q K X0 n e) (h0 : P 0 0 = nI a) (ha : a < e) (hk : K a = 3) : vrn P Q lo hi 0 0 = nI (a + 1) ∧ (∀ j k, 0 < j → vrn P Q lo hi j k = P j k) ∧ vrn P Q lo hi 0 3 = rnoL X0 a (rmn X0 a) 0 0 ∧ (∀ k, 3 < k → vrn P Q lo hi 0 k = P 0 k) ∧ (P 0 1 ≠ 0 → vrn P Q lo hi 0 1 = P 0 1 ∧ vrn P Q lo hi 0 2 = P 0 2) ∧ (P 0 1 = 0 → (rin (vrn P Q lo hi 0 3) lo hi = 0 → vrn P Q lo hi 0 1 = 5 ∧ vrn P Q lo hi 0 2 = X0 3 a) ∧ (rin (vrn P Q lo hi 0 3) lo hi ≠ 0 → vrn P Q lo hi 0 1 = P 0 1 ∧ vrn P Q lo hi 0 2 = P 0 2)) := by
  have he := h.2.1
  obtain ⟨r1, r2⟩ := vat_r (P := P)
  have r0 := vat_0 h0
  obtain ⟨P2, hP2⟩ : ∃ P2, zup (vat P) 0 3 (vnum Q (vat P 0 0 - 1)) = P2 := ⟨_, rfl⟩
  have e0 : P2 0 0 = nI (a + 1) := by rw [← hP2, zup_ne (by omega), r0]
  have e1 : P2 0 1 = P 0 1 := by rw [← hP2, zup_ne (by omega), r2 1 (by decide)]
  have e2 : P2 0 2 = P 0 2 := by rw [← hP2, zup_ne (by omega), r2 2 (by decide)]
  have e3 : P2 0 3 = rnoL X0 a (rmn X0 a) 0 0 := by rw [← hP2, zup_same, r0, nI_pred, h.num ha hk]
  have e4 : ∀ k, 3 < k → P2 0 k = P 0 k := fun k hk => by rw [← hP2, zup_ne (by omega), r2 k (by omega)]
  have er : ∀ j k, 0 < j → P2 j k = P j k := fun j k hj => by rw [← hP2, zup_ne (by omega), r1 j k hj]
  obtain ⟨t1, t2, t3, t4, t5⟩ := vte_r (P := P2) (Q := Q) (x := 5)
  have hv : vrn P Q lo hi = if rin (P2 0 3) lo hi = 0 then vte P2 Q 5 else P2 := by
    unfold vrn
    dsimp only
    rw [hP2, rin_eq]
    by_cases c1 : P2 0 3 < lo
    · rw [if_pos c1, if_neg (i_nle c1), if_pos rfl]
    · rw [if_neg c1, if_pos (i_le c1)]
      by_cases c2 : P2 0 3 ≤ hi
      · rw [if_pos c2, if_pos c2, if_neg (by decide)]
      · rw [if_neg c2, if_neg c2, if_pos rfl]
  have h3 : vrn P Q lo hi 0 3 = P2 0 3 := by
    rw [hv]
    split
    · exact t3 3 (by decide)
    · rfl
  refine ⟨?_, fun j k hj => ?_, h3.trans e3, fun k hk => ?_, fun q => ?_, fun q => ⟨fun c => ?_, fun c => ?_⟩⟩
  · rw [hv]
    split
    · rw [t2, e0]
    · exact e0
  · rw [hv]
    split
    · rw [t1 j k hj, er j k hj]
    · exact er j k hj
  · rw [hv]
    split
    · rw [t3 k (by omega), e4 k hk]
    · exact e4 k hk
  · rw [hv]
    split
    · obtain ⟨x1, x2⟩ := t4 (by rw [e1]; exact q)
      rw [x1, x2, e1, e2]; exact ⟨rfl, rfl⟩
    · rw [e1, e2]; exact ⟨rfl, rfl⟩
  · rw [h3] at c
    obtain ⟨x1, x2⟩ := t5 (by rw [e1]; exact q)
    rw [hv, if_pos c, x1, x2, e0, nI_pred]
    exact ⟨rfl, h.st (by omega)⟩
  · rw [h3] at c
    rw [hv, if_neg c, e1, e2]
    exact ⟨rfl, rfl⟩
theorem zq_num {Q : zFn} {K : zKn} {X0 P X : zFn} {n e a : Nat} {M M' : zFn → Prop} {z lo hi : Int32} {j ix : Nat} (h : zqI Q K X0 n e) (hJ : zqJ X0 e a P X M) (ha : a < e) (hk : K a = 3) (hM : ∀ T, M T → zOK (xas X z) a T ∧ zstp (xas X z) a T = rke T j ix (rnoL X0 a (rmn X0 a) 0 0) lo hi ∧ (rin (vrn P Q lo hi 0 3) lo hi ≠ 0 → M' (zup T j ix (vrn P Q lo hi 0 3)))) : zqJ X0 e (a + 1) (vrn P Q lo hi) (xas X z) M' := by
  have he := h.2.1
  obtain ⟨v0, v1, v2, v3, v4, v5⟩ := vrn_r (lo := lo) (hi := hi) h hJ.1 ha hk
  refine hJ.as ha he v0 v4 (fun b1 b2 T hT => ?_)
  obtain ⟨hok, hst, hend⟩ := hM T hT
  refine ⟨hok, ?_⟩
  unfold rke at hst
  rw [← v2] at hst
  rw [hst]
  obtain ⟨w1, w2⟩ := v5 b1
  by_cases c : rin (vrn P Q lo hi 0 3) lo hi = 0
  · exact ⟨5, T, by rw [if_pos c], fun q => absurd q (by decide), fun _ => w1 c⟩
  · obtain ⟨x1, x2⟩ := w2 c
    exact ⟨0, _, by rw [if_neg c], fun _ => ⟨x1.trans b1, x2.trans b2, hend c⟩, fun q => absurd rfl q⟩

