/-! BOTH READERS, STEP BY STEP. zstp: the reference's second look at one token; rfo: at all ahead of a place. -/
def zstp (X : zFn) (t : Nat) (T : zFn) : Int32 × zFn :=
  if X 5 t = 0 then (0, T)
  else if X 5 t = 1 then reo1 T X t (T 0 0).toNatClampNeg
  else if X 5 t = 5 then reo5 T X t ((T 0 0).toNatClampNeg - 1)
  else if X 5 t = 6 then reo6 T X t ((T 0 0).toNatClampNeg - 1) ((T 1 ((T 0 0).toNatClampNeg - 1)).toNatClampNeg - 1)
  else if X 5 t = 7 then reo7 T X t ((T 0 0).toNatClampNeg - 1) ((T 1 ((T 0 0).toNatClampNeg - 1)).toNatClampNeg - 1)
  else if X 5 t = 8 then reo8 T X t ((T 0 0).toNatClampNeg - 1)
  else if X 5 t = 4 then reo4 T X t (T 0 2).toNatClampNeg
  else if X 5 t = 13 then reo13 T X t ((T 0 2).toNatClampNeg - 1)
  else if X 5 t = 14 then reo14 T X t ((T 0 2).toNatClampNeg - 1)
  else if X 5 t = 15 then reo15 T X t ((T 0 2).toNatClampNeg - 1)
  else if X 5 t = 16 then reo16 T X t ((T 0 2).toNatClampNeg - 1)
  else if X 5 t = 2 then rep2 T X t 0 (T 0 1).toNatClampNeg
  else if X 5 t = 9 then rep9 T X t 0 ((T 0 1).toNatClampNeg - 1)
  else if X 5 t = 10 then rep10 T X t 0 ((T 0 1).toNatClampNeg - 1)
  else if X 5 t = 11 then rep11 T X t (rnoL X t (rmn X t) 0 0) ((T 0 1).toNatClampNeg - 1)
  else if X 5 t = 12 then rep12 T X t (rnoL X t (rmn X t) 0 0) ((T 0 1).toNatClampNeg - 1)
  else if X 5 t = 3 then rep3 T X t 0 (T 0 3).toNatClampNeg
  else if X 5 t = 17 then rep17 T X t 0 ((T 0 3).toNatClampNeg - 1)
  else if rnmL X t 2 t 0 0 = -1 then (3, T)
  else if X 5 t = 18 then rec18 T X t ((T 0 3).toNatClampNeg - 1) (T 14 ((T 0 3).toNatClampNeg - 1)).toNatClampNeg (rnmL X t 2 t 0 0).toNatClampNeg
  else rec19 T X t ((T 0 3).toNatClampNeg - 1) ((T 14 ((T 0 3).toNatClampNeg - 1)).toNatClampNeg - 1) (T 15 (6 * ((T 0 3).toNatClampNeg - 1) + ((T 14 ((T 0 3).toNatClampNeg - 1)).toNatClampNeg - 1))).toNatClampNeg (rnmL X t 2 t 0 0).toNatClampNeg (T 16 (120 * ((T 0 3).toNatClampNeg - 1) + 20 * ((T 14 ((T 0 3).toNatClampNeg - 1)).toNatClampNeg - 1))).toNatClampNeg
/-- what the contracts of the second look ask -/
def zOK (X : zFn) (t : Nat) (T : zFn) : Prop :=
  (X 5 t = 0) ∨ (X 5 t = 1 ∧ X 2 t = 20 ∧ ∃ l, l ≤ 6 ∧ T 0 0 = nI l)
  ∨ (X 5 t = 5 ∧ X 2 t = 2 ∧ ∃ l s, l < 6 ∧ s < 6 ∧ T 0 0 = nI (l + 1) ∧ T 1 l = nI (s + 1))
  ∨ ((X 5 t = 6 ∨ X 5 t = 7) ∧ X 2 t = 21 ∧ ∃ l s, l < 6 ∧ s < 6 ∧ T 0 0 = nI (l + 1) ∧ T 1 l = nI (s + 1))
  ∨ (X 5 t = 8 ∧ X 2 t = 21 ∧ ∃ l, l < 6 ∧ T 0 0 = nI (l + 1))
  ∨ (X 5 t = 4 ∧ X 2 t = 8 ∧ ∃ h, h ≤ 6 ∧ T 0 2 = nI h)
  ∨ ((X 5 t = 13 ∨ X 5 t = 14 ∨ X 5 t = 15 ∨ X 5 t = 16) ∧ X 2 t = 21 ∧ ∃ h, h < 6 ∧ T 0 2 = nI (h + 1))
  ∨ (X 5 t = 2 ∧ ∃ p, p ≤ 20 ∧ T 0 1 = nI p)
  ∨ ((X 5 t = 9 ∨ X 5 t = 10 ∨ (X 5 t = 11 ∧ X 2 t = 21) ∨ (X 5 t = 12 ∧ X 2 t = 21)) ∧ ∃ p, p < 20 ∧ T 0 1 = nI (p + 1))
  ∨ (X 5 t = 3 ∧ ∃ k, k ≤ 12 ∧ T 0 3 = nI k)
  ∨ (X 5 t = 17 ∧ ∃ k, k < 12 ∧ T 0 3 = nI (k + 1))
  ∨ ((X 5 t = 18 ∨ X 5 t = 19) ∧ ∃ k, k < 12 ∧ T 0 3 = nI (k + 1) ∧ (rnmL X t 2 t 0 0 = -1
    ∨ (X 5 t = 18 ∧ ∃ p j, p < 20 ∧ rnmL X t 2 t 0 0 = nI p ∧ j ≤ 6 ∧ T 14 k = nI j ∧ (j < 6 → T 15 (6 * k + j) = nI 0))
    ∨ (X 5 t = 19 ∧ ∃ p j z q0, p < 20 ∧ rnmL X t 2 t 0 0 = nI p ∧ j < 6 ∧ T 14 k = nI (j + 1) ∧ z ≤ 20 ∧ T 15 (6 * k + j) = nI z ∧ (z = 20 → T 5 q0 = T 5 p → ∃ i, i < 20 ∧ T 16 (120 * k + 20 * j + i) = nI p) ∧ T 16 (120 * k + 20 * j) = nI q0 ∧ q0 < 20)))
def rfo (X : zFn) : Nat → Int32 × Int32 × zFn
  | 0 => (0, -1, fun _ _ => 0)
  | k + 1 => if (rfo X k).1 = 0 then (if (zstp X k (rfo X k).2.2).1 = 0 then (0, -1, (zstp X k (rfo X k).2.2).2) else ((zstp X k (rfo X k).2.2).1, X 3 k, (zstp X k (rfo X k).2.2).2)) else rfo X k
/-- alike but for roles at and behind a place -/
def zqY (a : Nat) (X X' : zFn) : Prop := (∀ k, X' 1 k = X 1 k) ∧ (∀ k, X' 2 k = X 2 k) ∧ (∀ k, X' 3 k = X 3 k) ∧ (∀ k, X' 4 k = X 4 k) ∧ ∀ k, k < a → X' 5 k = X 5 k
section ZYC
variable {X X' : zFn} {a : Nat}
theorem rsaL_cg (h : zqY a X X') (i j : Nat) : ∀ (m c : Nat), rsaL X' i j m c = rsaL X i j m c
  | 0, _ => rfl
  | m + 1, c => by
    unfold rsaL rfr
    rw [h.1, h.1, h.2.2.1, h.2.2.1, rsaL_cg h i j m (c + 1)]
theorem rsa_cg (h : zqY a X X') (i j : Nat) : rsa X' i j = rsa X i j := by
  unfold rsa rmn
  rw [h.2.2.2.1, h.2.2.2.1, rsaL_cg h]
theorem rnmL_cg (h : zqY a X X') (t : Nat) (y : Int32) : ∀ (m i c : Nat), i + m ≤ a → rnmL X' t y m i c = rnmL X t y m i c
  | 0, _, _, _ => rfl
  | m + 1, i, c, hi => by
    rw [rnmL, rnmL, h.2.2.2.2 i (by omega), rsa_cg h, rnmL_cg h t y m (i + 1) _ (by omega), rnmL_cg h t y m (i + 1) _ (by omega)]
theorem rnoL_cg (h : zqY a X X') (t : Nat) : ∀ (m i : Nat) (y : Int32), rnoL X' t m i y = rnoL X t m i y
  | 0, _, _ => rfl
  | m + 1, i, y => by
    unfold rnoL rfr
    rw [h.1, h.2.2.1, rnoL_cg h t m (i + 1)]
theorem rno0_cg (h : zqY a X X') (t : Nat) : rnoL X' t (rmn X' t) 0 0 = rnoL X t (rmn X t) 0 0 := by
  unfold rmn
  rw [h.2.2.2.1, rnoL_cg h]
theorem zstp_cg (h : zqY a X X') {t : Nat} (ht : t < a) (T : zFn) : zstp X' t T = zstp X t T := by
  have e5 := h.2.2.2.2 t ht
  have n1 := rnmL_cg h t 1 t 0 0 (by omega)
  have n2 := rnmL_cg h t 2 t 0 0 (by omega)
  have n3 := rnmL_cg h t 3 t 0 0 (by omega)
  have n0 := rno0_cg h t
  unfold zstp reo1 reo5 reo6 reo7 reo8 reo4 reo13 reo14 reo15 reo16 rep2 rep9 rep10 rep11 rep12 rep3 rep17 rec18 rec19
  simp only [e5, n1, n2, n3, n0]
theorem zOK_cg (h : zqY a X X') {t : Nat} (ht : t < a) {T : zFn} (hk : zOK X t T) : zOK X' t T := by
  have e5 := h.2.2.2.2 t ht
  have n2 := rnmL_cg h t 2 t 0 0 (by omega)
  unfold zOK
  rw [e5, h.2.1, n2]
  exact hk
theorem rfo_cg (h : zqY a X X') : ∀ k, k ≤ a → rfo X' k = rfo X k
  | 0, _ => rfl
  | k + 1, hk => by
    rw [rfo, rfo, rfo_cg h k (by omega), zstp_cg h (by omega), h.2.2.1]
end ZYC
/-- both at the token a; P: the class's reader, X: the reference -/
def zqJ (X0 : zFn) (e a : Nat) (P X : zFn) (M : zFn → Prop) : Prop :=
  P 0 0 = nI a ∧ X 0 3 = nI a ∧ a ≤ e ∧ zqY 0 X0 X ∧ (∀ j, a ≤ j → j ≤ e → X 5 j = 0) ∧ (∀ k, k < a → (rfo X k).1 = 0 → zOK X k (rfo X k).2.2)
  ∧ ((P 0 1 ≠ 0 ∧ (rfo X a).1 = P 0 1 ∧ (rfo X a).2.1 = P 0 2) ∨ (P 0 1 = 0 ∧ P 0 2 = -1 ∧ (rfo X a).1 = 0 ∧ M (rfo X a).2.2))
theorem zqJ.imp {X0 P X : zFn} {e a : Nat} {M M' : zFn → Prop} (h : zqJ X0 e a P X M) (hM : P 0 1 = 0 → ∀ T, M T → M' T) : zqJ X0 e a P X M' := by
  obtain ⟨h1, h2, h3, h4, h5, h6, h7⟩ := h
  refine ⟨h1, h2, h3, h4, h5, h6, ?_⟩
  rcases h7 with h | ⟨a1, a2, a3, a4⟩
  · exact Or.inl h
  · exact Or.inr ⟨a1, a2, a3, hM a1 _ a4⟩
/-- the class's reader differs elsewhere alone -/
theorem zqJ.pp {X0 P P' X : zFn} {e a : Nat} {M : zFn → Prop} (h : zqJ X0 e a P X M) (h0 : P' 0 0 = P 0 0) (h1 : P' 0 1 = P 0 1) (h2 : P' 0 2 = P 0 2) : zqJ X0 e a P' X M := by
  unfold zqJ
  rw [h0, h1, h2]
  exact h
theorem xas_eq {X : zFn} {a : Nat} {z : Int32} (h : X 0 3 = nI a) (ha : a < 401) : xas X z = zup (zup X 5 a z) 0 3 (nI (a + 1)) := by
  unfold xas
  dsimp only
  rw [h, zsf_nI ha (by decide), show zup X 5 a z 0 3 = nI a from by simp [zup, h], nI_1]
theorem xat_eq {X : zFn} {a : Nat} (h : X 0 3 = nI a) : xat X = zup X 0 3 (nI (a + 1)) := by
  unfold xat
  dsimp only
  rw [h, nI_1]
theorem xas_Y {X : zFn} {a : Nat} {z : Int32} (h : X 0 3 = nI a) (ha : a < 401) : zqY a X (xas X z) := by
  rw [xas_eq h ha]
  refine ⟨fun k => by simp [zup], fun k => by simp [zup], fun k => by simp [zup], fun k => by simp [zup], fun k hk => ?_⟩
  have : k ≠ a := by omega
  simp [zup, this]
theorem xat_Y {X : zFn} {a : Nat} (h : X 0 3 = nI a) : zqY a X (xat X) ∧ ∀ k, xat X 5 k = X 5 k := by
  rw [xat_eq h]
  exact ⟨⟨fun k => by simp [zup], fun k => by simp [zup], fun k => by simp [zup], fun k => by simp [zup], fun k hk => by simp [zup]⟩, fun k => by simp [zup]⟩
theorem zqY.tr0 {X X' X2 : zFn} {a : Nat} (h1 : zqY 0 X X') (h2 : zqY a X' X2) : zqY 0 X X2 :=
  ⟨fun k => (h2.1 k).trans (h1.1 k), fun k => (h2.2.1 k).trans (h1.2.1 k), fun k => (h2.2.2.1 k).trans (h1.2.2.1 k), fun k => (h2.2.2.2.1 k).trans (h1.2.2.2.1 k), fun k hk => absurd hk (by omega)⟩
/-- a token read, with a role or without one -/
theorem zqJ.go {X0 P P' X X' : zFn} {e a : Nat} {M M' : zFn → Prop} (hJ : zqJ X0 e a P X M) (ha : a < e) (hY : zqY a X X') (h3 : X' 0 3 = nI (a + 1)) (h5 : ∀ j, a < j → j ≤ e → X' 5 j = X 5 j) (h0 : P' 0 0 = nI (a + 1)) (hE : P 0 1 ≠ 0 → P' 0 1 = P 0 1 ∧ P' 0 2 = P 0 2)
    (hM : P 0 1 = 0 → P 0 2 = -1 → ∀ T, M T → zOK X' a T ∧ ∃ c T', zstp X' a T = (c, T') ∧ (c = 0 → P' 0 1 = 0 ∧ P' 0 2 = -1 ∧ M' T') ∧ (c ≠ 0 → P' 0 1 = c ∧ P' 0 2 = X0 3 a)) : zqJ X0 e (a + 1) P' X' M' := by
  obtain ⟨j1, j2, j3, j4, j5, j6, j7⟩ := hJ
  have hf := rfo_cg hY
  refine ⟨h0, h3, by omega, j4.tr0 hY, fun j h1 h2 => by rw [h5 j (by omega) h2]; exact j5 j (by omega) h2, fun k hk hz => ?_, ?_⟩
  · by_cases e : k = a
    · subst e
      rw [hf k (Nat.le_refl _)] at hz ⊢
      rcases j7 with ⟨b1, b2, b3⟩ | ⟨b1, b2, b3, b4⟩
      · rw [b2] at hz
        exact absurd hz b1
      · exact (hM b1 b2 _ b4).1
    · rw [hf k (by omega)] at hz ⊢
      exact zOK_cg hY (by omega) (j6 k (by omega) hz)
  · rw [rfo, hf a (Nat.le_refl _)]
    rcases j7 with ⟨b1, b2, b3⟩ | ⟨b1, b2, b3, b4⟩
    · obtain ⟨c1, c2⟩ := hE b1
      rw [b2, if_neg b1, c1, c2]
      exact Or.inl ⟨b1, b2, b3⟩
    · obtain ⟨-, c, T', e1, e2, e3⟩ := hM b1 b2 _ b4
      rw [if_pos b3, e1]
      by_cases hc : c = 0
      · subst hc
        obtain ⟨d1, d2, d3⟩ := e2 rfl
        simp only [if_true]
        exact Or.inr ⟨d1, d2, trivial, d3⟩
      · obtain ⟨d1, d2⟩ := e3 hc
        simp only [if_neg hc]
        rw [d1, d2, hY.2.2.1, j4.2.2.1]
        exact Or.inl ⟨hc, rfl, rfl⟩
theorem zqJ.at {X0 P X : zFn} {e a : Nat} {M : zFn → Prop} (hJ : zqJ X0 e a P X M) (ha : a < e) : zqJ X0 e (a + 1) (vat P) (xat X) M := by
  have h3 := hJ.2.1
  obtain ⟨hY, h5⟩ := xat_Y h3
  have hv : vat P 0 1 = P 0 1 ∧ vat P 0 2 = P 0 2 := by unfold vat; simp [zup]
  refine hJ.go ha hY (by rw [xat_eq h3]; simp [zup]) (fun j _ _ => h5 j) (by unfold vat; rw [hJ.1, nI_1]; simp [zup]) (fun _ => hv) (fun b1 b2 T hT => ?_)
  have hz : xat X 5 a = 0 := by rw [h5]; exact hJ.2.2.2.2.1 a (Nat.le_refl _) (by omega)
  refine ⟨Or.inl hz, 0, T, ?_, fun _ => ⟨by rw [hv.1, b1], by rw [hv.2, b2], hT⟩, fun h => absurd rfl h⟩
  unfold zstp
  rw [if_pos hz]
theorem zqJ.as {X0 P P' X : zFn} {e a : Nat} {M M' : zFn → Prop} {z : Int32} (hJ : zqJ X0 e a P X M) (ha : a < e) (he : e ≤ 400) (h0 : P' 0 0 = nI (a + 1)) (hE : P 0 1 ≠ 0 → P' 0 1 = P 0 1 ∧ P' 0 2 = P 0 2)
    (hM : P 0 1 = 0 → P 0 2 = -1 → ∀ T, M T → zOK (xas X z) a T ∧ ∃ c T', zstp (xas X z) a T = (c, T') ∧ (c = 0 → P' 0 1 = 0 ∧ P' 0 2 = -1 ∧ M' T') ∧ (c ≠ 0 → P' 0 1 = c ∧ P' 0 2 = X0 3 a)) : zqJ X0 e (a + 1) P' (xas X z) M' := by
  have h3 := hJ.2.1
  have hY := xas_Y (z := z) h3 (by omega)
  refine hJ.go ha hY (by rw [xas_eq h3 (by omega)]; simp [zup]) (fun j h1 h2 => ?_) h0 hE hM
  rw [xas_eq h3 (by omega)]
  have : j ≠ a := by omega
  simp [zup, this]
/-! tokens -/
def zqI (Q : zFn) (K : zKn) (X0 : zFn) (n e : Nat) : Prop := zqTp Q X0 n ∧ e ≤ 400 ∧ Q 0 1 = nI (e + 1) ∧ (∀ j, j < e → zqTk Q K X0 n j) ∧ zqTe Q K X0 n e
section ZQI
variable {Q : zFn} {K : zKn} {X0 : zFn} {n e : Nat}
theorem zqI.kd (h : zqI Q K X0 n e) {a : Nat} (ha : a ≤ e) : vko Q K (nI a) = K a ∧ X0 2 a = kmap (K a) ∧ K a < 20 ∧ (2 ≤ K a → a < e) := by
  obtain ⟨h1, h2, h3, h4, h5⟩ := h
  have hv : vko Q K (nI a) = K a := by
    unfold vko
    rw [h3, if_neg (nI_pos (by omega)), if_neg (nI_ge (by omega) (by omega)), if_neg (nI_ge (by omega) (by omega)), zsf_nI (by omega) (by decide)]
  rcases Nat.lt_or_ge a e with q | q
  · obtain ⟨f, l, t1, t2, t3, -⟩ := h4 a q
    exact ⟨hv, t3, t2, fun _ => q⟩
  · have : a = e := by omega
    subst this
    obtain ⟨f, t1, t2, -⟩ := h5
    exact ⟨hv, t2, by omega, fun _ => by omega⟩
theorem zqI.st (h : zqI Q K X0 n e) {a : Nat} (ha : a ≤ e) : vsta Q (nI a) = X0 3 a := by
  obtain ⟨h1, h2, h3, h4, h5⟩ := h
  unfold vsta
  rw [if_neg (nI_pos (by omega)), if_neg (nI_ge (by omega) (by omega)), zsf_nI (by omega) (by decide)]
  rcases Nat.lt_or_ge a e with q | q
  · obtain ⟨f, l, t1, t2, t3, t4, t5, -⟩ := h4 a q
    rw [t4, t5]
  · have : a = e := by omega
    subst this
    obtain ⟨f, t1, t2, t3, t4, -⟩ := h5
    rw [t3, t4]
theorem zqI.sz (h : zqI Q K X0 n e) {a : Nat} (ha : a < e) : vsiz Q (nI a) = X0 4 a := by
  obtain ⟨h1, h2, h3, h4, h5⟩ := h
  unfold vsiz
  rw [if_neg (nI_pos (by omega)), if_neg (nI_ge (by omega) (by omega)), zsf_nI (by omega) (by decide)]
  obtain ⟨f, l, t1, t2, t3, t4, t5, t6, t7, -⟩ := h4 a ha
  rw [t6, t7]
theorem zqI.sameL (h : zqI Q K X0 n e) {i j : Nat} (hi : i < e) (hj : j < e) : ∀ (m c : Nat), c + m ≤ rmn X0 i → c + m ≤ rmn X0 j → vas Q (nI i) (nI j) m c = rsaL X0 i j m c
  | 0, _, _, _ => rfl
  | m + 1, c, h1, h2 => by
    have hn := h.1.2.2.1
    obtain ⟨f, l, t1, t2, t3, t4, t5, t6, t7, t8, -⟩ := h.2.2.2.1 i hi
    obtain ⟨f', l', u1, u2, u3, u4, u5, u6, u7, u8, -⟩ := h.2.2.2.1 j hj
    have e1 : rmn X0 i = l := by unfold rmn; rw [t7, nI_clamp (by omega)]
    have e2 : rmn X0 j = l' := by unfold rmn; rw [u7, nI_clamp (by omega)]
    have e3 : rfr X0 i = f := by unfold rfr; rw [t5, nI_clamp (by omega)]
    have e4 : rfr X0 j = f' := by unfold rfr; rw [u5, nI_clamp (by omega)]
    rw [e1] at h1
    rw [e2] at h2
    rw [vas, rsaL, h.st (by omega), h.st (by omega), t5, u5, nI_add, nI_add, (zq_by h.1 (a := f + c) (by omega)).1, (zq_by h.1 (a := f' + c) (by omega)).1, e3, e4, h.sameL hi hj m (c + 1) (by omega) (by omega)]
    obtain ⟨b, hb, b1, b2⟩ := h.1.2.2.2 (f + c) (by omega)
    obtain ⟨b', hb', b3, b4⟩ := h.1.2.2.2 (f' + c) (by omega)
    rw [b1, b2, b3, b4]
    by_cases q : b = b'
    · subst q
      rw [if_pos rfl, if_pos rfl]
    · rw [if_neg, if_neg]
      · intro z
        exact q ((nI_eq (by omega) (by omega)).mp z)
      · intro z
        have := congrArg (fun w : Int32 => w &&& 255) z
        rw [zqb_inj b hb, zqb_inj b' hb'] at this
        exact q ((nI_eq (by omega) (by omega)).mp this)
theorem zqI.same (h : zqI Q K X0 n e) {i j : Nat} (hi : i < e) (hj : j < e) : vsame Q (nI i) (nI j) = rsa X0 i j := by
  have hn := h.1.2.2.1
  obtain ⟨f, l, t1, t2, t3, t4, t5, t6, t7, t8, -⟩ := h.2.2.2.1 i hi
  obtain ⟨f', l', u1, u2, u3, u4, u5, u6, u7, u8, -⟩ := h.2.2.2.1 j hj
  have e1 : rmn X0 i = l := by unfold rmn; rw [t7, nI_clamp (by omega)]
  have e2 : rmn X0 j = l' := by unfold rmn; rw [u7, nI_clamp (by omega)]
  unfold vsame vasm rsa
  rw [h.sz hi, h.sz hj, t7, u7, nI_clamp (by omega), e1, e2]
  by_cases q : nI l = nI l'
  · have := (nI_eq (by omega) (by omega)).mp q
    subst this
    rw [if_pos rfl, if_pos rfl, h.sameL hi hj l 0 (by omega) (by omega)]
  · rw [if_neg q, if_neg q]
theorem rdg_lo {c : Nat} (hc : c < 256) (h : rdg (nI c) ≠ 0) : (nI c).toInt8.toInt32 = nI c := by
  refine zqb_lo c ?_
  unfold rdg at h
  rcases Nat.lt_or_ge c 128 with q | q
  · exact q
  · exfalso
    apply h
    rw [if_neg (show ¬ nI c < 48 from nI_nlt (b := 48) (by omega) (by omega)), if_pos (show 57 < nI c from nI_lt (a := 57) (by omega) (by omega))]
theorem zqI.numL (h : zqI Q K X0 n e) {t : Nat} (ht : t < e) (hk : K t = 3) : ∀ (m c : Nat) (y : Int32), c + m ≤ rmn X0 t → vno Q (nI t) m c y = rnoL X0 t m c y
  | 0, _, _, _ => rfl
  | m + 1, c, y, h1 => by
    have hn := h.1.2.2.1
    obtain ⟨f, l, t1, t2, t3, t4, t5, t6, t7, t8, t9, t10⟩ := h.2.2.2.1 t ht
    obtain ⟨l6, hd⟩ := t10 hk
    have e1 : rmn X0 t = l := by unfold rmn; rw [t7, nI_clamp (by omega)]
    have e3 : rfr X0 t = f := by unfold rfr; rw [t5, nI_clamp (by omega)]
    rw [e1] at h1
    obtain ⟨b, hb, b1, b2⟩ := h.1.2.2.2 (f + c) (by omega)
    have hq : Q 1 (f + c) = X0 1 (f + c) := by
      rw [b1, b2]
      exact rdg_lo hb (by rw [← b1]; exact hd _ (by omega) (by omega))
    rw [vno, rnoL, if_neg (show ¬ (6 : Int32) ≤ nI c from nI_ge (b := 6) (by omega) (by decide)), h.st (by omega), t5, nI_add, (zq_by h.1 (a := f + c) (by omega)).1, e3, hq, Int32.mul_comm]
    exact h.numL ht hk m (c + 1) _ (by rw [e1]; omega)
theorem zqI.num (h : zqI Q K X0 n e) {t : Nat} (ht : t < e) (hk : K t = 3) : vnum Q (nI t) = rnoL X0 t (rmn X0 t) 0 0 := by
  have hn := h.1.2.2.1
  obtain ⟨f, l, t1, t2, t3, t4, t5, t6, t7, t8, -⟩ := h.2.2.2.1 t ht
  have e1 : rmn X0 t = l := by unfold rmn; rw [t7, nI_clamp (by omega)]
  unfold vnum
  rw [h.sz ht, t7, nI_clamp (by omega), e1]
  exact h.numL ht hk l 0 0 (by omega)
/-- whether both see a kind -/
theorem zqI.is (h : zqI Q K X0 n e) {a : Nat} {P X : zFn} {M : zFn → Prop} (hJ : zqJ X0 e a P X M) : vko Q K (P 0 0) = K a ∧ (∀ c, c < 20 → (X 2 (zsf (X 0 3) 401) = kmap c ↔ K a = c)) ∧ (2 ≤ K a → a < e) := by
  obtain ⟨j1, j2, j3, j4, -⟩ := hJ
  have he := h.2.1
  obtain ⟨k1, k2, k3, k4⟩ := h.kd j3
  rw [j1, j2, zsf_nI (by omega) (by decide), j4.2.1, k2]
  exact ⟨k1, fun c hc => ⟨fun z => kmap_inj _ k3 c hc z, fun z => by rw [z]⟩, k4⟩
end ZQI
/-! names told ahead -/
def zfn (X : zFn) (t : Nat) : List Nat → Nat → Int32
  | [], _ => -1
  | j :: js, c => if rsa X j t = 0 then zfn X t js (c + 1) else nI c
/-- the tokens ahead of a place that have a role -/
def zrl_ (X : zFn) (y : Int32) (a : Nat) : List Nat := (List.range a).filter (fun j => X 5 j == y)
theorem rnmL_fn (X : zFn) (t : Nat) (y : Int32) : ∀ (m i c : Nat), rnmL X t y m i c = zfn X t ((List.range' i m).filter (fun j => X 5 j == y)) c
  | 0, _, _ => rfl
  | m + 1, i, c => by
    rw [rnmL, List.range'_succ, List.filter_cons]
    by_cases h : X 5 i = y
    · rw [if_pos h, if_pos (show (X 5 i == y) = true by simpa using h), zfn]
      rw [rnmL_fn X t y m (i + 1) (c + 1)]
    · rw [if_neg h, if_neg (show ¬ (X 5 i == y) = true by simpa using h), rnmL_fn X t y m (i + 1) c]
theorem rnm_fn (X : zFn) (t : Nat) (y : Int32) : rnmL X t y t 0 0 = zfn X t (zrl_ X y t) 0 := by
  rw [rnmL_fn, zrl_, List.range_eq_range']
theorem zrl_succ (X : zFn) (y : Int32) (a : Nat) : zrl_ X y (a + 1) = if X 5 a = y then zrl_ X y a ++ [a] else zrl_ X y a := by
  unfold zrl_
  rw [List.range_succ, List.filter_append]
  by_cases h : X 5 a = y
  · rw [if_pos h]; simp [h]
  · rw [if_neg h]; simp [h]
theorem zrl_cg {X X' : zFn} {a : Nat} (h : zqY a X X') (y : Int32) : zrl_ X' y a = zrl_ X y a := by
  unfold zrl_
  refine List.filter_congr (fun j hj => ?_)
  rw [h.2.2.2.2 j (List.mem_range.mp hj)]
theorem zrl_lt {X : zFn} {y : Int32} {a j : Nat} (h : j ∈ zrl_ X y a) : j < a := List.mem_range.mp (List.mem_filter.mp h).1
theorem zfn_cg {X X' : zFn} {a : Nat} (h : zqY a X X') (t : Nat) : ∀ (L : List Nat) (c : Nat), zfn X' t L c = zfn X t L c
  | [], _ => rfl
  | j :: js, c => by rw [zfn, zfn, rsa_cg h, zfn_cg h t js]
theorem zfn_in (X : zFn) (t : Nat) : ∀ (L : List Nat) (c : Nat), zfn X t L c = -1 ∨ ∃ i, c ≤ i ∧ i < c + L.length ∧ zfn X t L c = nI i
  | [], _ => Or.inl rfl
  | j :: js, c => by
    rw [zfn]
    split
    · rcases zfn_in X t js (c + 1) with h | ⟨i, h1, h2, h3⟩
      · exact Or.inl h
      · exact Or.inr ⟨i, by omega, by simp; omega, h3⟩
    · exact Or.inr ⟨c, Nat.le_refl _, by simp, rfl⟩
