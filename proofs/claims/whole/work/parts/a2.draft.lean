/-! WHAT IS READ, ON BOTH SIDES; spots and options -/
def zqcL (V : zV) (T : zFn) (i : Nat) : Prop := ∃ n, 1 ≤ n ∧ n ≤ 6 ∧ T 1 i = nI n ∧ V 1 i 0 = nI n ∧ V 1 i 3 = T 4 i ∧ zix (T 4 i) 21 ∧ (∀ j, j < n → V 5 i j = T 2 (6 * i + j) ∧ V 6 i j = T 3 (6 * i + j) ∧ zix (T 2 (6 * i + j)) 64 ∧ zix (T 3 (6 * i + j)) 64) ∧ V 1 i 1 = T 2 (6 * i) ∧ V 1 i 2 = T 3 (6 * i) ∧ V 1 i 4 = (if 1 < n then 1 else 0)
def zqcP (V : zV) (T : zFn) (b p : Nat) : Prop := V 2 p 0 = 0 ∧ V 2 p 1 = T 5 p ∧ V 2 p 2 = T 6 p ∧ V 2 p 3 = T 7 p ∧ V 2 p 4 = T 8 p ∧ zix (T 5 p) b ∧ zix (T 6 p) b ∧ zix (T 7 p) 21 ∧ zix (T 8 p) 21
def zqcH (V : zV) (T : zFn) (h : Nat) : Prop := V 3 h 0 = T 9 h ∧ V 3 h 1 = T 10 h ∧ V 3 h 2 = T 11 h ∧ V 3 h 3 = T 12 h ∧ V 3 h 4 = 0 ∧ V 3 h 5 = 0 ∧ zix (T 9 h) 64 ∧ zix (T 10 h) 64
def zqcS (V : zV) (T : zFn) (b k j : Nat) : Prop := ∃ z, z ≤ 20 ∧ T 15 (6 * k + j) = nI z ∧ V 7 k j = nI z ∧ ∀ i, i < z → V 8 k (20 * j + i) = T 16 (120 * k + 20 * j + i) ∧ zix (T 16 (120 * k + 20 * j + i)) b
def zqcK (V : zV) (T : zFn) (bl bp k : Nat) : Prop := V 4 k 1 = T 13 k ∧ zix (T 13 k) bl ∧ V 4 k 2 = 0 ∧ V 4 k 3 = 0 ∧ V 4 k 4 = 0 ∧ V 4 k 5 = -1 ∧ ∃ n, n ≤ 6 ∧ T 14 k = nI n ∧ V 4 k 0 = nI n ∧ ∀ j, j < n → zqcS V T bp k j
def zqC (V : zV) (T : zFn) (bl bp bh bk : Nat) : Prop := (∀ i, i < bl → zqcL V T i) ∧ (∀ p, p < bp → zqcP V T bl p) ∧ (∀ h, h < bh → zqcH V T h) ∧ ∀ k, k < bk → zqcK V T bl bp k
/-- what isn't told yet -/
def zqFr (T : zFn) (bl bk : Nat) : Prop := (∀ i, bl ≤ i → i < 6 → T 4 i = 0) ∧ ∀ k, bk ≤ k → k < 12 → T 14 k = 0 ∧ ∀ j, j < 6 → T 15 (6 * k + j) = 0
def zqTB (T : zFn) : Prop := (∀ p, p < 20 → zix (T 5 p) 6 ∧ zix (T 6 p) 6) ∧ (∀ i, i < 6 → zix (T 1 i) 7) ∧ (∀ k, k < 12 → zix (T 14 k) 7) ∧ (∀ i, i < 72 → zix (T 15 i) 21) ∧ ∀ i, i < 1440 → zix (T 16 i) 20
/-- beyond what is complete -/
def zqB (bl bp bh bk : Nat) (V U : zV) : Prop := ∀ q i f, ¬ (q = 0 ∨ ((q = 1 ∨ q = 5 ∨ q = 6) ∧ bl ≤ i) ∨ (q = 2 ∧ bp ≤ i) ∨ (q = 3 ∧ bh ≤ i) ∨ ((q = 4 ∨ q = 7 ∨ q = 8) ∧ bk ≤ i)) → U q i f = V q i f
def zqBT (bl bp bh bk : Nat) (T Z : zFn) : Prop := ∀ j k, ¬ (j = 0 ∨ ((j = 1 ∨ j = 4) ∧ bl ≤ k) ∨ ((j = 2 ∨ j = 3) ∧ 6 * bl ≤ k) ∨ ((5 ≤ j ∧ j ≤ 8) ∧ bp ≤ k) ∨ ((9 ≤ j ∧ j ≤ 12) ∧ bh ≤ k) ∨ ((j = 13 ∨ j = 14) ∧ bk ≤ k) ∨ (j = 15 ∧ 6 * bk ≤ k) ∨ (j = 16 ∧ 120 * bk ≤ k)) → Z j k = T j k
section ZQD
variable {bl bp bh bk : Nat} {V U W : zV} {T Z : zFn}
theorem zqB.rf : zqB bl bp bh bk V V := fun _ _ _ _ => rfl
theorem zqB.tr (h1 : zqB bl bp bh bk V U) (h2 : zqB bl bp bh bk U W) : zqB bl bp bh bk V W := fun q i f h => (h2 q i f h).trans (h1 q i f h)
theorem zqB.up (h : zqB bl bp bh bk V U) {q i f : Nat} {x : Int32} (hP : q = 0 ∨ ((q = 1 ∨ q = 5 ∨ q = 6) ∧ bl ≤ i) ∨ (q = 2 ∧ bp ≤ i) ∨ (q = 3 ∧ bh ≤ i) ∨ ((q = 4 ∨ q = 7 ∨ q = 8) ∧ bk ≤ i)) : zqB bl bp bh bk V (zvu U q i f x) := by
  intro q' i' f' h'
  rw [zvu_ne (by rintro ⟨rfl, rfl, -⟩; exact h' hP)]
  exact h q' i' f' h'
theorem zqBT.rf : zqBT bl bp bh bk T T := fun _ _ _ => rfl
theorem zqBT.up (h : zqBT bl bp bh bk T Z) {j k : Nat} {x : Int32} (hP : j = 0 ∨ ((j = 1 ∨ j = 4) ∧ bl ≤ k) ∨ ((j = 2 ∨ j = 3) ∧ 6 * bl ≤ k) ∨ ((5 ≤ j ∧ j ≤ 8) ∧ bp ≤ k) ∨ ((9 ≤ j ∧ j ≤ 12) ∧ bh ≤ k) ∨ ((j = 13 ∨ j = 14) ∧ bk ≤ k) ∨ (j = 15 ∧ 6 * bk ≤ k) ∨ (j = 16 ∧ 120 * bk ≤ k)) : zqBT bl bp bh bk T (zup Z j k x) := by
  intro j' k' h'
  rw [zup_ne (by rintro ⟨rfl, rfl⟩; exact h' hP)]
  exact h j' k' h'
theorem zqcL.fr (h : ∀ i, i < bl → zqcL V T i) (hV : zqB bl bp bh bk V U) (hT : zqBT bl bp bh bk T Z) : ∀ i, i < bl → zqcL U Z i := by
  intro i hi
  obtain ⟨n, a, b, c, e, f, g, j, k, l, m⟩ := h i hi
  refine ⟨n, a, b, by rw [hT 1 i (by omega), c], by rw [hV 1 i 0 (by omega), e], by rw [hV 1 i 3 (by omega), hT 4 i (by omega), f], by rw [hT 4 i (by omega)]; exact g, fun q hq => ?_, by rw [hV 1 i 1 (by omega), hT 2 _ (by omega), k], by rw [hV 1 i 2 (by omega), hT 3 _ (by omega), l], by rw [hV 1 i 4 (by omega), m]⟩
  rw [hV 5 i q (by omega), hV 6 i q (by omega), hT 2 _ (by omega), hT 3 _ (by omega)]
  exact j q hq
theorem zqC.fr (h : zqC V T bl bp bh bk) (hV : zqB bl bp bh bk V U) (hT : zqBT bl bp bh bk T Z) : zqC U Z bl bp bh bk := by
  obtain ⟨h1, h2, h3, h4⟩ := h
  refine ⟨zqcL.fr h1 hV hT, fun p hp => ?_, fun q hq => ?_, fun k hk => ?_⟩
  · unfold zqcP
    rw [hV 2 p 0 (by omega), hV 2 p 1 (by omega), hV 2 p 2 (by omega), hV 2 p 3 (by omega), hV 2 p 4 (by omega), hT 5 p (by omega), hT 6 p (by omega), hT 7 p (by omega), hT 8 p (by omega)]
    exact h2 p hp
  · unfold zqcH
    rw [hV 3 q 0 (by omega), hV 3 q 1 (by omega), hV 3 q 2 (by omega), hV 3 q 3 (by omega), hV 3 q 4 (by omega), hV 3 q 5 (by omega), hT 9 q (by omega), hT 10 q (by omega), hT 11 q (by omega), hT 12 q (by omega)]
    exact h3 q hq
  · obtain ⟨a1, a2, a3, a4, a5, a6, n, a7, a8, a9, a10⟩ := h4 k hk
    refine ⟨by rw [hV 4 k 1 (by omega), hT 13 k (by omega), a1], by rw [hT 13 k (by omega)]; exact a2, by rw [hV 4 k 2 (by omega), a3], by rw [hV 4 k 3 (by omega), a4], by rw [hV 4 k 4 (by omega), a5], by rw [hV 4 k 5 (by omega), a6], n, a7, by rw [hT 14 k (by omega), a8], by rw [hV 4 k 0 (by omega), a9], fun j hj => ?_⟩
    obtain ⟨z, b1, b2, b3, b4⟩ := a10 j hj
    refine ⟨z, b1, by rw [hT 15 _ (by omega), b2], by rw [hV 7 k j (by omega), b3], fun i hi => ?_⟩
    rw [hV 8 k _ (by omega), hT 16 _ (by omega)]
    exact b4 i hi
theorem zix.mono {x : Int32} {m n : Nat} (h : zix x m) (hmn : m ≤ n) (hn : n < 2 ^ 31) : zix x n := ⟨h.1, Int32.lt_of_lt_of_le h.2 (nI_le hmn hn)⟩
/-- one object more -/
theorem zqC.more (h : zqC V T bl bp bh bk) {bl2 bp2 bh2 bk2 : Nat} (l : bl ≤ bl2 ∧ bl2 < 100) (p : bp ≤ bp2 ∧ bp2 < 100) (hL : ∀ i, bl ≤ i → i < bl2 → zqcL V T i) (hP : ∀ i, bp ≤ i → i < bp2 → zqcP V T bl2 i) (hH : ∀ i, bh ≤ i → i < bh2 → zqcH V T i) (hK : ∀ i, bk ≤ i → i < bk2 → zqcK V T bl2 bp2 i) : zqC V T bl2 bp2 bh2 bk2 := by
  obtain ⟨h1, h2, h3, h4⟩ := h
  refine ⟨fun i hi => ?_, fun i hi => ?_, fun i hi => ?_, fun i hi => ?_⟩
  · rcases Nat.lt_or_ge i bl with q | q
    · exact h1 i q
    · exact hL i q hi
  · rcases Nat.lt_or_ge i bp with q | q
    · obtain ⟨a1, a2, a3, a4, a5, a6, a7, a8⟩ := h2 i q
      exact ⟨a1, a2, a3, a4, a5, a6.mono l.1 (by omega), a7.mono l.1 (by omega), a8⟩
    · exact hP i q hi
  · rcases Nat.lt_or_ge i bh with q | q
    · exact h3 i q
    · exact hH i q hi
  · rcases Nat.lt_or_ge i bk with q | q
    · obtain ⟨a1, a2, a3, a4, a5, a6, n, a7, a8, a9, a10⟩ := h4 i q
      refine ⟨a1, a2.mono l.1 (by omega), a3, a4, a5, a6, n, a7, a8, a9, fun j hj => ?_⟩
      obtain ⟨z, b1, b2, b3, b4⟩ := a10 j hj
      exact ⟨z, b1, b2, b3, fun c hc => ⟨(b4 c hc).1, (b4 c hc).2.mono p.1 (by omega)⟩⟩
    · exact hK i q hi
end ZQD
/-- counts -/
def zqCn (V : zV) (T : zFn) (nl np nh nk : Nat) : Prop := (V 0 0 0 = nI nl ∧ T 0 0 = nI nl ∧ nl ≤ 6) ∧ (V 0 0 1 = nI np ∧ T 0 1 = nI np ∧ np ≤ 20) ∧ (V 0 0 2 = nI nh ∧ T 0 2 = nI nh ∧ nh ≤ 6) ∧ V 0 0 3 = nI nk ∧ T 0 3 = nI nk ∧ nk ≤ 12
def zqN3 (P X : zFn) (a nl np nk : Nat) : Prop := zqNm P X 1 nl a ∧ zqNm P X 2 np a ∧ zqNm P X 3 nk a
/-- between two lines -/
def zqMB (V : zV) (P X : zFn) (a nl np nh nk : Nat) (T : zFn) : Prop := zqCn V T nl np nh nk ∧ zqN3 P X a nl np nk ∧ zqC V T nl np nh nk ∧ zqFr T nl nk ∧ zqTB T
/-- kept names go on -/
def zqNK (P X : zFn) (a : Nat) (P' X' : zFn) (b : Nat) : Prop := ∀ y m, 1 ≤ y → y ≤ 3 → zqNm P X y m a → zqNm P' X' y m b
theorem zqNK.tr {P X P' X' P2 X2 : zFn} {a b c : Nat} (h1 : zqNK P X a P' X' b) (h2 : zqNK P' X' b P2 X2 c) : zqNK P X a P2 X2 c := fun y m a1 a2 h => h2 y m a1 a2 (h1 y m a1 a2 h)
theorem zqNK.rf {P X : zFn} {a : Nat} : zqNK P X a P X a := fun _ _ _ _ h => h
theorem zqNK.n3 {P X P' X' : zFn} {a b nl np nk : Nat} (h : zqNK P X a P' X' b) (hn : zqN3 P X a nl np nk) : zqN3 P' X' b nl np nk := ⟨h 1 _ (by decide) (by decide) hn.1, h 2 _ (by decide) (by decide) hn.2.1, h 3 _ (by decide) (by decide) hn.2.2⟩
theorem zqNK.pp {P X P' : zFn} {a : Nat} (h : ∀ j k, 0 < j → P' j k = P j k) : zqNK P X a P' X a := fun y m a1 a2 hN => ⟨hN.1, fun i hi => by rw [h y i (by omega)]; exact hN.2 i hi⟩
theorem zqJ.nk {X0 P X P' : zFn} {e a : Nat} {M : zFn → Prop} (hJ : zqJ X0 e a P X M) (ha : a < e) (he : e ≤ 400) {z : Int32} (hz : z = 0 ∨ 3 < z) (hP : ∀ j k, 0 < j → P' j k = P j k) : zqNK P X a P' (xas X z) (a + 1) ∧ (z = 0 → zqNK P X a P' (xat X) (a + 1)) := by
  have h3 := hJ.2.1
  have hne : ∀ y, 1 ≤ y → y ≤ 3 → z ≠ nI y := by
    intro y h1 h2 e
    have hc : y = 1 ∨ y = 2 ∨ y = 3 := by omega
    subst e
    rcases hz with hz | hz
    · exact nI_ne0 (by omega) (by omega) hz
    · rcases hc with rfl | rfl | rfl <;> exact absurd hz (by decide)
  refine ⟨fun y m h1 h2 h => h.keep (xas_Y h3 (by omega)) (by rw [xas_5 h3 (by omega)]; exact hne y h1 h2) (fun i => hP y i (by omega)), fun e => fun y m h1 h2 h => h.keep (xat_Y h3).1 ?_ (fun i => hP y i (by omega))⟩
  rw [(xat_Y h3).2, hJ.2.2.2.2.1 a (Nat.le_refl _) (by omega), ← e]
  exact hne y h1 h2
theorem zqJ.nkt {X0 P X : zFn} {e a : Nat} {M : zFn → Prop} (hJ : zqJ X0 e a P X M) (ha : a < e) (he : e ≤ 400) : zqNK P X a (vat P) (xat X) (a + 1) := (hJ.nk (z := 0) ha he (Or.inl rfl) (fun j k h => (vat_r (P := P)).1 j k h)).2 rfl
/-- both stand at one place -/
def zqFl (e : Nat) (P X : zFn) : Prop := ∃ b, b ≤ e ∧ P 0 0 = nI b ∧ X 0 3 = nI b
theorem zqJ.fl {X0 P X : zFn} {e a : Nat} {M : zFn → Prop} (h : zqJ X0 e a P X M) : zqFl e P X := ⟨a, h.2.2.1, h.1, h.2.1⟩
/-- a number that a role keeps in a row -/
def zqZ (X0 : zFn) (M : zFn → Prop) (z : Int32) (j ix : Nat) (lo hi : Int32) : Prop := ∀ T, M T → ∀ X' t, zqY 0 X0 X' → X' 5 t = z → X' 2 t = 21 → zOK X' t T ∧ zstp X' t T = rke T j ix (rnoL X0 t (rmn X0 t) 0 0) lo hi
section ZQS
variable {Q : zFn} {K : zKn} {X0 P X : zFn} {n e a : Nat} {M : zFn → Prop}
theorem zq_numz (h : zqI Q K X0 n e) (hJ : zqJ X0 e a P X M) (ha : a < e) (hk : K a = 3) {z lo hi : Int32} {j ix : Nat} (hz : zqZ X0 M z j ix lo hi) (h3 : 3 < z) : zqJ X0 e (a + 1) (vrn P Q lo hi) (xas X z) (fun T' => ∃ T, M T ∧ rin (vrn P Q lo hi 0 3) lo hi ≠ 0 ∧ T' = zup T j ix (vrn P Q lo hi 0 3)) ∧ zqNK P X a (vrn P Q lo hi) (xas X z) (a + 1) ∧ ∀ k, 3 < k → vrn P Q lo hi 0 k = P 0 k := by
  have he := h.2.1
  have hY := xas_Y (z := z) hJ.2.1 (show a < 401 by omega)
  have hY0 := hJ.2.2.2.1.tr0 hY
  obtain ⟨v0, v1, v2, v3, v4, v5⟩ := vrn_r (lo := lo) (hi := hi) h hJ.1 ha hk
  refine ⟨zq_num (j := j) (ix := ix) h hJ ha hk (fun T hT => ?_), (hJ.nk ha he (Or.inr h3) v1).1, v3⟩
  obtain ⟨b1, b2⟩ := hz T hT (xas X z) a hY0 (xas_5 hJ.2.1 (by omega)) (by rw [hY0.2.1, (h.kd (show a ≤ e by omega)).2.1, hk]; rfl)
  exact ⟨b1, b2, fun c => ⟨T, hT, c, rfl⟩⟩
theorem zq_spot (h : zqI Q K X0 n e) (hJ : zqJ X0 e a P X M) {z : Int32} {j ix : Nat} (h3 : 3 < z) (h4 : 3 < z + 1) (hz : zqZ X0 M z j ix 0 63) (hz2 : ∀ v, zqZ X0 (fun T' => ∃ T, M T ∧ rin v 0 63 ≠ 0 ∧ T' = zup T j ix v) (z + 1) (j + 1) ix 0 63) : (vrs P Q K).1 = (rsp X z).1 ∧ (((vrs P Q K).1 = 0 ∧ zqFl e (vrs P Q K).2 (rsp X z).2) ∨ ((vrs P Q K).1 = 1 ∧ zqJ X0 e (a + 3) (vrs P Q K).2 (rsp X z).2 (fun T' => ∃ T, M T ∧ rin ((vrs P Q K).2 0 4) 0 63 ≠ 0 ∧ rin ((vrs P Q K).2 0 5) 0 63 ≠ 0 ∧ T' = zup (zup T j ix ((vrs P Q K).2 0 4)) (j + 1) ix ((vrs P Q K).2 0 5)) ∧ zqNK P X a (vrs P Q K).2 (rsp X z).2 (a + 3))) := by
  have he := h.2.1
  obtain ⟨k1, k2, k3⟩ := h.is hJ
  unfold vrs rsp
  have k21 : X 2 (zsf (X 0 3) 401) = 21 ↔ K a = 3 := k2 3 (by decide)
  rw [k1]
  by_cases c1 : K a = 3
  · rw [if_pos c1, if_pos (k21.mpr c1)]
    obtain ⟨J1, N1, E1⟩ := zq_numz h hJ (k3 (by omega)) c1 hz h3
    dsimp only
    obtain ⟨P2, hP2⟩ : ∃ P2, zup (vrn P Q 0 63) 0 4 (vrn P Q 0 63 0 3) = P2 := ⟨_, rfl⟩
    rw [hP2]
    have r2 : ∀ j k, 0 < j → P2 j k = vrn P Q 0 63 j k := fun j k hj => by rw [← hP2, zup_ne (by omega)]
    have J2 := J1.pp (P' := P2) (by rw [← hP2, zup_ne (by omega)]) (by rw [← hP2, zup_ne (by omega)]) (by rw [← hP2, zup_ne (by omega)])
    have N2 := N1.tr (zqNK.pp r2)
    have e4 : P2 0 4 = vrn P Q 0 63 0 3 := by rw [← hP2, zup_same]
    rw [← e4] at J2
    obtain ⟨m1, m2, m3⟩ := h.is J2
    have m22 : xas X z 2 (zsf (xas X z 0 3) 401) = 22 ↔ K (a + 1) = 4 := m2 4 (by decide)
    rw [m1]
    by_cases c2 : K (a + 1) = 4
    · rw [if_pos c2, if_pos (m22.mpr c2)]
      have J3 := J2.at (m3 (by omega))
      have N3 := N2.tr (J2.nkt (m3 (by omega)) he)
      obtain ⟨w1, w2, w3⟩ := h.is J3
      have w21 : xat (xas X z) 2 (zsf (xat (xas X z) 0 3) 401) = 21 ↔ K (a + 1 + 1) = 3 := w2 3 (by decide)
      rw [w1]
      by_cases c3 : K (a + 1 + 1) = 3
      · rw [if_pos c3, if_pos (w21.mpr c3)]
        refine ⟨rfl, Or.inr ⟨rfl, ?_, ?_⟩⟩
        all_goals obtain ⟨J4, N4, E4⟩ := zq_numz h J3 (w3 (by omega)) c3 (hz2 (P2 0 4)) h4
        all_goals obtain ⟨P5, hP5⟩ : ∃ P5, zup (vrn (vat P2) Q 0 63) 0 5 (vrn (vat P2) Q 0 63 0 3) = P5 := ⟨_, rfl⟩
        all_goals rw [hP5]
        all_goals have r5 : ∀ j k, 0 < j → P5 j k = vrn (vat P2) Q 0 63 j k := fun j k hj => by rw [← hP5, zup_ne (by omega)]
        · have J5 := J4.pp (P' := P5) (by rw [← hP5, zup_ne (by omega)]) (by rw [← hP5, zup_ne (by omega)]) (by rw [← hP5, zup_ne (by omega)])
          have e5 : P5 0 5 = vrn (vat P2) Q 0 63 0 3 := by rw [← hP5, zup_same]
          have e45 : P5 0 4 = P2 0 4 := by rw [← hP5, zup_ne (by omega), E4 4 (by decide), (vat_r (P := P2)).2 4 (by decide)]
          refine J5.imp (fun _ T' hT' => ?_)
          obtain ⟨T1, ⟨T, hT, q1, q2⟩, q3, q4⟩ := hT'
          refine ⟨T, hT, by show rin (P5 0 4) 0 63 ≠ 0; rw [e45]; exact q1, by show rin (P5 0 5) 0 63 ≠ 0; rw [e5]; exact q3, by show T' = zup (zup T j ix (P5 0 4)) (j + 1) ix (P5 0 5); rw [q4, q2, e45, e5]⟩
        · exact (N3.tr N4).tr (zqNK.pp r5)
      · rw [if_neg c3, if_neg (fun q => c3 (w21.mp q))]
        exact ⟨rfl, Or.inl ⟨rfl, J3.fl⟩⟩
    · rw [if_neg c2, if_neg (fun q => c2 (m22.mp q))]
      exact ⟨rfl, Or.inl ⟨rfl, J2.fl⟩⟩
  · rw [if_neg c1, if_neg (fun q => c1 (k21.mp q))]
    exact ⟨rfl, Or.inl ⟨rfl, hJ.fl⟩⟩
theorem zq_opt (h : zqI Q K X0 n e) (hJ : zqJ X0 e a P X M) {q : Nat} (hq : 2 ≤ q ∧ q < 20) {qk z lo hi w : Int32} {j ix : Nat} (hqk : qk = kmap q) (h3 : 3 < z) (hz : zqZ X0 M z j ix lo hi) : (vro P Q K q lo hi w).1 = (rop X qk z).1 ∧ (((vro P Q K q lo hi w).1 = 0 ∧ zqFl e (vro P Q K q lo hi w).2 (rop X qk z).2) ∨ ((vro P Q K q lo hi w).1 = 1 ∧ ∃ b, a ≤ b ∧ zqJ X0 e b (vro P Q K q lo hi w).2 (rop X qk z).2 (fun T' => ∃ T, M T ∧ ((rin ((vro P Q K q lo hi w).2 0 3) lo hi ≠ 0 ∧ T' = zup T j ix ((vro P Q K q lo hi w).2 0 3)) ∨ (T' = T ∧ (vro P Q K q lo hi w).2 0 3 = w))) ∧ zqNK P X a (vro P Q K q lo hi w).2 (rop X qk z).2 b)) := by
  have he := h.2.1
  subst hqk
  obtain ⟨k1, k2, k3⟩ := h.is hJ
  unfold vro rop
  rw [k1]
  by_cases c1 : K a = q
  · rw [if_pos c1, if_pos ((k2 q hq.2).mpr c1)]
    have J1 := hJ.at (k3 (by omega))
    have N1 := hJ.nkt (k3 (by omega)) he
    obtain ⟨m1, m2, m3⟩ := h.is J1
    have m21 : xat X 2 (zsf (xat X 0 3) 401) = 21 ↔ K (a + 1) = 3 := m2 3 (by decide)
    dsimp only
    rw [m1]
    by_cases c2 : K (a + 1) = 3
    · rw [if_pos c2, if_pos (m21.mpr c2)]
      obtain ⟨J2, N2, -⟩ := zq_numz h J1 (m3 (by omega)) c2 hz h3
      refine ⟨rfl, Or.inr ⟨rfl, a + 1 + 1, by omega, J2.imp (fun _ T' hT' => ?_), N1.tr N2⟩⟩
      obtain ⟨T, hT, q1, q2⟩ := hT'
      exact ⟨T, hT, Or.inl ⟨q1, q2⟩⟩
    · rw [if_neg c2, if_neg (fun q => c2 (m21.mp q))]
      exact ⟨rfl, Or.inl ⟨rfl, J1.fl⟩⟩
  · rw [if_neg c1, if_neg (fun q' => c1 ((k2 q hq.2).mp q'))]
    refine ⟨rfl, Or.inr ⟨rfl, a, Nat.le_refl _, ?_, zqNK.pp (fun j k hj => by simp [zup]; omega)⟩⟩
    refine (hJ.pp (P' := zup P 0 3 w) (by rw [zup_ne (by omega)]) (by rw [zup_ne (by omega)]) (by rw [zup_ne (by omega)])).imp (fun _ T hT => ⟨T, hT, Or.inr ⟨rfl, by show zup P 0 3 w 0 3 = w; rw [zup_same]⟩⟩)
end ZQS
