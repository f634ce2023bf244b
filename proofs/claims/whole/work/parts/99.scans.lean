/-! THE TOKENS ON BOTH SIDES -/
def zqb (q x : Int32) : Prop := ∃ c : Nat, c < 256 ∧ x = nI c ∧ q = (nI c).toInt8.toInt32
def zqTp (Q X : zFn) (n : Nat) : Prop := Q 0 0 = nI n ∧ X 0 1 = nI n ∧ n ≤ 2000 ∧ ∀ a, a < n → zqb (Q 1 a) (X 1 a)
theorem zqb_lo : ∀ c, c < 128 → (nI c).toInt8.toInt32 = nI c := by decide +kernel
theorem zqb_hi : ∀ c, c < 128 → (nI (c + 128)).toInt8.toInt32 < 0 := by decide +kernel
theorem zqb_inj : ∀ c, c < 256 → (nI c).toInt8.toInt32 &&& 255 = nI c := by decide +kernel
theorem zqb_all : ∀ c, c < 256 → visl (nI c).toInt8.toInt32 = rsm (nI c) ∧ visd (nI c).toInt8.toInt32 = rdg (nI c) := by decide +kernel
/-- a character below 128 -/
theorem zqb_eq {q x w : Int32} (h : zqb q x) {b : Nat} (hb : b < 128) (hw : w = nI b) : q = w ↔ x = w := by
  obtain ⟨c, hc, rfl, rfl⟩ := h
  subst hw
  rcases Nat.lt_or_ge c 128 with h | h
  · rw [zqb_lo c h]
  · have h1 := zqb_hi (c - 128) (by omega)
    rw [show c - 128 + 128 = c by omega] at h1
    constructor
    · intro e
      rw [e] at h1
      exact absurd h1 (nI_pos (by omega))
    · intro e
      have := (nI_eq (by omega) (by omega)).mp e
      omega
def zqc (q x : Int32) : Prop := zqb q x ∨ (q = 0 ∧ x = -1)
theorem zqc_is {q x : Int32} (h : zqc q x) : visl q = rsm x ∧ visd q = rdg x := by
  rcases h with ⟨c, hc, rfl, rfl⟩ | ⟨rfl, rfl⟩
  · exact zqb_all c hc
  · decide
theorem zqc_eq {q x w : Int32} (h : zqc q x) {b : Nat} (hb : b < 128) (h0 : 0 < b) (hw : w = nI b) : q = w ↔ x = w := by
  rcases h with h | ⟨rfl, rfl⟩
  · exact zqb_eq h hb hw
  · subst hw
    constructor
    · intro e
      exact absurd e.symm (nI_ne0 h0 (by omega))
    · intro e
      exact absurd (show nI b < 0 by rw [← e]; decide) (nI_pos (by omega))
section ZQT
variable {Q X : zFn} {n : Nat}
theorem zq_by (h : zqTp Q X n) {a : Nat} (ha : a < n) : vby Q (nI a) = Q 1 a ∧ rby X a = X 1 a := by
  obtain ⟨h1, h2, h3, h4⟩ := h
  unfold vby rby
  rw [h1, h2, if_neg (nI_pos (by omega)), if_neg (nI_ge ha (by omega)), if_neg (nI_ge (by omega) (by omega)), if_neg (nI_ge ha (by omega)), zsf_nI (by omega) (by decide)]
  exact ⟨rfl, rfl⟩
theorem zq_c (h : zqTp Q X n) {a : Nat} (ha : a ≤ n) : zqc (vby Q (nI a)) (rby X a) := by
  rcases Nat.lt_or_ge a n with h1 | h1
  · rw [(zq_by h h1).1, (zq_by h h1).2]
    exact Or.inl (h.2.2.2 a h1)
  · obtain ⟨h2, h3, h4, h5⟩ := h
    unfold vby rby
    rw [h2, h3, if_neg (nI_pos (by omega)), if_pos (nI_le h1 (by omega)), if_pos (nI_le h1 (by omega))]
    exact Or.inr ⟨rfl, rfl⟩
theorem zq_bb (h : zqTp Q X n) : ∀ (m i : Nat), i + m ≤ n → vbb Q m i = rbb X m i
  | 0, _, _ => rfl
  | m + 1, i, hi => by
    have hc := zq_c h (a := i) (by omega)
    have e1 := zqc_eq hc (b := 32) (by decide) (by decide) rfl
    have e2 := zqc_eq hc (b := 10) (by decide) (by decide) rfl
    have e1 : vby Q (nI i) = 32 ↔ rby X i = 32 := e1
    have e2 : vby Q (nI i) = 10 ↔ rby X i = 10 := e2
    rw [vbb, rbb, zq_bb h m (i + 1) (by omega)]
    by_cases c1 : rby X i = 32
    · rw [if_pos c1, if_pos (e1.mpr c1)]
    · rw [if_neg c1, if_neg (fun q => c1 (e1.mp q))]
      by_cases c2 : rby X i = 10
      · rw [if_pos c2, if_pos (e2.mpr c2)]
      · rw [if_neg c2, if_neg (fun q => c2 (e2.mp q))]
theorem zq_e1 (h : zqTp Q X n) : ∀ (m i : Nat), i + m ≤ n → vea1 Q m i = re1 X m i
  | 0, _, _ => rfl
  | m + 1, i, hi => by
    obtain ⟨e1, e2⟩ := zqc_is (zq_c h (a := i) (by omega))
    rw [vea1, re1, zq_e1 h m (i + 1) (by omega), e1, e2]
theorem zq_e2 (h : zqTp Q X n) : ∀ (m i : Nat), i + m ≤ n → vea2 Q m i = re2 X m i
  | 0, _, _ => rfl
  | m + 1, i, hi => by
    obtain ⟨e1, e2⟩ := zqc_is (zq_c h (a := i) (by omega))
    rw [vea2, re2, zq_e2 h m (i + 1) (by omega), e2]
theorem zq_ea (h : zqTp Q X n) {a : Nat} (ha : a < n) : vea Q n a = rea X n a := by
  obtain ⟨e1, e2⟩ := zqc_is (zq_c h (a := a) (by omega))
  unfold vea rea
  rw [e1, e2, zq_e1 h _ _ (by omega), zq_e2 h _ _ (by omega)]
/-! words -/
theorem zqw_6 : ∀ i, i < 6 → zkn i = 0 := by decide +kernel
theorem zqw_n : ∀ i, i < 14 → zkn (6 + i) = zmn i ∧ zmn i < 100 := by decide +kernel
theorem zqw_c : ∀ i, i < 14 → ∀ j, j < zmn i → zkc (6 + i) j = zmc i j ∧ zmc i j = nI (zmc i j).toNatClampNeg ∧ (zmc i j).toNatClampNeg < 128 := by decide +kernel
theorem rwd1_0 (X : zFn) (k a : Nat) (m i : Nat) : rwd1 X k a m i 0 = 0 := by
  cases m with
  | zero => rw [rwd1, if_pos rfl]
  | succ m => rw [rwd1, if_pos rfl]
theorem zq_sp (h : zqTp Q X n) {k a : Nat} (hk : k < 14) : ∀ (m i : Nat), a + (i + m) ≤ n → i + m ≤ zmn k → vspL Q (zkc (6 + k)) (nI a) m i = rwd1 X k a m i 1
  | 0, _, _, _ => rfl
  | m + 1, i, hi, hz => by
    obtain ⟨w1, w2, w3⟩ := zqw_c k hk i (by omega)
    have hb := h.2.2.2 (a + i) (by omega)
    have e := zqb_eq hb w3 w2
    rw [vspL, rwd1, nI_add, (zq_by h (a := a + i) (by omega)).1, w1, if_neg (show ¬ (1 : Int32) = 0 by decide)]
    by_cases c : zmc k i = X 1 (a + i)
    · rw [if_pos c, if_pos (e.mpr c.symm).symm]
      exact zq_sp h hk m (i + 1) (by omega) (by omega)
    · rw [if_neg c, if_neg (fun q => c (e.mp q.symm).symm), rwd1_0]
theorem rwd1_b (X : zFn) (k a : Nat) : ∀ (m i : Nat), rwd1 X k a m i 1 = 0 ∨ rwd1 X k a m i 1 = 1
  | 0, i => Or.inr (by rw [rwd1, if_neg (by decide)])
  | m + 1, i => by
    rw [rwd1, if_neg (by decide)]
    split
    · exact rwd1_b X k a m (i + 1)
    · exact Or.inl (rwd1_0 _ _ _ _ _)
theorem zq_wd (h : zqTp Q X n) {a l : Nat} (ha : a + l ≤ n) : ∀ (m i : Nat), i + m = 14 → vkwL Q (nI a) (nI l) m (6 + i) = if rwd X a l m i = 20 then 2 else 6 + rwd X a l m i
  | 0, i, _ => by rw [vkwL, rwd, if_pos rfl]
  | m + 1, i, hi => by
    obtain ⟨w1, w2⟩ := zqw_n i (by omega)
    have hn := h.2.2.1
    have IH := zq_wd h ha m (i + 1) (by omega)
    rw [show 6 + (i + 1) = 6 + i + 1 by omega] at IH
    rw [vkwL, rwd, w1]
    unfold vsp
    by_cases c : nI (zmn i) = nI l
    · rw [if_pos c, if_pos c]
      have c2 : zmn i = l := (nI_eq (by omega) (by omega)).mp c
      rw [c2, zq_sp h (by omega) l 0 (by omega) (by omega)]
      by_cases c3 : rwd1 X i a l 0 1 = 0
      · rw [if_pos c3, if_pos c3]
        exact IH
      · rw [if_neg c3, if_neg c3, if_neg (by omega)]
    · rw [if_neg c, if_neg c, if_pos rfl, if_pos (rwd1_0 _ _ _ _ _)]
      exact IH
theorem zq_w6 {x : Int32} {l : Nat} (h0 : 0 < l) (hl : l < 2 ^ 31) : ∀ (m i d : Nat), i + d = 6 → vkwL Q x (nI l) (m + d) i = vkwL Q x (nI l) m 6
  | m, i, 0, hi => by rw [show i = 6 by omega]; rfl
  | m, i, d + 1, hi => by
    rw [show m + (d + 1) = (m + d) + 1 by omega, vkwL]
    unfold vsp
    rw [zqw_6 i (by omega), if_neg (show ¬ nI 0 = nI l from fun e => absurd e.symm (nI_ne0 h0 hl)), if_pos rfl]
    exact zq_w6 h0 hl m (i + 1) d (by omega)
end ZQT
def kmap (c : Nat) : Int32 := if c = 0 then 30 else if c = 1 then 31 else if c = 2 then 20 else if c = 3 then 21 else if c = 4 then 22 else if c = 5 then 23 else nI (c - 6)
theorem kmap_inj : ∀ c, c < 20 → ∀ b, b < 20 → kmap c = kmap b → c = b := by decide +kernel
theorem rwd_lt (X : zFn) (a l : Nat) : ∀ (m i : Nat), i + m = 14 → rwd X a l m i < 14 ∨ rwd X a l m i = 20
  | 0, _, _ => Or.inr rfl
  | m + 1, i, hi => by
    rw [rwd]
    split
    · split
      · exact rwd_lt X a l m (i + 1) (by omega)
      · exact Or.inl (by omega)
    · split
      · exact rwd_lt X a l m (i + 1) (by omega)
      · exact Or.inl (by omega)
theorem kmap_w : ∀ r, r < 14 → kmap (6 + r) = nI r := by decide +kernel
theorem zq_kind {Q X : zFn} {n : Nat} (h : zqTp Q X n) {a : Nat} (ha : a ≤ n) : kmap (vka Q n a) = rkd X a (rby X a) (rea X n a) := by
  have hc := zq_c h ha
  have hn := h.2.2.1
  obtain ⟨e1, e2⟩ := zqc_is hc
  unfold vka rkd
  rw [h.1]
  rcases Nat.lt_or_ge a n with q | q
  · have hg := vea_ge Q q
    rw [if_pos (nI_lt q (by omega)), ← zq_ea h q, e1, e2]
    by_cases c1 : rsm (rby X a) = 0
    · rw [if_pos c1, if_pos c1]
      by_cases c2 : rdg (rby X a) = 0
      · rw [if_pos c2, if_pos c2]
        have e3 : vby Q (nI a) = 44 ↔ rby X a = 44 := zqc_eq hc (b := 44) (by decide) (by decide) rfl
        have e4 : vby Q (nI a) = 59 ↔ rby X a = 59 := zqc_eq hc (b := 59) (by decide) (by decide) rfl
        by_cases c3 : rby X a = 44
        · rw [if_pos c3, if_pos (e3.mpr c3)]; rfl
        · rw [if_neg c3, if_neg (fun z => c3 (e3.mp z))]
          by_cases c4 : rby X a = 59
          · rw [if_pos c4, if_pos (e4.mpr c4)]; rfl
          · rw [if_neg c4, if_neg (fun z => c4 (e4.mp z)), if_neg]
            · rfl
            · intro z
              rw [(zq_by h q).2] at z
              obtain ⟨c, hc, e, -⟩ := h.2.2.2 a q
              rw [e] at z
              exact absurd (show nI c < 0 by rw [z]; decide) (nI_pos (by omega))
      · rw [if_neg c2, if_neg c2]
        split <;> rfl
    · rw [if_neg c1, if_neg c1]
      by_cases c2 : nI (vea Q n a - a) ≤ 10
      · rw [if_pos c2, if_pos c2]
        rw [zq_w6 (by omega) (by omega) 14 0 6 rfl, zq_wd h (by omega) 14 0 rfl]
        rcases rwd_lt X a (vea Q n a - a) 14 0 rfl with z | z
        · rw [if_neg (by omega), kmap_w _ z]
        · rw [if_pos z, z]
          rfl
      · rw [if_neg c2, if_neg c2]; rfl
  · have he : a = n := by omega
    have hb : rby X a = -1 := by
      unfold rby
      rw [h.2.1, if_pos (nI_le q (by omega))]
    rw [if_neg (nI_nlt q (by omega)), hb, if_pos (by decide), if_pos (by decide), if_neg (by decide), if_neg (by decide), if_pos rfl]
    rfl
/-- the digits of a number -/
theorem re2_dig (X : zFn) : ∀ (m i j : Nat), i ≤ j → j < re2 X m i → rdg (rby X j) ≠ 0
  | 0, i, j, h1, h2 => by rw [re2] at h2; omega
  | m + 1, i, j, h1, h2 => by
    rw [re2] at h2
    by_cases c : rdg (rby X i) = 0
    · rw [if_pos c] at h2; omega
    · rw [if_neg c] at h2
      by_cases e : j = i
      · subst e; exact c
      · exact re2_dig X m (i + 1) j (by omega) h2
theorem zq_dig {Q X : zFn} {n : Nat} (h : zqTp Q X n) {a : Nat} (ha : a ≤ n) (hk : vka Q n a = 3) : a < n ∧ rea X n a ≤ n ∧ rea X n a - a ≤ 6 ∧ ∀ j, a ≤ j → j < rea X n a → rdg (X 1 j) ≠ 0 := by
  have hn := h.2.2.1
  have hq : a < n := by
    rcases Nat.lt_or_ge a n with q | q
    · exact q
    · unfold vka at hk
      rw [h.1, if_neg (nI_nlt q (by omega))] at hk
      exact absurd hk (by decide)
  have hg := rea_ge X (n := n) (a := a)
  have hle := hg.2 hq
  obtain ⟨e1, e2⟩ := zqc_is (zq_c h ha)
  have hk2 := zq_kind h ha
  rw [hk, show kmap 3 = 21 from rfl] at hk2
  unfold rkd at hk2
  by_cases c1 : rsm (rby X a) = 0
  · rw [if_pos c1] at hk2
    by_cases c2 : rdg (rby X a) = 0
    · rw [if_pos c2] at hk2
      exfalso
      revert hk2
      repeat' split
      all_goals decide
    · rw [if_neg c2] at hk2
      by_cases c3 : nI (rea X n a - a) ≤ 6
      · refine ⟨hq, hle, (nI_leI (b := 6) (by omega) (by decide)).mp c3, fun j h1 h2 => ?_⟩
        have hj : rby X j = X 1 j := (zq_by h (a := j) (by omega)).2
        unfold rea at h2
        rw [if_pos c1, if_neg c2] at h2
        rw [← hj]
        by_cases e : j = a
        · subst e; exact c2
        · exact re2_dig X _ _ j (by omega) h2
      · rw [if_neg c3] at hk2
        exact absurd hk2 (by decide)
  · rw [if_neg c1] at hk2
    exfalso
    by_cases c3 : nI (rea X n a - a) ≤ 10
    · rw [if_pos c3] at hk2
      rcases rwd_lt X a (rea X n a - a) 14 0 rfl with z | z
      · have := (nI_eq (b := 21) (by omega) (by decide)).mp hk2.symm
        omega
      · rw [z] at hk2
        exact absurd hk2 (by decide)
    · rw [if_neg c3] at hk2
      exact absurd hk2 (by decide)
/-! all tokens -/
def zqTk (Q : zFn) (K : zKn) (X : zFn) (n j : Nat) : Prop := ∃ f l, 2 ≤ K j ∧ K j < 20 ∧ X 2 j = kmap (K j) ∧ Q 3 j = nI f ∧ X 3 j = nI f ∧ Q 4 j = nI l ∧ X 4 j = nI l ∧ f + l ≤ n ∧ X 5 j = 0 ∧ (K j = 3 → l ≤ 6 ∧ ∀ i, f ≤ i → i < f + l → rdg (X 1 i) ≠ 0)
def zqTe (Q : zFn) (K : zKn) (X : zFn) (n e : Nat) : Prop := ∃ f, K e < 2 ∧ X 2 e = kmap (K e) ∧ Q 3 e = nI f ∧ X 3 e = nI f ∧ f ≤ n ∧ X 5 e = 0
theorem zqTp.up {Q X : zFn} {n : Nat} (h : zqTp Q X n) {Q' X' : zFn} (h1 : Q' 0 0 = Q 0 0) (h2 : ∀ a, Q' 1 a = Q 1 a) (h3 : X' 0 1 = X 0 1) (h4 : ∀ a, X' 1 a = X 1 a) : zqTp Q' X' n :=
  ⟨h1.trans h.1, h3.trans h.2.1, h.2.2.1, fun a ha => by rw [h2, h4]; exact h.2.2.2 a ha⟩
/-- what stands ahead of a place stays -/
def zqU (i : Nat) (Q : zFn) (K : zKn) (X : zFn) (Q' : zFn) (K' : zKn) (X' : zFn) : Prop := Q' 0 0 = Q 0 0 ∧ (∀ a, Q' 1 a = Q 1 a) ∧ (∀ a, X' 0 a = X 0 a) ∧ (∀ a, X' 1 a = X 1 a) ∧ ∀ j, j < i → K' j = K j ∧ Q' 3 j = Q 3 j ∧ Q' 4 j = Q 4 j ∧ X' 2 j = X 2 j ∧ X' 3 j = X 3 j ∧ X' 4 j = X 4 j ∧ X' 5 j = X 5 j
theorem zqU.tr {i : Nat} {Q Q' Q2 : zFn} {K K' K2 : zKn} {X X' X2 : zFn} (h1 : zqU i Q K X Q' K' X') (h2 : zqU (i + 1) Q' K' X' Q2 K2 X2) : zqU i Q K X Q2 K2 X2 := by
  obtain ⟨a1, a2, a3, a4, a5⟩ := h1
  obtain ⟨b1, b2, b3, b4, b5⟩ := h2
  refine ⟨b1.trans a1, fun a => (b2 a).trans (a2 a), fun a => (b3 a).trans (a3 a), fun a => (b4 a).trans (a4 a), fun j hj => ?_⟩
  obtain ⟨c1, c2, c3, c4, c5, c6, c7⟩ := a5 j hj
  obtain ⟨d1, d2, d3, d4, d5, d6, d7⟩ := b5 j (by omega)
  exact ⟨d1.trans c1, d2.trans c2, d3.trans c3, d4.trans c4, d5.trans c5, d6.trans c6, d7.trans c7⟩
theorem zqTk.cg {Q Q' : zFn} {K K' : zKn} {X X' : zFn} {n i j : Nat} (h : zqU i Q K X Q' K' X') (hj : j < i) (ht : zqTk Q K X n j) : zqTk Q' K' X' n j := by
  obtain ⟨a1, a2, a3, a4, a5⟩ := h
  obtain ⟨c1, c2, c3, c4, c5, c6, c7⟩ := a5 j hj
  unfold zqTk
  rw [c1, c2, c3, c4, c5, c6, c7]
  simp only [a4]
  exact ht
theorem vkp_U {Q : zFn} {K : zKn} {X : zFn} {i q : Nat} {x y v2 v3 v4 : Int32} : zqU i Q K X (vkp Q K i q x y).1 (vkp Q K i q x y).2 (zup (zup (zup (zup X 3 i v3) 5 i 0) 4 i v4) 2 i v2) := by
  unfold vkp
  refine ⟨by simp [zup], fun a => by simp [zup], fun a => by simp [zup], fun a => by simp [zup], fun j hj => ?_⟩
  have : j ≠ i := by omega
  simp [zup, zku, this]
theorem zup_zup {F : zFn} {j k : Nat} {x y : Int32} : zup (zup F j k x) j k y = zup F j k y := by
  funext a b
  unfold zup
  split <;> rfl
theorem zq_end {Q : zFn} {K : zKn} {X : zFn} {n i a c : Nat} {v4 : Int32} (hT : zqTp Q X n) (ha : a ≤ n) (hc : c < 2) {Y : zFn} (hY : Y = zup (zup (zup (zup X 3 i (nI a)) 5 i 0) 4 i v4) 2 i (kmap c)) : (vkp Q K i c (nI a) 0).1 0 1 = nI (i + 1) ∧ zqTe (vkp Q K i c (nI a) 0).1 (vkp Q K i c (nI a) 0).2 Y n i ∧ zqU i Q K X (vkp Q K i c (nI a) 0).1 (vkp Q K i c (nI a) 0).2 Y := by
  subst hY
  refine ⟨vkp_tok, ⟨a, by simp [vkp, zku]; exact hc, by simp [vkp, zku, zup], by simp [vkp, zup], by simp [zup], ha, by simp [zup]⟩, vkp_U⟩
theorem kmap_lt : ∀ q, q < 20 → (kmap q < 30 ↔ 2 ≤ q) ∧ (kmap q = 30 ↔ q = 0) := by decide +kernel
theorem zq_scan {n : Nat} : ∀ (m i a0 : Nat) (Q : zFn) (K : zKn) (X : zFn), zqTp Q X n → i + m = 400 → a0 ≤ n → ∀ R Y, vscn n m i (vbb Q (n - a0) a0) (vka Q n (vbb Q (n - a0) a0)) Q K = R → rct n (m + 1) i a0 X = Y → ∃ e, i ≤ e ∧ e ≤ 400 ∧ R.1 0 1 = nI (e + 1) ∧ (∀ j, i ≤ j → j < e → zqTk R.1 R.2 Y n j) ∧ zqTe R.1 R.2 Y n e ∧ zqU i Q K X R.1 R.2 Y := by
  intro m i a0 Q K X hT hi ha R Y hR hY
  have hn := hT.2.2.1
  obtain ⟨a, ea⟩ : ∃ a, vbb Q (n - a0) a0 = a := ⟨_, rfl⟩
  have hg := vbb_ge Q (n - a0) a0
  have er : rbb X (n - a0) a0 = a := by rw [← zq_bb hT _ _ (by omega)]; exact ea
  rw [ea] at hg hR
  have hT2 : zqTp Q (zup (zup X 3 i (nI a)) 5 i 0) n := hT.up rfl (fun _ => rfl) (by simp [zup]) (fun _ => by simp [zup])
  have hk := zq_kind hT2 (a := a) (by omega)
  obtain ⟨q, eq⟩ : ∃ q, vka Q n a = q := ⟨_, rfl⟩
  have hq20 : q < 20 := by rw [← eq]; exact vka_lt _ _ _
  have hdig : q = 3 → _ := fun e => zq_dig hT2 (a := a) (by omega) (eq.trans e)
  have hin : q ≠ 0 → a < n := fun e => vka_in hT.1 hn (by omega) (by rw [eq]; exact e)
  have hea : q ≠ 0 → vea Q n a = rea (zup (zup X 3 i (nI a)) 5 i 0) n a := fun e => zq_ea hT2 (hin e)
  rw [eq] at hk hR
  obtain ⟨k1, k2⟩ := kmap_lt q hq20
  rw [rct, er] at hY
  dsimp only at hY
  rw [← hk] at hY
  cases m with
  | zero =>
    have hi4 : i = 400 := by omega
    subst hi4
    rw [if_pos rfl] at hY
    rw [vscn] at hR
    by_cases h0 : q = 0
    · rw [if_pos h0] at hR
      rw [if_pos (k2.mpr h0), if_neg (fun z => absurd (k1.mp z) (by omega)), h0] at hY
      obtain ⟨w1, w2, w3⟩ := zq_end (K := K) hT (i := 400) (a := a) (c := 0) (by omega) (by decide) hY.symm
      subst hR
      exact ⟨400, Nat.le_refl _, Nat.le_refl _, w1, fun j h1 h2 => absurd h1 (by omega), w2, w3⟩
    · rw [if_neg h0] at hR
      rw [if_neg (fun z => h0 (k2.mp z)), zup_zup] at hY
      obtain ⟨w1, w2, w3⟩ := zq_end (K := K) hT (i := 400) (a := a) (c := 1) (by omega) (by decide) hY.symm
      subst hR
      exact ⟨400, Nat.le_refl _, Nat.le_refl _, w1, fun j h1 h2 => absurd h1 (by omega), w2, w3⟩
  | succ m =>
    rw [if_neg (show ¬ nI i = nI 400 from fun z => by have := (nI_eq (by omega) (by decide)).mp z; omega)] at hY
    rw [vscn] at hR
    by_cases h0 : q = 0
    · rw [if_pos h0, if_pos h0] at hR
      rw [if_neg (fun z => absurd (k1.mp z) (by omega)), h0] at hY
      obtain ⟨w1, w2, w3⟩ := zq_end (K := K) hT (i := i) (a := a) (c := 0) (by omega) (by decide) hY.symm
      subst hR
      exact ⟨i, Nat.le_refl _, by omega, w1, fun j h1 h2 => absurd h1 (by omega), w2, w3⟩
    · rw [if_neg h0] at hR
      by_cases h1 : q = 1
      · rw [if_pos h1, if_neg h0] at hR
        rw [if_neg (fun z => absurd (k1.mp z) (by omega)), h1] at hY
        obtain ⟨w1, w2, w3⟩ := zq_end (K := K) hT (i := i) (a := a) (c := 1) (by omega) (by decide) hY.symm
        subst hR
        exact ⟨i, Nat.le_refl _, by omega, w1, fun j h1 h2 => absurd h1 (by omega), w2, w3⟩
      · rw [if_neg h1] at hR
        have han := hin h0
        have hv := vea_ge Q han
        rw [if_pos (k1.mpr (by omega)), ← hea h0] at hY
        have hrx := hea h0
        have hsz : (nI (vea Q n a)) - (nI a) = nI (vea Q n a - a) := pk_sub (by omega)
        dsimp only at hR
        rw [hsz] at hR
        rw [show a + (vea Q n a - a) = vea Q n a by omega] at hY
        obtain ⟨b, eb⟩ : ∃ b, vea Q n a = b := ⟨_, rfl⟩
        rw [eb] at hR hY hv
        obtain ⟨X4, hX4⟩ : ∃ X4, zup (zup (zup (zup X 3 i (nI a)) 5 i 0) 4 i (nI (b - a))) 2 i (kmap q) = X4 := ⟨_, rfl⟩
        rw [hX4] at hY
        have hU : zqU i Q K X (vkp Q K i q (nI a) (nI (b - a))).1 (vkp Q K i q (nI a) (nI (b - a))).2 X4 := by rw [← hX4]; exact vkp_U
        have hT4 : zqTp (vkp Q K i q (nI a) (nI (b - a))).1 X4 n := hT.up hU.1 hU.2.1 (hU.2.2.1 1) hU.2.2.2.1
        have htk : zqTk (vkp Q K i q (nI a) (nI (b - a))).1 (vkp Q K i q (nI a) (nI (b - a))).2 X4 n i := by
          have ek : (vkp Q K i q (nI a) (nI (b - a))).2 i = q := by simp [vkp, zku]
          refine ⟨a, b - a, by rw [ek]; omega, by rw [ek]; exact hq20, by rw [ek, ← hX4]; simp [zup], by simp [vkp, zup], by rw [← hX4]; simp [zup], by simp [vkp, zup], by rw [← hX4]; simp [zup], by omega, by rw [← hX4]; simp [zup], fun e3 => ?_⟩
          rw [ek] at e3
          obtain ⟨d1, d2, d3, d4⟩ := hdig e3
          rw [← hrx, eb] at d3 d4
          refine ⟨d3, fun j h1 h2 => ?_⟩
          have := d4 j h1 (by omega)
          rw [hU.2.2.2.1 j]
          simpa [zup] using this
        obtain ⟨e, e1, e2, e3, e4, e5, e6⟩ := zq_scan m (i + 1) b _ _ X4 hT4 (by omega) (by omega) R Y hR hY
        refine ⟨e, by omega, e2, e3, fun j h1 h2 => ?_, e5, hU.tr e6⟩
        by_cases q : j = i
        · subst q
          exact htk.cg e6 (by omega)
        · exact e4 j (by omega) h2
theorem zq_scans {Q : zFn} {K : zKn} {X : zFn} {n : Nat} (hT : zqTp Q X n) : ∃ e, e ≤ 400 ∧ (vsc Q K n).1 0 1 = nI (e + 1) ∧ (∀ j, j < e → zqTk (vsc Q K n).1 (vsc Q K n).2 (rct n 401 0 0 X) n j) ∧ zqTe (vsc Q K n).1 (vsc Q K n).2 (rct n 401 0 0 X) n e ∧ zqTp (vsc Q K n).1 (rct n 401 0 0 X) n ∧ ∀ a, rct n 401 0 0 X 0 a = X 0 a := by
  have hT1 : zqTp (zup Q 0 1 (nI 0)) X n := hT.up (by simp [zup]) (fun _ => by simp [zup]) rfl (fun _ => rfl)
  obtain ⟨e, e1, e2, e3, e4, e5, e6⟩ := zq_scan 400 0 0 (zup Q 0 1 (nI 0)) K X hT1 rfl (by omega) _ _ rfl rfl
  exact ⟨e, e2, e3, fun j hj => e4 j (by omega) hj, e5, hT1.up e6.1 e6.2.1 (e6.2.2.1 1) e6.2.2.2.1, e6.2.2.1⟩
