/-! THE ANSWERS ON BOTH SIDES -/
theorem rin_eq (a b e : Int32) : rin a b e = if b ≤ a then (if a ≤ e then 1 else 0) else 0 := by
  unfold rin
  by_cases h : a < b
  · rw [if_pos h, if_neg (i_nle h)]
  · rw [if_neg h, if_pos (i_le h)]
    by_cases h2 : e < a
    · rw [if_pos h2, if_neg (i_nle h2)]
    · rw [if_neg h2, if_pos (i_le h2)]
theorem rin_ex {x : Int32} {m : Nat} (hm : m < 2 ^ 31) (h : ¬ rin x 0 (nI m) = 0) : ∃ j, j ≤ m ∧ x = nI j := by
  rw [rin_eq] at h
  by_cases h0 : 0 ≤ x
  · rw [if_pos h0] at h
    by_cases h1 : x ≤ nI m
    · obtain ⟨j, hj, e⟩ := nI_of (i_nlt h0)
      subst e
      exact ⟨j, (nI_leI hj hm).mp h1, rfl⟩
    · rw [if_neg h1] at h
      exact absurd rfl h
  · rw [if_neg h0] at h
    exact absurd rfl h
theorem rin_ok {j m : Nat} (hm : m < 2 ^ 31) (h : j ≤ m) : rin (nI j) 0 (nI m) = 1 := by
  rw [rin_eq]
  rw [if_pos (nI_pos' (by omega)), if_pos (nI_le h hm)]
theorem zq_has {V : zV} {f n : Nat} (hc : V 0 0 f = nI n) (hn : n < 2 ^ 30) (x : Int32) : vhas V f x = rin x 0 (nI n - 1) := by
  unfold vhas
  rw [rin_eq]
  rw [hc]
  by_cases h0 : x < 0
  · rw [if_pos h0, if_neg (i_nle h0)]
  · rw [if_neg h0, if_pos (i_le h0)]
    obtain ⟨j, hj, e⟩ := nI_of h0
    subst e
    cases n with
    | zero =>
      rw [if_pos (nI_le (by omega) hj), if_neg (show ¬ nI j ≤ nI 0 - 1 from i_nle (Int32.lt_of_lt_of_le (show nI 0 - 1 < (0 : Int32) by decide) (i_le h0)))]
    | succ n =>
      rw [nI_pred]
      by_cases h1 : n + 1 ≤ j
      · rw [if_pos (nI_le h1 hj), if_neg (nI_ge (by omega) hj)]
      · rw [if_neg (nI_ge (by omega) (by omega)), if_pos (nI_le (by omega) (by omega))]
/-- an index that is in range -/
theorem zq_rin {x : Int32} {n : Nat} (hn : n < 2 ^ 30) (h : ¬ rin x 0 (nI n - 1) = 0) : ∃ j, j < n ∧ x = nI j := by
  cases n with
  | zero =>
    exfalso
    rw [rin_eq] at h
    by_cases h0 : 0 ≤ x
    · rw [if_pos h0, if_neg (i_nle (Int32.lt_of_lt_of_le (show nI 0 - 1 < (0 : Int32) by decide) h0))] at h
      exact h rfl
    · rw [if_neg h0] at h
      exact h rfl
  | succ n =>
    rw [nI_pred] at h
    obtain ⟨j, hj, e⟩ := rin_ex (by omega) h
    exact ⟨j, by omega, e⟩
section ZQA
variable {V : zV} {T S : zFn} {nl np nh nk g : Nat}
theorem zqR.n0 (hR : zqR V T S nl np nh nk g) : V 0 0 0 = nI nl ∧ V 0 0 1 = nI np ∧ V 0 0 2 = nI nh ∧ V 0 0 3 = nI nk := hR.1.2.1
theorem zqR.t0 (hR : zqR V T S nl np nh nk g) : T 0 0 = nI nl ∧ T 0 1 = nI np ∧ T 0 2 = nI nh ∧ T 0 3 = nI nk := ⟨hR.1.1.1, hR.1.1.2.2.1, hR.1.1.2.2.2.2.1, hR.1.1.2.2.2.2.2.2.1⟩
/-- count -/
theorem zq_cou (hR : zqR V T S nl np nh nk g) {X : zFn} {tl : Int32} (htl : tl = X 0 1) (x : Int32) : (rin x 0 11 = 0 ∧ acou V np nk tl x = (1, 0)) ∨ (rin x 0 11 ≠ 0 ∧ acou V np nk tl x = (0, mcd X S T np nk x)) := by
  obtain ⟨v0, v1, v2, v3⟩ := hR.n0
  obtain ⟨t0, t1, t2, t3⟩ := hR.t0
  by_cases h : rin x 0 11 = 0
  · refine Or.inl ⟨h, ?_⟩
    have hne : ∀ j, j < 12 → x ≠ nI j := by
      rintro j hj rfl
      rw [show (11 : Int32) = nI 11 from rfl, rin_ok (by decide) (by omega)] at h
      exact absurd h (by decide)
    unfold acou
    rw [if_neg (show ¬ x = 0 from hne 0 (by decide)), if_neg (show ¬ x = 1 from hne 1 (by decide)), if_neg (show ¬ x = 2 from hne 2 (by decide)), if_neg (show ¬ x = 3 from hne 3 (by decide)), if_neg (show ¬ x = 4 from hne 4 (by decide)), if_neg (show ¬ x = 5 from hne 5 (by decide)), if_neg (show ¬ x = 6 from hne 6 (by decide)), if_neg (show ¬ x = 7 from hne 7 (by decide)), if_neg (show ¬ x = 8 from hne 8 (by decide)), if_neg (show ¬ x = 9 from hne 9 (by decide)), if_neg (show ¬ x = 10 from hne 10 (by decide)), if_neg (show ¬ x = 11 from hne 11 (by decide))]
  · refine Or.inr ⟨h, ?_⟩
    obtain ⟨j, hj, rfl⟩ := rin_ex (m := 11) (by decide) h
    have hc : j = 0 ∨ j = 1 ∨ j = 2 ∨ j = 3 ∨ j = 4 ∨ j = 5 ∨ j = 6 ∨ j = 7 ∨ j = 8 ∨ j = 9 ∨ j = 10 ∨ j = 11 := by omega
    unfold acou mcd
    rcases hc with rfl | rfl | rfl | rfl | rfl | rfl | rfl | rfl | rfl | rfl | rfl | rfl
    · exact Prod.ext rfl hR.2.1.1
    · exact Prod.ext rfl (v0.trans t0.symm)
    · exact Prod.ext rfl (v1.trans t1.symm)
    · exact Prod.ext rfl (v2.trans t2.symm)
    · exact Prod.ext rfl (v3.trans t3.symm)
    · exact Prod.ext rfl (zq_pg hR 0 np 0 0 (by omega))
    · exact Prod.ext rfl (zq_pg hR 1 np 0 0 (by omega))
    · exact Prod.ext rfl (zq_pg hR 2 np 0 0 (by omega))
    · exact Prod.ext rfl (zq_ar hR nk 0 0 (by omega))
    · exact Prod.ext rfl (zq_ls hR nk 0 0 (by omega))
    · exact Prod.ext rfl hR.2.1.2.1
    · exact Prod.ext rfl htl
/-- loft -/
theorem zq_ml1 (hR : zqR V T S nl np nh nk g) (l : Nat) : ∀ (m i : Nat) (a b : Int32), i + m = np → ml1L S T l m i a b = (zcnt (fun i => if vcag V i (nI l) = 0 then false else true) m i a, zcnt (fun i => if V 2 i 0 = 1 then if V 2 i 1 = nI l then true else false else false) m i b)
  | 0, _, _, _, _ => rfl
  | m + 1, i, a, b, hi => by
    obtain ⟨p1, p2, p3, p4, p5⟩ := hR.2.2.2.1 i (by omega)
    obtain ⟨t1, -⟩ := hR.1.2.2.2.1 i (by omega)
    rw [ml1L, zcnt, zcnt, show vcag V i (nI l) = if S 4 i = 0 then if S 5 i = nI l then 1 else 0 else 0 by unfold vcag; rw [p1, p2], p1, t1]
    simp only [Int32.add_zero]
    by_cases c1 : S 4 i = 0
    · have c2 : ¬ S 4 i = 1 := by rw [c1]; decide
      simp only [if_pos c1, if_neg c2]
      by_cases c3 : S 5 i = nI l
      · simp only [if_pos c3, if_neg (show ¬ (1 : Int32) = 0 by decide), if_true]
        exact zq_ml1 hR l m (i + 1) _ _ (by omega)
      · simp only [if_neg c3, if_true]
        exact zq_ml1 hR l m (i + 1) _ _ (by omega)
    · simp only [if_neg c1, if_true]
      by_cases c2 : S 4 i = 1
      · simp only [if_pos c2]
        by_cases c3 : T 5 i = nI l
        · simp only [if_pos c3, if_true]
          exact zq_ml1 hR l m (i + 1) _ _ (by omega)
        · simp only [if_neg c3]
          exact zq_ml1 hR l m (i + 1) _ _ (by omega)
      · simp only [if_neg c2]
        exact zq_ml1 hR l m (i + 1) _ _ (by omega)
theorem zq_ml2 (hR : zqR V T S nl np nh nk g) (l : Nat) : ∀ (m i : Nat) (a : Int32), i + m = nk → ml2L S T l m i a = zcnt (fun i => if V 4 i 1 = nI l then true else false) m i a
  | 0, _, _, _ => rfl
  | m + 1, i, a, hi => by
    obtain ⟨k1, -⟩ := hR.2.2.2.2.2 i (by omega)
    rw [ml2L, zcnt, k1, Int32.add_zero]
    by_cases c : S 17 i = nI l
    · simp only [if_pos c, if_true]
      exact zq_ml2 hR l m (i + 1) _ (by omega)
    · simp only [if_neg c]
      exact zq_ml2 hR l m (i + 1) _ (by omega)
theorem zq_lof (hR : zqR V T S nl np nh nk g) {l v : Nat} (hl : l < nl) (hv : v < 8) : alof V np nk (nI l) (nI v) = (0, mlo S T l np nk v) := by
  obtain ⟨n1, n2, n3, n4⟩ := zq_np hR
  obtain ⟨n, a, b, c, e, f, -⟩ := hR.1.2.2.1 l hl
  obtain ⟨l1, l2, l3, -⟩ := hR.2.2.1 l hl
  unfold alof
  rw [vhas_1 hR.n0.1 (by omega) hl, if_neg (by decide), if_neg (nI_pos (by omega)), if_pos (show nI v < 8 from nI_lt hv (by decide)), zsf_nI (by omega) (by decide)]
  unfold mlo
  rw [zq_ml1 hR l np 0 0 0 (by omega), zq_ml2 hR l nk 0 0 (by omega)]
  have hc : v = 0 ∨ v = 1 ∨ v = 2 ∨ v = 3 ∨ v = 4 ∨ v = 5 ∨ v = 6 ∨ v = 7 := by omega
  rcases hc with rfl | rfl | rfl | rfl | rfl | rfl | rfl | rfl
  · exact Prod.ext rfl l1
  · exact Prod.ext rfl l2
  · exact Prod.ext rfl f
  · exact Prod.ext rfl (e.trans c.symm)
  · exact Prod.ext rfl l3
  · exact Prod.ext rfl rfl
  · exact Prod.ext rfl rfl
  · exact Prod.ext rfl rfl
/-- pigeon -/
theorem zq_pig (hR : zqR V T S nl np nh nk 6) {p v : Nat} (hp : p < np) (hv : v < 8) : apig V (nI p) (nI v) = (0, mpt S T p v) := by
  obtain ⟨n1, n2, n3, n4⟩ := zq_np hR
  obtain ⟨p1, p2, p3, p4, p5⟩ := hR.2.2.2.1 p hp
  obtain ⟨t1, -⟩ := hR.1.2.2.2.1 p hp
  obtain ⟨x1, x2, -, -⟩ := zq_xo hR hp (Or.inl (by decide))
  have x3 := zq_fh hR hp (Or.inl (by decide))
  unfold apig
  rw [vhas_1 hR.n0.2.1 (by omega) hp, if_neg (by decide), if_neg (nI_pos (by omega)), if_pos (show nI v < 8 from nI_lt hv (by decide)), zsf_nI (by omega) (by decide), p1, x1, x2, x3, t1, p2]
  have hc : v = 0 ∨ v = 1 ∨ v = 2 ∨ v = 3 ∨ v = 4 ∨ v = 5 ∨ v = 6 ∨ v = 7 := by omega
  unfold mpt
  by_cases c1 : S 4 p = 1
  · have c0 : ¬ S 4 p = 0 := by rw [c1]; decide
    have a1 := (p5 c1).2.2.2.2.2.2.1
    have a2 := (p5 c1).2.2.2.2.1
    simp only [if_pos c1, if_neg c0]
    rcases hc with rfl | rfl | rfl | rfl | rfl | rfl | rfl | rfl
    · exact Prod.ext rfl rfl
    · exact Prod.ext rfl rfl
    · exact Prod.ext rfl rfl
    · exact Prod.ext rfl rfl
    · exact Prod.ext rfl rfl
    · exact Prod.ext rfl a1
    · exact Prod.ext rfl a2
    · exact Prod.ext rfl rfl
  · simp only [if_neg c1]
    by_cases c0 : S 4 p = 0
    · simp only [if_pos c0]
      rcases hc with rfl | rfl | rfl | rfl | rfl | rfl | rfl | rfl <;> exact Prod.ext rfl rfl
    · simp only [if_neg c0]
      rcases hc with rfl | rfl | rfl | rfl | rfl | rfl | rfl | rfl <;> exact Prod.ext rfl rfl
/-- hawk -/
theorem zq_haw (hR : zqR V T S nl np nh nk 6) {h v : Nat} (hh : h < nh) (hv : v < 5) : ahaw V (nI h) (nI v) = (0, mhd S T h (nI v)) := by
  obtain ⟨n1, n2, n3, n4⟩ := zq_np hR
  obtain ⟨h1, h2, -, -, h5⟩ := hR.2.2.2.2.1 h hh
  obtain ⟨s1, s2⟩ := (hR.1.2.2.2.2.1 h hh).1 (by omega)
  obtain ⟨r1, r2⟩ := h5 (by omega)
  unfold ahaw
  rw [vhas_1 hR.n0.2.2.1 (by omega) hh, if_neg (by decide), if_neg (nI_pos (by omega)), if_pos (show nI v < 5 from nI_lt hv (by decide)), zsf_nI (by omega) (by decide)]
  have hc : v = 0 ∨ v = 1 ∨ v = 2 ∨ v = 3 ∨ v = 4 := by omega
  unfold mhd
  rcases hc with rfl | rfl | rfl | rfl | rfl
  · exact Prod.ext rfl h1
  · exact Prod.ext rfl h2
  · exact Prod.ext rfl s1
  · exact Prod.ext rfl r1
  · exact Prod.ext rfl r2
/-- letter -/
theorem zq_lett' (hR : zqR V T S nl np nh nk g) {k v : Nat} (hk : k < nk) (hv : v < 8) : alett V np nk (nI k) (nI v) = (0, mlt S T k np v) := by
  obtain ⟨n1, n2, n3, n4⟩ := zq_np hR
  obtain ⟨n, s, hn, hs, e1, e2, e3, e4, -⟩ := zq_let hR hk
  obtain ⟨k1, k2, k3, k4, k5, k6, k7, k8⟩ := hR.2.2.2.2.2 k hk
  unfold alett
  rw [vhas_1 hR.n0.2.2.2 (by omega) hk, if_neg (by decide), if_neg (nI_pos (by omega)), if_pos (show nI v < 8 from nI_lt hv (by decide)), zsf_nI (by omega) (by decide), zq_arr hR hk, zq_lost hR hk, zq_fy hR k np 0 0 (by omega)]
  have hc : v = 0 ∨ v = 1 ∨ v = 2 ∨ v = 3 ∨ v = 4 ∨ v = 5 ∨ v = 6 ∨ v = 7 := by omega
  unfold mlt
  by_cases c1 : ria S T k = 0
  · simp only [if_pos c1]
    by_cases c2 : rlo S T k np = 0
    · simp only [if_pos c2]
      rcases hc with rfl | rfl | rfl | rfl | rfl | rfl | rfl | rfl
      · exact Prod.ext rfl k1
      · exact Prod.ext rfl k2
      · exact Prod.ext rfl (e2.trans e1.symm)
      · exact Prod.ext rfl rfl
      · exact Prod.ext rfl rfl
      · exact Prod.ext rfl rfl
      · exact Prod.ext rfl k4
      · exact Prod.ext rfl k5
    · simp only [if_neg c2]
      rcases hc with rfl | rfl | rfl | rfl | rfl | rfl | rfl | rfl
      · exact Prod.ext rfl k1
      · exact Prod.ext rfl k2
      · exact Prod.ext rfl (e2.trans e1.symm)
      · exact Prod.ext rfl rfl
      · exact Prod.ext rfl rfl
      · exact Prod.ext rfl rfl
      · exact Prod.ext rfl k4
      · exact Prod.ext rfl k5
  · simp only [if_neg c1]
    by_cases c2 : rlo S T k np = 0
    · simp only [if_pos c2]
      rcases hc with rfl | rfl | rfl | rfl | rfl | rfl | rfl | rfl
      · exact Prod.ext rfl k1
      · exact Prod.ext rfl k2
      · exact Prod.ext rfl (e2.trans e1.symm)
      · exact Prod.ext rfl rfl
      · exact Prod.ext rfl rfl
      · exact Prod.ext rfl rfl
      · exact Prod.ext rfl k4
      · exact Prod.ext rfl k5
    · simp only [if_neg c2]
      rcases hc with rfl | rfl | rfl | rfl | rfl | rfl | rfl | rfl
      · exact Prod.ext rfl k1
      · exact Prod.ext rfl k2
      · exact Prod.ext rfl (e2.trans e1.symm)
      · exact Prod.ext rfl rfl
      · exact Prod.ext rfl rfl
      · exact Prod.ext rfl rfl
      · exact Prod.ext rfl k4
      · exact Prod.ext rfl k5
/-- bring -/
theorem zq_bri (hR : zqR V T S nl np nh nk g) (X : zFn) {p l : Nat} (hp : p < np) (hl : l < nl) : (S 4 p = 0 → abri V (nI p) (nI l) = (0, (mbr X S p l).1, zvu V 2 p 2 (nI l)) ∧ (mbr X S p l).2.1 0 0 = 0 ∧ zqR (zvu V 2 p 2 (nI l)) T (mbr X S p l).2.2 nl np nh nk g) ∧ (S 4 p ≠ 0 → abri V (nI p) (nI l) = (2, 0, V) ∧ (mbr X S p l).2.1 0 0 = 2 ∧ (mbr X S p l).2.2 = S) := by
  obtain ⟨n1, n2, n3, n4⟩ := zq_np hR
  obtain ⟨p1, p2, p3, p4, p5⟩ := hR.2.2.2.1 p hp
  unfold abri mbr
  rw [vhas_1 hR.n0.2.1 (by omega) hp, vhas_1 hR.n0.1 (by omega) hl, if_neg (by decide), if_neg (by decide), zsf_nI (by omega) (by decide), p1]
  refine ⟨fun h => ?_, fun h => ?_⟩
  · simp only [if_pos h]
    refine ⟨by rw [p2], by simp [zup], ?_⟩
    refine zqR.pig (i := p) hR ?_ (zqN.up zqN.rf) (zqM.up zqM.rf (by decide) (by decide)) ?_
    · exact zqS.up (zqS.rf _) rfl
    · refine ⟨by simpa [zvu, zup] using p1, by simp [zvu, zup], by simp [zup]; exact zin_nI hl (by omega), fun q => ?_, fun q => ?_⟩
      · have q : S 4 p = 1 ∨ (g ≠ 7 ∧ S 4 p ≠ 0) := by simpa [zup] using q
        simpa [zqX, zvu, zup] using p4 q
      · have q : S 4 p = 1 := by simpa [zup] using q
        simpa [zqA, zvu, zup] using p5 q
  · simp only [if_neg h]
    exact ⟨trivial, by simp [zup], trivial⟩
/-- lure -/
theorem zq_lur (hR : zqR V T S nl np nh nk 6) (X : zFn) {h : Nat} (hh : h < nh) (y z : Int32) : (rin y 0 63 = 0 ∨ rin z 0 63 = 0 → alur V (nI h) y z = (3, 0, V) ∧ (mlu X S h y z).2.1 0 0 = 2 ∧ (mlu X S h y z).2.2 = S) ∧ (rin y 0 63 ≠ 0 → rin z 0 63 ≠ 0 → alur V (nI h) y z = (0, (mlu X S h y z).1, zvu (zvu V 3 h 0 y) 3 h 1 z) ∧ (mlu X S h y z).2.1 0 0 = 0 ∧ zqR (zvu (zvu V 3 h 0 y) 3 h 1 z) T (mlu X S h y z).2.2 nl np nh nk 6) := by
  obtain ⟨n1, n2, n3, n4⟩ := zq_np hR
  obtain ⟨h1, h2, h3, h4, h5⟩ := hR.2.2.2.2.1 h hh
  have key : ∀ w : Int32, rin w 0 63 = 0 → w < 0 ∨ 63 < w := by
    intro w hw
    rw [rin_eq] at hw
    by_cases c : 0 ≤ w
    · rw [if_pos c] at hw
      by_cases c2 : w ≤ 63
      · rw [if_pos c2] at hw; exact absurd hw (by decide)
      · exact Or.inr (i_lt c2)
    · exact Or.inl (i_lt c)
  have key2 : ∀ w : Int32, rin w 0 63 ≠ 0 → zix w 64 := by
    intro w hw
    obtain ⟨j, hj, rfl⟩ := rin_ex (m := 63) (by decide) hw
    exact zin_nI (by omega) (by decide)
  unfold alur mlu
  rw [vhas_1 hR.n0.2.2.1 (by omega) hh, if_neg (by decide), zsf_nI (by omega) (by decide)]
  refine ⟨fun q => ?_, fun q1 q2 => ?_⟩
  · constructor
    · by_cases c1 : y < 0
      · rw [if_pos c1]
      · rw [if_neg c1]
        by_cases c2 : 63 < y
        · rw [if_pos c2]
        · rw [if_neg c2]
          by_cases c3 : z < 0
          · rw [if_pos c3]
          · rw [if_neg c3]
            by_cases c4 : z ≤ 63
            · exfalso
              rcases q with q | q
              · rcases key y q with h | h
                · exact c1 h
                · exact c2 h
              · rcases key z q with h | h
                · exact c3 h
                · exact i_nle h c4
            · rw [if_neg c4]
    · by_cases c1 : rin y 0 63 = 0
      · simp only [if_pos c1]
        exact ⟨by simp [zup], trivial⟩
      · have c2 : rin z 0 63 = 0 := q.resolve_left c1
        simp only [if_neg c1, if_pos c2]
        exact ⟨by simp [zup], trivial⟩
  · have y1 := key2 y q1
    have z1 := key2 z q2
    have y2 : ¬ 63 < y := i_nlt (by
      obtain ⟨j, hj, rfl⟩ := rin_ex (m := 63) (by decide) q1
      exact nI_le (b := 63) hj (by decide))
    have z2 : z ≤ 63 := by
      obtain ⟨j, hj, rfl⟩ := rin_ex (m := 63) (by decide) q2
      exact nI_le (b := 63) hj (by decide)
    simp only [if_neg (i_nlt y1.1), if_neg y2, if_neg (i_nlt z1.1), if_pos z2, if_neg q1, if_neg q2]
    refine ⟨by rw [h1, h2]; rfl, by simp [zup], ?_⟩
    refine zqR.hwk (i := h) hR (zqS.up (zqS.up (zqS.rf _) rfl) rfl) (zqN.up (zqN.up zqN.rf)) (zqM.up (zqM.up zqM.rf (by decide) (by decide)) (by decide) (by decide)) ?_
    exact ⟨by simp [zvu, zup], by simp [zvu, zup], by simp [zup]; exact y1, by simp [zup]; exact z1, fun q => by simpa [zvu, zup] using h5 q⟩
end ZQA
/-! pass -/
section ZQB
variable {V U : zV} {T S A X : zFn} {nl np nh nk : Nat}
theorem zq_pas (hR : zqR V T S nl np nh nk 6) (h : Nat) : (apas V nl np nh nk h).1 = (mpa X S T nl np nh nk h).1 ∧ zqR (apas V nl np nh nk h).2 T (mpa X S T nl np nh nk h).2.2 nl np nh nk 6 := by
  unfold apas mpa
  rw [vpas_eq, mpaL_eq]
  have h2 := zq_ps h V S hR
  exact ⟨by show _ - _ = _ - _; rw [zq_ar h2 nk 0 0 (by omega), zq_ar hR nk 0 0 (by omega)], h2⟩
theorem zq_for (hR : zqR V T S nl np nh nk 6) (h : Nat) (x : Int32) : (rin x 0 2 = 0 ∧ (afor V U nl np nh nk h x) = (1, 0, U)) ∨ (rin x 0 2 = 1 ∧ (afor V U nl np nh nk h x).1 = 0 ∧ (afor V U nl np nh nk h x).2.1 = (mfo X A S T nl np nh nk h x).1) := by
  by_cases c : rin x 0 2 = 0
  · refine Or.inl ⟨c, ?_⟩
    rw [rin_eq] at c
    unfold afor
    by_cases c0 : 0 ≤ x
    · rw [if_pos c0] at c
      by_cases c2 : x ≤ 2
      · rw [if_pos c2] at c; exact absurd c (by decide)
      · rw [if_neg (i_nlt c0), if_neg c2]
    · rw [if_pos (i_lt c0)]
  · obtain ⟨j, hj, rfl⟩ := rin_ex (m := 2) (by decide) c
    refine Or.inr ⟨rin_ok (by decide) hj, ?_⟩
    have hR2 := zq_ps h _ _ (zq_copy (U := U) hR (zq_np hR).2.2.1)
    have hE := zq_laE (nl := nl) (np := np) (nh := nh) (nk := nk) h 0 (vcpW U V nl np nh nk)
    have hc : j = 0 ∨ j = 1 ∨ j = 2 := by omega
    unfold afor mfo ala
    dsimp only
    rw [mfoL_eq]
    rw [if_neg (nI_pos (by omega)), if_pos (show nI j ≤ 2 from nI_le (b := 2) hj (by decide))]
    rcases hc with rfl | rfl | rfl
    · refine ⟨rfl, ?_⟩
      show zcnt _ nk 0 0 = rarL _ T nk 0 0
      rw [← zq_ar hR2 nk 0 0 (by omega)]
      simp only [zqE_arr hE]
    · refine ⟨rfl, ?_⟩
      show zcnt _ nk 0 0 = rlsL _ T np nk 0 0
      rw [← zq_ls hR2 nk 0 0 (by omega)]
      simp only [zqE_lost hE]
    · refine ⟨rfl, ?_⟩
      show vpthL _ 2 np 0 0 = rpgL _ T 2 np 0 0
      rw [← zq_pg hR2 2 np 0 0 (by omega)]
      exact (zqE_pth hE 2 np 0 0).symm
theorem zq_set0 {A : zFn} (h : A 0 2 = -1) : zup A 0 2 (-1) = A := by
  funext j k
  unfold zup
  split
  · rename_i e
    obtain ⟨rfl, rfl⟩ := e
    exact h.symm
  · rfl
theorem zq_maw (hR : zqR V T S nl np nh nk 6) {k : Nat} (hk : k < nk) {x : Int32} (hx : x = T 14 k) : (vhtL nl np nh nk k x 300 0 (vcpW U V nl np nh nk)).1 = (maw A S T nl np nh nk k (-1)).1 := by
  unfold maw
  dsimp only
  rw [zq_set0 rfl]
  exact zq_av hk hx 300 0 _ _ (zq_copy hR (zq_np hR).2.2.1)
theorem zq_st0 (hR : zqR V T S nl np nh nk 6) {k : Nat} (hk : k < nk) : V 4 k 0 = T 14 k := by
  obtain ⟨n, s, hn, hs, e1, e2, -⟩ := zq_let hR hk
  rw [e1, e2]
theorem cl300 : Int32.toNatClampNeg 300 = 300 := by decide
theorem cl100 : Int32.toNatClampNeg 100 = 100 := by decide
theorem zq_arv (hR : zqR V T S nl np nh nk 6) {k : Nat} (hk : k < nk) : (aarv V U nl np nh nk k).1 = (mar X A S T nl np nh nk k).1 := by
  unfold aarv mar
  dsimp only
  rw [cl300]
  exact zq_maw (A := A) hR hk (zq_st0 hR hk)
end ZQB
