/-! AN HOUR ON BOTH SIDES -/
section ZQF
variable {V : zV} {T S : zFn} {nl np nh nk g : Nat}
/-- a pigeon comes home -/
theorem zq_home (hR : zqR V T S nl np nh nk g) {p : Nat} (hp : p < np) (h1 : S 4 p = 1) : zqR (vhome V p) T (rla S T p) nl np nh nk g := by
  obtain ⟨n1, n2, n3, n4⟩ := zq_np hR
  obtain ⟨p1, p2, p3, p4, p5⟩ := hR.2.2.2.1 p hp
  obtain ⟨a1, a2, a3, a4, a5, a6, a7, a8, a9, a10⟩ := p5 h1
  obtain ⟨t1, t2, t3, t4, t5, t6⟩ := hR.1.2.2.2.1 p hp
  obtain ⟨k, hk, ek⟩ := a9.ex (show nk < 2 ^ 31 by omega)
  have zk : zsf (nI k) 12 = k := zsf_nI (by omega) (by decide)
  rw [ek, zk] at a10
  have hR2 : zqR (zvu (zvu V 2 p 0 0) 2 p 2 (T 5 p)) T (zup (zup (zup S 4 p 0) 5 p (T 5 p)) 10 p 0) nl np nh nk g := by
    refine zqR.pig (i := p) hR (zqS.up (zqS.up (zqS.rf _) rfl) rfl) (zqN.up (zqN.up zqN.rf)) ?_ ?_
    · repeat (first | exact zqM.rf | refine zqM.up ?_ (by decide) (by decide))
    · simp [zqP, zvu, zup]
      exact t4
  unfold vhome rla
  dsimp only
  have c1 : zvu V 2 p 0 0 2 p 1 = T 5 p := by simp [zvu, t1]
  have c2 : zvu (zvu V 2 p 0 0) 2 p 2 (T 5 p) 2 p 10 = nI k := by simp [zvu, a7, ek]
  have c3 : zvu (zvu V 2 p 0 0) 2 p 2 (T 5 p) 2 p 11 = S 12 p := by simp [zvu, a8]
  have c4 : zvu (zvu V 2 p 0 0) 2 p 2 (T 5 p) 2 p 1 = T 5 p := by simp [zvu, t1]
  rw [c1, c2, c3, c4, ek, zk]
  have d1 : zup (zup (zup S 4 p 0) 5 p (T 5 p)) 10 p 0 12 p = S 12 p := by simp [zup]
  rw [d1]
  generalize zvu (zvu V 2 p 0 0) 2 p 2 (T 5 p) = V2 at hR2 ⊢
  generalize zup (zup (zup S 4 p 0) 5 p (T 5 p)) 10 p 0 = S3 at hR2 ⊢
  generalize S 12 p = u at a10 ⊢
  obtain ⟨n, s, hn, hsn, e1, e2, e3, e4, -⟩ := zq_let hR2 hk
  obtain ⟨k1, k2, k3, k4, k5, k6, k7, k8⟩ := hR2.2.2.2.2.2 k hk
  have hO := hR2.2.1
  rw [e1] at a10
  unfold ria
  rw [e4, e3, e1]
  by_cases h : nI s = u
  · subst h
    have hs : s < n := by
      rcases Nat.lt_or_ge s n with q | q
      · exact q
      · exact absurd a10 (nI_nlt q (by omega))
    have hne : ¬ nI s = nI n := fun e => by have := (nI_eq (by omega) (by omega)).mp e; omega
    rw [if_pos rfl, if_neg hne, if_pos rfl, if_pos rfl]
    unfold vgo varr
    dsimp only
    have w1 : zvu (zvu (zvu V2 4 k 1 (T 5 p)) 4 k 2 (zvu V2 4 k 1 (T 5 p) 4 k 2 + 1)) 4 k 3 0 4 k 2 = nI (s + 1) := by simp [zvu, e4, nI_1]
    have w2 : zvu (zvu (zvu V2 4 k 1 (T 5 p)) 4 k 2 (zvu V2 4 k 1 (T 5 p) 4 k 2 + 1)) 4 k 3 0 4 k 0 = nI n := by simp [zvu, e2]
    have w3 : zup (zup (zup S3 17 k (T 5 p)) 18 k (zup S3 17 k (T 5 p) 18 k + 1)) 21 k 0 18 k = nI (s + 1) := by simp [zup, e3, nI_1]
    have w4 : zup (zup (zup S3 17 k (T 5 p)) 18 k (zup S3 17 k (T 5 p) 18 k + 1)) 21 k 0 0 0 = V2 0 0 4 := by simp [zup, hO.1]
    rw [w1, w2, w3, w4]
    have hM : zqM 17 21 k S3 (zup (zup (zup S3 17 k (T 5 p)) 18 k (zup S3 17 k (T 5 p) 18 k + 1)) 21 k 0) := by
      repeat (first | exact zqM.rf | refine zqM.up ?_ (by decide) (by decide))
    have hN : zqN 4 k V2 (zvu (zvu (zvu V2 4 k 1 (T 5 p)) 4 k 2 (zvu V2 4 k 1 (T 5 p) 4 k 2 + 1)) 4 k 3 0) := by
      repeat (first | exact zqN.rf | refine zqN.up ?_)
    have hSS : zqS V2 (zvu (zvu (zvu V2 4 k 1 (T 5 p)) 4 k 2 (zvu V2 4 k 1 (T 5 p) 4 k 2 + 1)) 4 k 3 0) := by
      repeat (first | exact zqS.rf _ | refine zqS.up ?_ rfl)
    by_cases h2 : s + 1 < n
    · rw [if_pos (nI_lt h2 (by omega)), if_pos rfl, if_neg (show ¬ nI (s + 1) = nI n from fun e => by have := (nI_eq (by omega) (by omega)).mp e; omega), if_pos rfl]
      refine hR2.lett hSS hN hM ?_
      simp [zqK, zvu, zup, e3, e4, nI_1, k4, k5, e1]
      exact ⟨t4, nI_pos' (by omega), nI_le (by omega) (by omega)⟩
    · have e5 : s + 1 = n := by omega
      rw [e5, if_neg Int32.lt_irrefl, if_neg (by decide), if_pos rfl, if_neg (by decide)]
      refine hR2.lett (hSS.up rfl) hN.up (hM.up (by decide) (by decide)) ?_
      simp [zqK, zvu, zup, e3, e4, nI_1, k4, k5, e1, e5]
      exact ⟨t4, nI_pos' (by omega)⟩
  · rw [if_neg h, if_neg h]
    have h5 : V2 0 0 5 + 1 = S3 0 1 + 1 := by rw [hO.2.1]
    by_cases h3 : nI s = nI n
    · rw [if_pos h3, if_neg (by decide)]
      exact hR2.own (Or.inr ⟨rfl, rfl⟩) h5
    · rw [if_neg h3, if_pos rfl]
      exact hR2.own (Or.inr ⟨rfl, rfl⟩) h5
def zq2 (S T : zFn) (p : Nat) : zFn :=
  let S1 := zup S 6 p ((rnr (S 6 p) (S 8 p) (T 7 p)))
  let S2 := zup S1 7 p ((rnr (S1 7 p) (S1 9 p) (T 7 p)))
  if (rfh S2 T p) = 0 then rla S2 T p
  else
    if (S2 6 p) = (S2 8 p) then
      if (S2 7 p) = (S2 9 p) then
        let S4 := zup S2 10 p (((S2 10 p) + 1))
        if (S4 10 p) ≤ 24 then S4 else zup S4 4 p (2)
      else S2
    else S2
theorem rfl_eq (S T : zFn) (p : Nat) : rfl_ S T p = if ((T 8 p) + (S 10 p)) < (rfh S T p) then zq2 S T p else zq2 (raim S T p) T p := rfl
theorem zq_searched : ∀ q, q < 25 → nI q + 1 ≤ 24 → zix (nI q + 1) 25 := by
  intro q hq h
  rw [nI_1] at h ⊢
  have h : nI (q + 1) ≤ nI 24 := h
  have := (nI_leI (by omega) (by omega)).mp h
  exact zin_nI (by omega) (by decide)
theorem zq_fly3 (hR : zqR V T S nl np nh nk g) {p : Nat} (hp : p < np) (h1 : S 4 p = 1) : zqR (vfly3 V p) T (if (S 6 p) = (S 8 p) then
      if (S 7 p) = (S 9 p) then
        let S4 := zup S 10 p (((S 10 p) + 1))
        if (S4 10 p) ≤ 24 then S4 else zup S4 4 p (2)
      else S
    else S) nl np nh nk g := by
  obtain ⟨p1, p2, p3, p4, p5⟩ := hR.2.2.2.1 p hp
  obtain ⟨a1, a2, a3, a4, a5, a6, a7, a8, a9, a10⟩ := p5 h1
  obtain ⟨x1, x2, x3, x4⟩ := p4 (Or.inl h1)
  unfold vfly3
  rw [x1, x2, a1, a2, a5]
  dsimp only
  by_cases c1 : S 6 p = S 8 p
  · rw [if_pos c1, if_pos c1]
    by_cases c2 : S 7 p = S 9 p
    · rw [if_pos c2, if_pos c2]
      have d1 : zvu V 2 p 9 (S 10 p + 1) 2 p 9 = S 10 p + 1 := by simp [zvu]
      have d2 : zup S 10 p (S 10 p + 1) 10 p = S 10 p + 1 := by simp [zup]
      rw [d1, d2]
      obtain ⟨q, hq, eq⟩ := a6.ex (by decide)
      by_cases c3 : S 10 p + 1 ≤ 24
      · rw [if_pos c3, if_pos c3]
        refine zqR.pig (i := p) hR (zqS.up (zqS.rf _) rfl) (zqN.up zqN.rf) (zqM.up zqM.rf (by decide) (by decide)) ?_
        simp [zqP, zqX, zqA, zvu, zup, h1]
        exact ⟨by rw [p1, h1], p2, p3, ⟨x1, x2, x3, x4⟩, a1, a2, a3, a4, by rw [eq] at c3 ⊢; exact zq_searched q hq c3, a7, a8, a9, a10⟩
      · rw [if_neg c3, if_neg c3]
        refine zqR.pig (i := p) hR (zqS.up (zqS.up (zqS.rf _) rfl) rfl) (zqN.up (zqN.up zqN.rf)) (zqM.up (zqM.up zqM.rf (by decide) (by decide)) (by decide) (by decide)) ?_
        refine ⟨by simp [zvu, zup], by simp [zvu, zup]; exact p2, by simp [zup]; exact p3, fun _ => by simp [zqX, zvu, zup]; exact ⟨x1, x2, x3, x4⟩, fun h => ?_⟩
        exact absurd (show (2 : Int32) = 1 by simpa [zup] using h) (by decide)
    · rw [if_neg c2, if_neg c2]
      exact hR
  · rw [if_neg c1, if_neg c1]
    exact hR
theorem zq_fly2 (hR : zqR V T S nl np nh nk g) {p : Nat} (hp : p < np) (h1 : S 4 p = 1) : zqR (vfly2 V p (zsf (V 2 p 1) 6)) T (zq2 S T p) nl np nh nk g := by
  obtain ⟨n1, n2, n3, n4⟩ := zq_np hR
  obtain ⟨p1, p2, p3, p4, p5⟩ := hR.2.2.2.1 p hp
  obtain ⟨a1, a2, a3, a4, a5, a6, a7, a8, a9, a10⟩ := p5 h1
  obtain ⟨x1, x2, x3, x4⟩ := p4 (Or.inl h1)
  obtain ⟨t1, t2, t3, t4, t5, t6⟩ := hR.1.2.2.2.1 p hp
  obtain ⟨h, hh, eh⟩ := t4.ex (show nl < 2 ^ 31 by omega)
  have zh : zsf (nI h) 6 = h := zsf_nI (by omega) (by decide)
  obtain ⟨g1, g2, g3, g4, g5, -⟩ := hR.2.2.1 h hh
  unfold vfly2 zq2
  rw [t1, eh, zh]
  dsimp only
  simp only [rnr_near]
  rw [x1, a1, t2]
  have b1 := zq_near x3 a3 t5
  have b2 := zq_near x4 a4 t5
  generalize znear (S 6 p) (S 8 p) (T 7 p) = x at b1 ⊢
  have c1 : zvu V 2 p 5 x 2 p 6 = S 7 p := by simp [zvu, x2]
  have c2 : zvu V 2 p 5 x 2 p 8 = S 9 p := by simp [zvu, a2]
  have c3 : zvu V 2 p 5 x 2 p 3 = T 7 p := by simp [zvu, t2]
  have c4 : zup S 6 p x 7 p = S 7 p := by simp [zup]
  have c5 : zup S 6 p x 9 p = S 9 p := by simp [zup]
  rw [c1, c2, c3, c4, c5]
  generalize znear (S 7 p) (S 9 p) (T 7 p) = y at b2 ⊢
  have d1 : zvu (zvu V 2 p 5 x) 2 p 6 y 2 p 5 = x := by simp [zvu]
  have d2 : zvu (zvu V 2 p 5 x) 2 p 6 y 2 p 6 = y := by simp [zvu]
  have d3 : zvu (zvu V 2 p 5 x) 2 p 6 y 1 h 1 = S 1 h := by simp [zvu, g1]
  have d4 : zvu (zvu V 2 p 5 x) 2 p 6 y 1 h 2 = S 2 h := by simp [zvu, g2]
  have f1 : zup (zup S 6 p x) 7 p y 4 p = 1 := by simp [zup, h1]
  have f2 : zup (zup S 6 p x) 7 p y 6 p = x := by simp [zup]
  have f3 : zup (zup S 6 p x) 7 p y 7 p = y := by simp [zup]
  have f4 : zup (zup S 6 p x) 7 p y 1 h = S 1 h := by simp [zup]
  have f5 : zup (zup S 6 p x) 7 p y 2 h = S 2 h := by simp [zup]
  have hR2 : zqR (zvu (zvu V 2 p 5 x) 2 p 6 y) T (zup (zup S 6 p x) 7 p y) nl np nh nk g := by
    refine zqR.pig (i := p) hR (zqS.up (zqS.up (zqS.rf _) rfl) rfl) (zqN.up (zqN.up zqN.rf)) (zqM.up (zqM.up zqM.rf (by decide) (by decide)) (by decide) (by decide)) ?_
    simp [zqP, zqX, zqA, zvu, zup, h1]
    exact ⟨by rw [p1, h1], p2, p3, ⟨b1, b2⟩, a1, a2, a3, a4, a5, a6, a7, a8, a9, a10⟩
  have hz := zq_dst b1 b2 g4 g5
  have e6 : rfh (zup (zup S 6 p x) 7 p y) T p = zdst x y (S 1 h) (S 2 h) := by
    unfold rfh rxo ryo
    rw [f1, if_neg (by decide), if_neg (by decide), f2, f3, eh, zh, f4, f5]
    rfl
  rw [e6, d1, d2, d3, d4]
  by_cases q1 : x = S 1 h
  · rw [if_pos q1]
    by_cases q2 : y = S 2 h
    · rw [if_pos q2, if_pos (hz.2.mpr ⟨q1, q2⟩)]
      exact zq_home hR2 hp f1
    · rw [if_neg q2, if_neg (fun e => q2 (hz.2.mp e).2)]
      exact zq_fly3 hR2 hp f1
  · rw [if_neg q1, if_neg (fun e => q1 (hz.2.mp e).1)]
    exact zq_fly3 hR2 hp f1
theorem zq_xo (hR : zqR V T S nl np nh nk g) {p : Nat} (hp : p < np) (hg : g ≠ 7 ∨ S 4 p = 1) : vxo V p = rxo S p ∧ vyo V p = ryo S p ∧ zix (rxo S p) 64 ∧ zix (ryo S p) 64 := by
  obtain ⟨n1, n2, n3, n4⟩ := zq_np hR
  obtain ⟨p1, p2, p3, p4, p5⟩ := hR.2.2.2.1 p hp
  obtain ⟨f, hf, ef⟩ := p3.ex (show nl < 2 ^ 31 by omega)
  have zf : zsf (nI f) 6 = f := zsf_nI (by omega) (by decide)
  obtain ⟨g1, g2, g3, g4, g5, -⟩ := hR.2.2.1 f hf
  unfold vxo vyo rxo ryo
  rw [p1, p2, ef, zf]
  by_cases h : S 4 p = 0
  · rw [if_pos h, if_pos h, if_pos h, if_pos h]
    exact ⟨g1, g2, g4, g5⟩
  · rw [if_neg h, if_neg h, if_neg h, if_neg h]
    exact p4 (hg.elim (fun q => Or.inr ⟨q, h⟩) Or.inl)
theorem zq_fh (hR : zqR V T S nl np nh nk g) {p : Nat} (hp : p < np) (hg : g ≠ 7 ∨ S 4 p = 1) : vdfh V p = rfh S T p := by
  obtain ⟨n1, n2, n3, n4⟩ := zq_np hR
  obtain ⟨t1, t2, t3, t4, t5, t6⟩ := hR.1.2.2.2.1 p hp
  obtain ⟨h, hh, eh⟩ := t4.ex (show nl < 2 ^ 31 by omega)
  have zh : zsf (nI h) 6 = h := zsf_nI (by omega) (by decide)
  obtain ⟨g1, g2, g3, g4, g5, -⟩ := hR.2.2.1 h hh
  obtain ⟨x1, x2, -, -⟩ := zq_xo hR hp hg
  unfold vdfh rfh
  rw [x1, x2, t1, eh, zh, g1, g2]
  rfl
theorem zq_fly (hR : zqR V T S nl np nh nk g) {p : Nat} (hp : p < np) (h1 : S 4 p = 1) : zqR (vfly V p) T (rfl_ S T p) nl np nh nk g := by
  obtain ⟨n1, n2, n3, n4⟩ := zq_np hR
  obtain ⟨p1, p2, p3, p4, p5⟩ := hR.2.2.2.1 p hp
  obtain ⟨a1, a2, a3, a4, a5, a6, a7, a8, a9, a10⟩ := p5 h1
  obtain ⟨x1, x2, x3, x4⟩ := p4 (Or.inl h1)
  obtain ⟨t1, t2, t3, t4, t5, t6⟩ := hR.1.2.2.2.1 p hp
  obtain ⟨h, hh, eh⟩ := t4.ex (show nl < 2 ^ 31 by omega)
  have zh : zsf (nI h) 6 = h := zsf_nI (by omega) (by decide)
  obtain ⟨g1, g2, g3, g4, g5, -⟩ := hR.2.2.1 h hh
  unfold vfly
  rw [rfl_eq, zq_fh hR hp (Or.inr h1), t3, a5]
  dsimp only
  by_cases c : T 8 p + S 10 p < rfh S T p
  · rw [if_pos c, if_pos c]
    exact zq_fly2 hR hp h1
  · rw [if_neg c, if_neg c]
    have hR2 : zqR (zvu (zvu V 2 p 7 (V 1 (zsf (V 2 p 1) 6) 1)) 2 p 8 (zvu V 2 p 7 (V 1 (zsf (V 2 p 1) 6) 1) 1 (zsf (V 2 p 1) 6) 2)) T (raim S T p) nl np nh nk g := by
      unfold raim
      dsimp only
      refine zqR.pig (i := p) hR (zqS.up (zqS.up (zqS.rf _) rfl) rfl) (zqN.up (zqN.up zqN.rf)) (zqM.up (zqM.up zqM.rf (by decide) (by decide)) (by decide) (by decide)) ?_
      simp [zqP, zqX, zqA, zvu, zup, h1]
      rw [t1, eh, zh]
      exact ⟨by rw [p1, h1], p2, p3, ⟨x1, x2, x3, x4⟩, g1, g2, g4, g5, a5, a6, a7, a8, a9, a10⟩
    have hs : raim S T p 4 p = 1 := by
      unfold raim
      simp [zup, h1]
    have ht := zq_fly2 hR2 hp hs
    rw [show zvu (zvu V 2 p 7 (V 1 (zsf (V 2 p 1) 6) 1)) 2 p 8 (zvu V 2 p 7 (V 1 (zsf (V 2 p 1) 6) 1) 1 (zsf (V 2 p 1) 6) 2) 2 p 1 = V 2 p 1 by simp [zvu]] at ht
    exact ht
/-- a hawk's prey -/
theorem zq_prey (hR : zqR V T S nl np nh nk g) {h : Nat} (hh : h < nh) (hg : h ≠ g) {b : Int32} (hb : b = -1 ∨ ∃ j, j < np ∧ b = nI j ∧ S 4 j = 1) : zqR (vprey V h b) T (rpyw S T h b) nl np nh nk g := by
  obtain ⟨n1, n2, n3, n4⟩ := zq_np hR
  rcases hb with rfl | ⟨j, hj, rfl, hne⟩
  · unfold vprey rpyw
    rw [if_pos (by decide), if_pos rfl]
    exact hR
  · unfold vprey rpyw
    rw [if_neg (nI_pos (by omega)), if_neg (nI_m1 (by omega)), zsf_nI (by omega) (by decide)]
    obtain ⟨p1, p2, p3, p4, p5⟩ := hR.2.2.2.1 j hj
    obtain ⟨h1, h2, h3, h4, h5⟩ := hR.2.2.2.2.1 h hh
    obtain ⟨s1, s2⟩ := (hR.1.2.2.2.2.1 h hh).1 hg
    have hR1 : zqR (zvu V 2 j 0 2) T (zup S 4 j 2) nl np nh nk g := by
      refine zqR.pig (i := j) hR (zqS.up (zqS.rf _) rfl) (zqN.up zqN.rf) (zqM.up zqM.rf (by decide) (by decide)) ?_
      refine ⟨by simp [zvu, zup], by simp [zvu, zup]; exact p2, by simp [zup]; exact p3, fun _ => by simp [zqX, zvu, zup]; exact p4 (Or.inl hne), fun h => ?_⟩
      exact absurd (show (2 : Int32) = 1 by simpa [zup] using h) (by decide)
    unfold rpy
    dsimp only
    refine zqR.hwk (i := h) hR1 (zqS.up (zqS.up (zqS.rf _) rfl) rfl) (zqN.up (zqN.up zqN.rf)) (zqM.up (zqM.up zqM.rf (by decide) (by decide)) (by decide) (by decide)) ?_
    simp [zqH, zvu, zup]
    exact ⟨h1, h2, h3, h4, fun q => ⟨s2, by rw [(h5 q).2]⟩⟩
theorem zq_huntL (hR : zqR V T S nl np nh nk g) {h : Nat} (hh : h < nh) (hg : h ≠ g) : ∀ (m i : Nat) (a b : Int32), i + m = np → (b = -1 ∨ ∃ j, j < np ∧ b = nI j ∧ S 4 j = 1) → zqR (vhuntL V h m i a b) T (rhuL S T h m i a b) nl np nh nk g
  | 0, _, _, _, _, hb => zq_prey hR hh hg hb
  | m + 1, i, a, b, hi, hb => by
    obtain ⟨p1, p2, p3, p4, p5⟩ := hR.2.2.2.1 i (by omega)
    obtain ⟨h1, h2, h3, h4, h5⟩ := hR.2.2.2.2.1 h hh
    rw [vhuntL, rhuL, p1]
    by_cases c : S 4 i = 1
    · obtain ⟨x1, x2, x3, x4⟩ := p4 (Or.inl c)
      rw [if_pos c, if_pos c, h1, h2, x1, x2, show rapt (S 13 h) (S 14 h) (S 6 i) (S 7 i) = zdst (S 13 h) (S 14 h) (S 6 i) (S 7 i) from rfl]
      generalize zdst (S 13 h) (S 14 h) (S 6 i) (S 7 i) = far
      by_cases c2 : a ≤ far
      · rw [if_pos c2, if_neg (i_nlt c2)]
        exact zq_huntL hR hh hg m (i + 1) a b (by omega) hb
      · rw [if_neg c2, if_pos (i_lt c2)]
        exact zq_huntL hR hh hg m (i + 1) far (nI i) (by omega) (Or.inr ⟨i, by omega, rfl, c⟩)
    · rw [if_neg c, if_neg c, if_neg Int32.lt_irrefl]
      exact zq_huntL hR hh hg m (i + 1) a b (by omega) hb
theorem zq_hunt (hR : zqR V T S nl np nh nk g) {h : Nat} (hh : h < nh) (hg : h ≠ g) : zqR (vhunt V h np) T (rhu S T h np) nl np nh nk g := by
  obtain ⟨h1, h2, h3, h4, h5⟩ := hR.2.2.2.2.1 h hh
  obtain ⟨s1, s2⟩ := (hR.1.2.2.2.2.1 h hh).1 hg
  obtain ⟨r1, r2⟩ := h5 hg
  unfold vhunt rhu
  rw [r1, s1]
  by_cases c : S 15 h ≤ 0
  · rw [if_pos c, if_pos c]
    exact zq_huntL hR hh hg np 0 _ _ (by omega) (Or.inl rfl)
  · rw [if_neg c, if_neg c]
    refine zqR.hwk (i := h) hR (zqS.up (zqS.rf _) rfl) (zqN.up zqN.rf) (zqM.up zqM.rf (by decide) (by decide)) ?_
    simp [zqH, zvu, zup]
    exact ⟨h1, h2, h3, h4, fun q => r2⟩
theorem zq_huntN (hR : zqR V T S nl np nh nk g) {h : Nat} (hh : h < nh) : ∀ (m i : Nat), i + m = np → vhuntL V h m i 0 (-1) = V
  | 0, _, _ => by unfold vhuntL vprey; rw [if_pos (by decide)]
  | m + 1, i, hi => by
    obtain ⟨p1, p2, p3, p4, p5⟩ := hR.2.2.2.1 i (by omega)
    obtain ⟨h1, h2, h3, h4, h5⟩ := hR.2.2.2.2.1 h hh
    rw [vhuntL, p1]
    by_cases c : S 4 i = 1
    · obtain ⟨x1, x2, x3, x4⟩ := p4 (Or.inl c)
      rw [if_pos c, h1, h2, x1, x2, if_pos (zq_dst h3 h4 x3 x4).1]
      exact zq_huntN hR hh m (i + 1) (by omega)
    · rw [if_neg c]
      exact zq_huntN hR hh m (i + 1) (by omega)
/-- the hawk that is left out -/
theorem zq_huntg (hR : zqR V T S nl np nh nk g) {h : Nat} (hh : h < nh) (hg : h = g) : zqR (vhunt V h np) T S nl np nh nk g := by
  obtain ⟨h1, h2, h3, h4, h5⟩ := hR.2.2.2.2.1 h hh
  have s1 := (hR.1.2.2.2.2.1 h hh).2 hg
  unfold vhunt
  rw [s1]
  by_cases c : V 3 h 4 ≤ 0
  · rw [if_pos c, show (-1 : Int32) + 1 = 0 by decide, zq_huntN hR hh np 0 (by omega)]
    exact hR
  · rw [if_neg c]
    refine zqR.hwk (i := h) hR (zqS.up (zqS.rf _) rfl) (zqN.up zqN.rf) zqM.rf ?_
    refine ⟨by simp [zvu]; exact h1, by simp [zvu]; exact h2, h3, h4, fun q => absurd hg q⟩
end ZQF
theorem zq_flL {T : zFn} {nl np nh nk g : Nat} : ∀ (m i : Nat) (V : zV) (S : zFn), zqR V T S nl np nh nk g → i + m = np → zqR (vflL m i V) T (rpl2 T m i S) nl np nh nk g
  | 0, _, _, _, hR, _ => hR
  | m + 1, i, V, S, hR, hi => by
    obtain ⟨p1, -⟩ := hR.2.2.2.1 i (by omega)
    rw [vflL, rpl2, p1]
    by_cases c : S 4 i = 1
    · rw [if_pos c, if_pos c]
      exact zq_flL m (i + 1) _ _ (zq_fly hR (by omega) c) (by omega)
    · rw [if_neg c, if_neg c]
      exact zq_flL m (i + 1) V S hR (by omega)
theorem zq_huL {T : zFn} {nl np nh nk g : Nat} : ∀ (m i : Nat) (V : zV) (S : zFn), zqR V T S nl np nh nk g → i + m = nh → zqR (vhuL np m i V) T (rpl3 T np m i S) nl np nh nk g
  | 0, _, _, _, hR, _ => hR
  | m + 1, i, V, S, hR, hi => by
    have hO := hR.2.1.2.2 i (by omega)
    rw [vhuL, rpl3]
    by_cases c : nI i = S 0 2
    · rw [if_pos c]
      exact zq_huL m (i + 1) _ _ (zq_huntg hR (by omega) (hO.mp c)) (by omega)
    · rw [if_neg c]
      exact zq_huL m (i + 1) _ _ (zq_hunt hR (by omega) (fun e => c (hO.mpr e))) (by omega)
/-- AN HOUR keeps the relation -/
theorem zq_pass {V : zV} {T S : zFn} {nl np nh nk g : Nat} (hR : zqR V T S nl np nh nk g) : zqR (vpass V nl np nh nk) T (rpa S T nl np nh nk) nl np nh nk g := by
  unfold vpass rpa
  dsimp only
  have h := zq_huL nh 0 _ _ (zq_flL np 0 _ _ (zq_slL nk 0 _ _ (zq_mvL nl 0 V S hR (by omega)) (by omega)) (by omega)) (by omega)
  exact h.own (Or.inl ⟨rfl, rfl⟩) (by rw [h.2.1.1])
