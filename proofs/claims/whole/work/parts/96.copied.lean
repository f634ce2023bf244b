/-! A COPY STANDS TO THE REFERENCE AS THE ORIGINAL DOES -/
def zqG (V U : zV) (nl np nh nk : Nat) : Prop := (∀ f, f < 6 → U 0 0 f = V 0 0 f)
  ∧ (∀ i, i < nl → (∀ f, f < 5 → U 1 i f = V 1 i f) ∧ ∀ n, V 1 i 0 = nI n → n ≤ 6 → ∀ j, j < n → U 5 i j = V 5 i j ∧ U 6 i j = V 6 i j)
  ∧ (∀ p, p < np → ∀ f, f < 12 → U 2 p f = V 2 p f)
  ∧ (∀ h, h < nh → ∀ f, f < 6 → U 3 h f = V 3 h f)
  ∧ ∀ k, k < nk → (∀ f, f < 6 → U 4 k f = V 4 k f) ∧ ∀ n, V 4 k 0 = nI n → n ≤ 6 → ∀ j, j < n → U 7 k j = V 7 k j ∧ ∀ z, V 7 k j = nI z → z ≤ 20 → ∀ i, i < z → U 8 k (20 * j + i) = V 8 k (20 * j + i)
theorem zqR.cp {V U : zV} {T S : zFn} {nl np nh nk g : Nat} (hR : zqR V T S nl np nh nk g) (hG : zqG V U nl np nh nk) : zqR U T S nl np nh nk g := by
  obtain ⟨⟨t1, t2, t3, t4, t5, t6⟩, hO, hL, hP, hH, hK⟩ := hR
  obtain ⟨g0, g1, g2, g3, g4⟩ := hG
  refine ⟨⟨t1, ?_, fun i hi => ?_, fun p hp => ?_, fun h hh => ?_, fun k hk => ?_⟩, ?_, fun i hi => ?_, fun p hp => ?_, fun h hh => ?_, fun k hk => ?_⟩
  · rw [g0 0 (by decide), g0 1 (by decide), g0 2 (by decide), g0 3 (by decide)]; exact t2
  · obtain ⟨n, a, b, c, e, f, m, j⟩ := t3 i hi
    obtain ⟨w1, w2⟩ := g1 i hi
    refine ⟨n, a, b, c, by rw [w1 0 (by decide), e], by rw [w1 3 (by decide), f], m, fun q hq => ?_⟩
    rw [(w2 n e b q hq).1, (w2 n e b q hq).2]; exact j q hq
  · rw [g2 p hp 1 (by decide), g2 p hp 3 (by decide), g2 p hp 4 (by decide)]; exact t4 p hp
  · rw [g3 h hh 2 (by decide), g3 h hh 3 (by decide)]; exact t5 h hh
  · obtain ⟨n, a, b, c, e⟩ := t6 k hk
    obtain ⟨w1, w2⟩ := g4 k hk
    refine ⟨n, a, b, by rw [w1 0 (by decide), c], fun j hj => ?_⟩
    obtain ⟨z, u, v, w, t⟩ := e j hj
    obtain ⟨y1, y2⟩ := w2 n c a j hj
    refine ⟨z, u, v, by rw [y1, w], fun i hi => ?_⟩
    rw [y2 z w u i hi]; exact t i hi
  · unfold zqO
    rw [g0 4 (by decide), g0 5 (by decide)]; exact hO
  · have w1 := (g1 i hi).1
    unfold zqL
    rw [w1 1 (by decide), w1 2 (by decide), w1 4 (by decide)]; exact hL i hi
  · have w1 := g2 p hp
    unfold zqP zqX zqA
    rw [w1 0 (by decide), w1 2 (by decide), w1 5 (by decide), w1 6 (by decide), w1 7 (by decide), w1 8 (by decide), w1 9 (by decide), w1 10 (by decide), w1 11 (by decide)]; exact hP p hp
  · have w1 := g3 h hh
    unfold zqH
    rw [w1 0 (by decide), w1 1 (by decide), w1 4 (by decide), w1 5 (by decide)]; exact hH h hh
  · have w1 := (g4 k hk).1
    unfold zqK
    rw [w1 1 (by decide), w1 2 (by decide), w1 3 (by decide), w1 4 (by decide), w1 5 (by decide)]; exact hK k hk
/-- the reference's own copy -/
theorem zqR.bc {V : zV} {T S : zFn} {nl np nh nk g g2 : Nat} (hR : zqR V T S nl np nh nk g) (hg : nh ≤ g) (hg2 : nh ≤ g2) (h7 : g ≠ 7 ∨ g2 = 7) : zqR V T (rbc S) nl np nh nk g2 := by
  have hnh := (zq_np hR).2.2.1
  obtain ⟨⟨t1, t2, t3, t4, t5, t6⟩, hO, hL, hP, hH, hK⟩ := hR
  refine ⟨⟨t1, t2, t3, t4, fun h hh => ⟨fun _ => (t5 h hh).1 (by omega), fun e => by omega⟩, t6⟩, ⟨hO.1, hO.2.1, fun h hh => ⟨fun e => ?_, fun e => by omega⟩⟩, fun i hi => by simpa [zqL, rbc] using hL i hi, fun p hp => ?_, fun h hh => ?_, fun k hk => by simpa [zqK, rbc] using hK k hk⟩
  · exact absurd (show nI h = -1 by simpa [rbc] using e) (nI_m1 (by omega))
  · obtain ⟨p1, p2, p3, p4, p5⟩ := hP p hp
    refine ⟨by simpa [rbc] using p1, by simpa [rbc] using p2, by simpa [rbc] using p3, fun q => ?_, fun q => ?_⟩
    · have q : S 4 p = 1 ∨ (g2 ≠ 7 ∧ S 4 p ≠ 0) := by simpa [rbc] using q
      have := p4 (q.elim Or.inl (fun q => Or.inr ⟨h7.resolve_right q.1, q.2⟩))
      simpa [zqX, rbc] using this
    · have q : S 4 p = 1 := by simpa [rbc] using q
      simpa [zqA, rbc] using p5 q
  · obtain ⟨a, b, c, e, f⟩ := hH h hh
    have f := f (by omega)
    exact ⟨by simpa [rbc] using a, by simpa [rbc] using b, by simpa [rbc] using c, by simpa [rbc] using e, fun _ => by simpa [rbc] using f⟩
/-! what World.copyFrom writes -/
def zqF (P : Nat → Nat → Prop) (V U : zV) : Prop := ∀ q i f, ¬ P q i → U q i f = V q i f
theorem zqF.rf {P : Nat → Nat → Prop} {V : zV} : zqF P V V := fun _ _ _ _ => rfl
theorem zqF.tr {P : Nat → Nat → Prop} {V U W : zV} (h1 : zqF P V U) (h2 : zqF P U W) : zqF P V W := fun q i f h => (h2 q i f h).trans (h1 q i f h)
theorem zqF.up {P : Nat → Nat → Prop} {V U : zV} (h : zqF P V U) {q i f : Nat} {x : Int32} (hP : P q i) : zqF P V (zvu U q i f x) := by
  intro q' i' f' h'
  rw [zvu_ne (by rintro ⟨rfl, rfl, -⟩; exact h' hP)]
  exact h q' i' f' h'
theorem vcpR_at {q k N : Nat} {U : zV} : ∀ (m i : Nat) (V : zV) (f : Nat), vcpR q k N U m i V q k f = if i ≤ f ∧ f < i + m then U q k f else V q k f
  | 0, i, V, f => by rw [vcpR, if_neg (by omega)]
  | m + 1, i, V, f => by
    rw [vcpR, vcpR_at m (i + 1)]
    by_cases h : i + 1 ≤ f ∧ f < i + 1 + m
    · rw [if_pos h, if_pos (by omega)]
    · rw [if_neg h]
      by_cases e : f = i
      · subst e
        rw [zvu_same, if_pos (by omega)]
      · rw [zvu_ne (by omega), if_neg (by omega)]
theorem zqF_R {P : Nat → Nat → Prop} {q k N : Nat} {U W V : zV} (h : zqF P W V) (hP : P q k) (m i : Nat) : zqF P W (vcpR q k N U m i V) := by
  intro q' i' f' h'
  rw [vcpR_ne (by rintro ⟨rfl, rfl⟩; exact h' hP)]
  exact h q' i' f' h'
theorem zqF_cL (W V : zV) (i n : Nat) : zqF (fun q j => (q = 1 ∨ q = 5 ∨ q = 6) ∧ j = i) W (vcpL W V i n) := by
  unfold vcpL vcpL0
  dsimp only
  refine zqF_R (zqF_R ?_ ⟨by omega, rfl⟩ _ _) ⟨by omega, rfl⟩ _ _
  repeat (first | exact zqF.rf | refine zqF.up ?_ ⟨by omega, rfl⟩)
theorem zq_cL (W V : zV) (i n : Nat) : (∀ f, f < 5 → vcpL W V i n 1 i f = V 1 i f) ∧ ∀ j, j < n → vcpL W V i n 5 i j = V 5 i j ∧ vcpL W V i n 6 i j = V 6 i j := by
  unfold vcpL
  refine ⟨fun f hf => ?_, fun j hj => ⟨?_, ?_⟩⟩
  · rw [vcpR_ne (by omega), vcpR_ne (by omega)]
    have h : f = 0 ∨ f = 1 ∨ f = 2 ∨ f = 3 ∨ f = 4 := by omega
    rcases h with rfl | rfl | rfl | rfl | rfl <;> simp [vcpL0, zvu]
  · rw [vcpR_ne (by omega), vcpR_at, if_pos (by omega)]
  · rw [vcpR_at, if_pos (by omega)]
theorem zqF_cP (W V : zV) (i : Nat) : zqF (fun q j => q = 2 ∧ j = i) W (vcpP W V i) := by
  unfold vcpP
  dsimp only
  repeat (first | exact zqF.rf | refine zqF.up ?_ ⟨rfl, rfl⟩)
theorem zq_cP (W V : zV) (i : Nat) : ∀ f, f < 12 → vcpP W V i 2 i f = V 2 i f := by
  intro f hf
  have h : f = 0 ∨ f = 1 ∨ f = 2 ∨ f = 3 ∨ f = 4 ∨ f = 5 ∨ f = 6 ∨ f = 7 ∨ f = 8 ∨ f = 9 ∨ f = 10 ∨ f = 11 := by omega
  rcases h with rfl | rfl | rfl | rfl | rfl | rfl | rfl | rfl | rfl | rfl | rfl | rfl <;> simp [vcpP, zvu]
theorem zqF_cH (W V : zV) (i : Nat) : zqF (fun q j => q = 3 ∧ j = i) W (vcpH W V i) := by
  unfold vcpH
  dsimp only
  repeat (first | exact zqF.rf | refine zqF.up ?_ ⟨rfl, rfl⟩)
theorem zq_cH (W V : zV) (i : Nat) : ∀ f, f < 6 → vcpH W V i 3 i f = V 3 i f := by
  intro f hf
  have h : f = 0 ∨ f = 1 ∨ f = 2 ∨ f = 3 ∨ f = 4 ∨ f = 5 := by omega
  rcases h with rfl | rfl | rfl | rfl | rfl | rfl <;> simp [vcpH, zvu]
theorem zqF_cT {k : Nat} {V : zV} : ∀ (m j : Nat) (W : zV), zqF (fun q i => (q = 4 ∨ q = 7 ∨ q = 8) ∧ i = k) W (vcpT k V m j W)
  | 0, _, _ => zqF.rf
  | m + 1, j, W => by
    rw [vcpT]
    exact (zqF_R (zqF.up zqF.rf ⟨by omega, rfl⟩) ⟨by omega, rfl⟩ _ _).tr (zqF_cT m (j + 1) _)
theorem zq_cT4 {k : Nat} {V : zV} : ∀ (m j : Nat) (W : zV) (f : Nat), vcpT k V m j W 4 k f = W 4 k f
  | 0, _, _, _ => rfl
  | m + 1, j, W, f => by
    rw [vcpT, zq_cT4 m (j + 1), vcpR_ne (by omega), zvu_ne (by omega)]
theorem zq_cT {k n : Nat} {V : zV} (hz : ∀ j, j < n → ∃ z, z ≤ 20 ∧ V 7 k j = nI z) : ∀ (m i : Nat) (W : zV), i + m = n → (∀ j, j < i → W 7 k j = V 7 k j ∧ ∀ z, V 7 k j = nI z → z ≤ 20 → ∀ c, c < z → W 8 k (20 * j + c) = V 8 k (20 * j + c)) → ∀ j, j < n → vcpT k V m i W 7 k j = V 7 k j ∧ ∀ z, V 7 k j = nI z → z ≤ 20 → ∀ c, c < z → vcpT k V m i W 8 k (20 * j + c) = V 8 k (20 * j + c)
  | 0, i, W, hi, hW, j, hj => by
    rw [vcpT]
    exact hW j (by omega)
  | m + 1, i, W, hi, hW, j, hj => by
    rw [vcpT]
    refine zq_cT hz m (i + 1) _ (by omega) (fun q hq => ⟨?_, fun z ez z20 c hc => ?_⟩) j hj
    · rw [vcpR_ne (by omega)]
      by_cases e : q = i
      · subst e; rw [zvu_same]
      · rw [zvu_ne (by omega)]
        exact (hW q (by omega)).1
    · obtain ⟨y, hy, ey⟩ := hz i (by omega)
      rw [ey, nI_clamp (by omega), vcpR_at]
      by_cases e : i * 20 ≤ 20 * q + c ∧ 20 * q + c < i * 20 + y
      · rw [if_pos e]
      · rw [if_neg e, zvu_ne (by omega)]
        have hq2 : q ≠ i := by
          rintro rfl
          rw [ey] at ez
          have := (nI_eq (by omega) (by omega)).mp ez
          omega
        exact (hW q (by omega)).2 z ez z20 c hc
theorem zqF_cK (W V : zV) (k n : Nat) : zqF (fun q i => (q = 4 ∨ q = 7 ∨ q = 8) ∧ i = k) W (vcpK W V k n) := by
  unfold vcpK
  refine zqF.tr ?_ (zqF_cT _ _ _)
  unfold vcpK0
  dsimp only
  repeat (first | exact zqF.rf | refine zqF.up ?_ ⟨by omega, rfl⟩)
theorem zq_cK {W V : zV} {k n : Nat} (hz : ∀ j, j < n → ∃ z, z ≤ 20 ∧ V 7 k j = nI z) : (∀ f, f < 6 → vcpK W V k n 4 k f = V 4 k f) ∧ ∀ j, j < n → vcpK W V k n 7 k j = V 7 k j ∧ ∀ z, V 7 k j = nI z → z ≤ 20 → ∀ c, c < z → vcpK W V k n 8 k (20 * j + c) = V 8 k (20 * j + c) := by
  unfold vcpK
  refine ⟨fun f hf => ?_, zq_cT hz n 0 _ (by omega) (fun j hj => absurd hj (by omega))⟩
  rw [zq_cT4]
  have h : f = 0 ∨ f = 1 ∨ f = 2 ∨ f = 3 ∨ f = 4 ∨ f = 5 := by omega
  rcases h with rfl | rfl | rfl | rfl | rfl | rfl <;> simp [vcpK0, zvu]
theorem zqF_LL {V : zV} : ∀ (m i : Nat) (W : zV), zqF (fun q j => (q = 1 ∨ q = 5 ∨ q = 6) ∧ i ≤ j) W (vcpLL V m i W)
  | 0, _, _ => zqF.rf
  | m + 1, i, W => by
    rw [vcpLL]
    intro q j f h
    rw [zqF_LL m (i + 1) _ q j f (by omega), zqF_cL _ _ _ _ q j f (by omega)]
theorem zq_LL {V : zV} {nl : Nat} (hz : ∀ i, i < nl → ∃ n, n ≤ 6 ∧ V 1 i 0 = nI n) : ∀ (m i : Nat) (W : zV), i + m = nl → ∀ j, i ≤ j → j < nl → (∀ f, f < 5 → vcpLL V m i W 1 j f = V 1 j f) ∧ ∀ n, V 1 j 0 = nI n → n ≤ 6 → ∀ c, c < n → vcpLL V m i W 5 j c = V 5 j c ∧ vcpLL V m i W 6 j c = V 6 j c
  | 0, i, W, hi, j, h1, h2 => absurd h1 (by omega)
  | m + 1, i, W, hi, j, h1, h2 => by
    rw [vcpLL]
    by_cases e : j = i
    · subst e
      have hF := fun q f h => zqF_LL (V := V) m (j + 1) (vcpL W V j (V 1 j 0).toNatClampNeg) q j f h
      obtain ⟨a, b⟩ := zq_cL W V j (V 1 j 0).toNatClampNeg
      refine ⟨fun f hf => by rw [hF 1 f (by omega)]; exact a f hf, fun n en n6 c hc => ?_⟩
      rw [hF 5 c (by omega), hF 6 c (by omega)]
      exact b c (by rw [en, nI_clamp (by omega)]; exact hc)
    · exact zq_LL hz m (i + 1) _ (by omega) j (by omega) h2
theorem zqF_PL {V : zV} : ∀ (m i : Nat) (W : zV), zqF (fun q j => q = 2 ∧ i ≤ j) W (vcpPL V m i W)
  | 0, _, _ => zqF.rf
  | m + 1, i, W => by
    rw [vcpPL]
    intro q j f h
    rw [zqF_PL m (i + 1) _ q j f (by omega), zqF_cP _ _ _ q j f (by omega)]
theorem zq_PL {V : zV} {np : Nat} : ∀ (m i : Nat) (W : zV), i + m = np → ∀ j, i ≤ j → j < np → ∀ f, f < 12 → vcpPL V m i W 2 j f = V 2 j f
  | 0, i, W, hi, j, h1, h2, _, _ => absurd h1 (by omega)
  | m + 1, i, W, hi, j, h1, h2, f, hf => by
    rw [vcpPL]
    by_cases e : j = i
    · subst e
      rw [zqF_PL (V := V) m (j + 1) (vcpP W V j) 2 j f (by omega)]
      exact zq_cP W V j f hf
    · exact zq_PL m (i + 1) _ (by omega) j (by omega) h2 f hf
theorem zqF_HL {V : zV} : ∀ (m i : Nat) (W : zV), zqF (fun q j => q = 3 ∧ i ≤ j) W (vcpHL V m i W)
  | 0, _, _ => zqF.rf
  | m + 1, i, W => by
    rw [vcpHL]
    intro q j f h
    rw [zqF_HL m (i + 1) _ q j f (by omega), zqF_cH _ _ _ q j f (by omega)]
theorem zq_HL {V : zV} {nh : Nat} : ∀ (m i : Nat) (W : zV), i + m = nh → ∀ j, i ≤ j → j < nh → ∀ f, f < 6 → vcpHL V m i W 3 j f = V 3 j f
  | 0, i, W, hi, j, h1, h2, _, _ => absurd h1 (by omega)
  | m + 1, i, W, hi, j, h1, h2, f, hf => by
    rw [vcpHL]
    by_cases e : j = i
    · subst e
      rw [zqF_HL (V := V) m (j + 1) (vcpH W V j) 3 j f (by omega)]
      exact zq_cH W V j f hf
    · exact zq_HL m (i + 1) _ (by omega) j (by omega) h2 f hf
theorem zqF_KL {V : zV} : ∀ (m i : Nat) (W : zV), zqF (fun q j => (q = 4 ∨ q = 7 ∨ q = 8) ∧ i ≤ j) W (vcpKL V m i W)
  | 0, _, _ => zqF.rf
  | m + 1, i, W => by
    rw [vcpKL]
    intro q j f h
    rw [zqF_KL m (i + 1) _ q j f (by omega), zqF_cK _ _ _ _ q j f (by omega)]
theorem zq_KL {V : zV} {nk : Nat} (hz : ∀ k, k < nk → ∃ n, n ≤ 6 ∧ V 4 k 0 = nI n ∧ ∀ j, j < n → ∃ z, z ≤ 20 ∧ V 7 k j = nI z) : ∀ (m i : Nat) (W : zV), i + m = nk → ∀ k, i ≤ k → k < nk → (∀ f, f < 6 → vcpKL V m i W 4 k f = V 4 k f) ∧ ∀ n, V 4 k 0 = nI n → n ≤ 6 → ∀ j, j < n → vcpKL V m i W 7 k j = V 7 k j ∧ ∀ z, V 7 k j = nI z → z ≤ 20 → ∀ c, c < z → vcpKL V m i W 8 k (20 * j + c) = V 8 k (20 * j + c)
  | 0, i, W, hi, k, h1, h2 => absurd h1 (by omega)
  | m + 1, i, W, hi, k, h1, h2 => by
    rw [vcpKL]
    by_cases e : k = i
    · subst e
      have hF := fun q f h => zqF_KL (V := V) m (k + 1) (vcpK W V k (V 4 k 0).toNatClampNeg) q k f h
      obtain ⟨n, hn, en, hj⟩ := hz k h2
      have hc : (V 4 k 0).toNatClampNeg = n := by rw [en, nI_clamp (by omega)]
      rw [hc] at hF ⊢
      obtain ⟨a, b⟩ := zq_cK (W := W) hj
      refine ⟨fun f hf => by rw [hF 4 f (by omega)]; exact a f hf, fun n' en' n6 j hjn => ?_⟩
      have : n' = n := by rw [en] at en'; exact ((nI_eq (by omega) (by omega)).mp en').symm
      subst this
      rw [hF 7 j (by omega)]
      refine ⟨(b j hjn).1, fun z ez z20 c hc => ?_⟩
      rw [hF 8 _ (by omega)]
      exact (b j hjn).2 z ez z20 c hc
    · exact zq_KL hz m (i + 1) _ (by omega) k (by omega) h2
theorem zq_cpW {V U : zV} {nl np nh nk : Nat} (hl : ∀ i, i < nl → ∃ n, n ≤ 6 ∧ V 1 i 0 = nI n) (hk : ∀ k, k < nk → ∃ n, n ≤ 6 ∧ V 4 k 0 = nI n ∧ ∀ j, j < n → ∃ z, z ≤ 20 ∧ V 7 k j = nI z) : zqG V (vcpW U V nl np nh nk) nl np nh nk := by
  unfold vcpW
  have F4 := fun W => zqF_KL (V := V) nk 0 W
  have F3 := fun W => zqF_HL (V := V) nh 0 W
  have F2 := fun W => zqF_PL (V := V) np 0 W
  have F1 := fun W => zqF_LL (V := V) nl 0 W
  refine ⟨fun f hf => ?_, fun i hi => ?_, fun p hp f hf => ?_, fun h hh f hf => ?_, fun k hk' => zq_KL hk nk 0 _ (by omega) k (by omega) hk'⟩
  · rw [F4 _ 0 0 f (by omega), F3 _ 0 0 f (by omega), F2 _ 0 0 f (by omega), F1 _ 0 0 f (by omega)]
    have h : f = 0 ∨ f = 1 ∨ f = 2 ∨ f = 3 ∨ f = 4 ∨ f = 5 := by omega
    rcases h with rfl | rfl | rfl | rfl | rfl | rfl <;> simp [vcpW0, zvu]
  · obtain ⟨a, b⟩ := zq_LL hl nl 0 (vcpW0 U V) (by omega) i (by omega) hi
    refine ⟨fun f hf => ?_, fun n en n6 j hj => ?_⟩
    · rw [F4 _ 1 i f (by omega), F3 _ 1 i f (by omega), F2 _ 1 i f (by omega)]
      exact a f hf
    · rw [F4 _ 5 i j (by omega), F3 _ 5 i j (by omega), F2 _ 5 i j (by omega), F4 _ 6 i j (by omega), F3 _ 6 i j (by omega), F2 _ 6 i j (by omega)]
      exact b n en n6 j hj
  · rw [F4 _ 2 p f (by omega), F3 _ 2 p f (by omega)]
    exact zq_PL np 0 _ (by omega) p (by omega) hp f hf
  · rw [F4 _ 3 h f (by omega)]
    exact zq_HL nh 0 _ (by omega) h (by omega) hh f hf
theorem zqR.wg {V : zV} {T S : zFn} {nl np nh nk g : Nat} (hR : zqR V T S nl np nh nk g) : (∀ i, i < nl → ∃ n, n ≤ 6 ∧ V 1 i 0 = nI n) ∧ ∀ k, k < nk → ∃ n, n ≤ 6 ∧ V 4 k 0 = nI n ∧ ∀ j, j < n → ∃ z, z ≤ 20 ∧ V 7 k j = nI z := by
  refine ⟨fun i hi => ?_, fun k hk => ?_⟩
  · obtain ⟨n, a, b, c, e, f, m, j⟩ := hR.1.2.2.1 i hi
    exact ⟨n, b, e⟩
  · obtain ⟨n, a, b, c, e⟩ := hR.1.2.2.2.2.2 k hk
    refine ⟨n, a, c, fun j hj => ?_⟩
    obtain ⟨z, u, v, w, t⟩ := e j hj
    exact ⟨z, u, w⟩
/-- spare as now -/
theorem zq_copy {V U : zV} {T S : zFn} {nl np nh nk g2 : Nat} (hR : zqR V T S nl np nh nk 6) (hg2 : nh ≤ g2) : zqR (vcpW U V nl np nh nk) T (rbc S) nl np nh nk g2 := by
  obtain ⟨a, b⟩ := hR.wg
  exact (hR.bc (zq_np hR).2.2.1 hg2 (Or.inl (by decide))).cp (zq_cpW a b)
/-- a hawk left out -/
theorem zq_out {U : zV} {T A : zFn} {nl np nh nk i : Nat} (hR : zqR U T A nl np nh nk 6) (hi : i < nh) : zqR (vta U i) T (zup A 0 2 (nI i)) nl np nh nk i := by
  have hnh := (zq_np hR).2.2.1
  obtain ⟨⟨t1, t2, t3, t4, t5, t6⟩, hO, hL, hP, hH, hK⟩ := hR
  unfold vta
  refine ⟨⟨t1, by simpa [zvu] using t2, fun q hq => ?_, fun p hp => by simpa [zvu] using t4 p hp, fun h hh => ⟨fun e => ?_, fun e => ?_⟩, fun k hk => ?_⟩, ⟨by simpa [zvu, zup] using hO.1, by simpa [zvu, zup] using hO.2.1, fun h hh => ?_⟩, fun q hq => by simpa [zqL, zvu, zup] using hL q hq, fun p hp => ?_, fun h hh => ?_, fun k hk => by simpa [zqK, zvu, zup] using hK k hk⟩
  · simpa [zvu] using t3 q hq
  · simpa [zvu, e] using (t5 h hh).1 (by omega)
  · simp [zvu, e]
  · simpa [zvu] using t6 k hk
  · rw [zup_same]
    exact nI_eq (by omega) (by omega)
  · obtain ⟨p1, p2, p3, p4, p5⟩ := hP p hp
    refine ⟨by simpa [zvu, zup] using p1, by simpa [zvu, zup] using p2, by simpa [zup] using p3, fun q => ?_, fun q => ?_⟩
    · have q : A 4 p = 1 ∨ (i ≠ 7 ∧ A 4 p ≠ 0) := by simpa [zup] using q
      have := p4 (q.elim Or.inl (fun q => Or.inr ⟨by decide, q.2⟩))
      simpa [zqX, zvu, zup] using this
    · have q : A 4 p = 1 := by simpa [zup] using q
      simpa [zqA, zvu, zup] using p5 q
  · obtain ⟨a, b, c, e, f⟩ := hH h hh
    have f := f (by omega)
    exact ⟨by simpa [zvu, zup] using a, by simpa [zvu, zup] using b, by simpa [zup] using c, by simpa [zup] using e, fun _ => by simpa [zvu, zup] using f⟩
