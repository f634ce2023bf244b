/-! BEGINNING AS A TEXT TELLS -/
theorem rb1_at {T : zFn} {w : Nat → Int32} (hw : ∀ k, (if T 1 k ≤ 1 then (0 : Int32) else 1) = w k) : ∀ (m i : Nat) (S : zFn) (j k : Nat), rb1 T m i S j k = if i ≤ k ∧ k < i + m ∧ j = 1 then T 2 (6 * k) else if i ≤ k ∧ k < i + m ∧ j = 2 then T 3 (6 * k) else if i ≤ k ∧ k < i + m ∧ j = 3 then w k else S j k
  | 0, i, S, j, k => by rw [rb1, if_neg (by omega), if_neg (by omega), if_neg (by omega)]
  | m + 1, i, S, j, k => by
    have hs : rb1 T (m + 1) i S = rb1 T m (i + 1) (zup (zup (zup S 1 i (T 2 (6 * i))) 2 i (T 3 (6 * i))) 3 i (w i)) := by
      rw [rb1, ← hw i]
      dsimp only
      split <;> rfl
    rw [hs, rb1_at hw m (i + 1)]
    by_cases e : k = i
    · subst e
      rw [if_neg (by omega), if_neg (by omega), if_neg (by omega)]
      by_cases c1 : j = 1
      · subst c1
        rw [if_pos (by omega), zup_ne (by omega), zup_ne (by omega), zup_same]
      · rw [if_neg (by omega)]
        by_cases c2 : j = 2
        · subst c2
          rw [if_pos (by omega), zup_ne (by omega), zup_same]
        · rw [if_neg (by omega)]
          by_cases c3 : j = 3
          · subst c3
            rw [if_pos (by omega), zup_same]
          · rw [if_neg (by omega), zup_ne (by omega), zup_ne (by omega), zup_ne (by omega)]
    · rw [zup_ne (by omega), zup_ne (by omega), zup_ne (by omega)]
      by_cases c1 : i + 1 ≤ k ∧ k < i + 1 + m
      · by_cases d1 : j = 1
        · rw [if_pos (by omega), if_pos (by omega)]
        · rw [if_neg (by omega), if_neg (show ¬ (i ≤ k ∧ k < i + (m + 1) ∧ j = 1) by omega)]
          by_cases d2 : j = 2
          · rw [if_pos (by omega), if_pos (by omega)]
          · rw [if_neg (by omega), if_neg (show ¬ (i ≤ k ∧ k < i + (m + 1) ∧ j = 2) by omega)]
            by_cases d3 : j = 3
            · rw [if_pos (by omega), if_pos (by omega)]
            · rw [if_neg (by omega), if_neg (by omega)]
      · rw [if_neg (by omega), if_neg (by omega), if_neg (by omega), if_neg (by omega), if_neg (by omega), if_neg (by omega)]
theorem rb2_at {T : zFn} : ∀ (m i : Nat) (S : zFn) (j k : Nat), rb2 T m i S j k = if i ≤ k ∧ k < i + m ∧ (j = 4 ∨ j = 10) then 0 else if i ≤ k ∧ k < i + m ∧ j = 5 then T 6 k else S j k
  | 0, i, S, j, k => by rw [rb2, if_neg (by omega), if_neg (by omega)]
  | m + 1, i, S, j, k => by
    rw [rb2]
    rw [rb2_at m (i + 1)]
    by_cases e : k = i
    · subst e
      rw [if_neg (by omega), if_neg (by omega)]
      by_cases c1 : j = 10
      · subst c1
        rw [if_pos (by omega), zup_same]
      · rw [zup_ne (by omega)]
        by_cases c2 : j = 5
        · subst c2
          rw [if_neg (by omega), if_pos (by omega), zup_same]
        · rw [zup_ne (by omega)]
          by_cases c3 : j = 4
          · subst c3
            rw [if_pos (by omega), zup_same]
          · rw [if_neg (by omega), if_neg (by omega), zup_ne (by omega)]
    · rw [zup_ne (by omega), zup_ne (by omega), zup_ne (by omega)]
      by_cases c1 : i + 1 ≤ k ∧ k < i + 1 + m
      · by_cases d1 : j = 4 ∨ j = 10
        · rw [if_pos (by omega), if_pos (by omega)]
        · rw [if_neg (by omega), if_neg (show ¬ (i ≤ k ∧ k < i + (m + 1) ∧ (j = 4 ∨ j = 10)) by omega)]
          by_cases d2 : j = 5
          · rw [if_pos (by omega), if_pos (by omega)]
          · rw [if_neg (by omega), if_neg (by omega)]
      · rw [if_neg (by omega), if_neg (by omega), if_neg (by omega), if_neg (by omega)]
theorem rb3_at : ∀ (m i : Nat) (S : zFn) (j k : Nat), rb3 m i S j k = if i ≤ k ∧ k < i + m ∧ (j = 15 ∨ j = 16) then 0 else S j k
  | 0, i, S, j, k => by rw [rb3, if_neg (by omega)]
  | m + 1, i, S, j, k => by
    rw [rb3]
    rw [rb3_at m (i + 1)]
    by_cases e : k = i
    · subst e
      rw [if_neg (by omega)]
      by_cases c1 : j = 16
      · subst c1
        rw [if_pos (by omega), zup_same]
      · rw [zup_ne (by omega)]
        by_cases c2 : j = 15
        · subst c2
          rw [if_pos (by omega), zup_same]
        · rw [if_neg (by omega), zup_ne (by omega)]
    · rw [zup_ne (by omega), zup_ne (by omega)]
      by_cases c1 : i + 1 ≤ k ∧ k < i + 1 + m ∧ (j = 15 ∨ j = 16)
      · rw [if_pos c1, if_pos (by omega)]
      · rw [if_neg c1, if_neg (by omega)]
theorem rb4_at : ∀ (m i : Nat) (S : zFn) (j k : Nat), rb4 m i S j k = if i ≤ k ∧ k < i + m ∧ (j = 18 ∨ j = 19 ∨ j = 21) then 0 else if i ≤ k ∧ k < i + m ∧ j = 20 then -1 else S j k
  | 0, i, S, j, k => by rw [rb4, if_neg (by omega), if_neg (by omega)]
  | m + 1, i, S, j, k => by
    rw [rb4]
    rw [rb4_at m (i + 1)]
    by_cases e : k = i
    · subst e
      rw [if_neg (by omega), if_neg (by omega)]
      by_cases c1 : j = 21
      · subst c1
        rw [if_pos (by omega), zup_same]
      · rw [zup_ne (by omega)]
        by_cases c2 : j = 20
        · subst c2
          rw [if_neg (by omega), if_pos (by omega), zup_same]
        · rw [zup_ne (by omega)]
          by_cases c3 : j = 19
          · subst c3
            rw [if_pos (by omega), zup_same]
          · rw [zup_ne (by omega)]
            by_cases c4 : j = 18
            · subst c4
              rw [if_pos (by omega), zup_same]
            · rw [if_neg (by omega), if_neg (by omega), zup_ne (by omega)]
    · rw [zup_ne (by omega), zup_ne (by omega), zup_ne (by omega), zup_ne (by omega)]
      by_cases c1 : i + 1 ≤ k ∧ k < i + 1 + m
      · by_cases d1 : j = 18 ∨ j = 19 ∨ j = 21
        · rw [if_pos (by omega), if_pos (by omega)]
        · rw [if_neg (by omega), if_neg (show ¬ (i ≤ k ∧ k < i + (m + 1) ∧ (j = 18 ∨ j = 19 ∨ j = 21)) by omega)]
          by_cases d2 : j = 20
          · rw [if_pos (by omega), if_pos (by omega)]
          · rw [if_neg (by omega), if_neg (by omega)]
      · rw [if_neg (by omega), if_neg (by omega), if_neg (by omega), if_neg (by omega)]
theorem rbeg_at (S T : zFn) (nl np j k : Nat) : rbeg S T nl np j k = if k < 12 ∧ (j = 18 ∨ j = 19 ∨ j = 21) then 0 else if k < 12 ∧ j = 20 then -1 else if k < 6 ∧ (j = 15 ∨ j = 16) then 0 else if j = 17 then T 13 k else if j = 14 then T 10 k else if j = 13 then T 9 k else if k < np ∧ (j = 4 ∨ j = 10) then 0 else if k < np ∧ j = 5 then T 6 k else if k < nl ∧ j = 1 then T 2 (6 * k) else if k < nl ∧ j = 2 then T 3 (6 * k) else if k < nl ∧ j = 3 then (if T 1 k ≤ 1 then 0 else 1) else S j k := by
  unfold rbeg
  rw [rb4_at, rb3_at]
  unfold zrow
  rw [rb2_at, rb1_at (w := fun k => if T 1 k ≤ 1 then 0 else 1) (fun _ => rfl)]
  simp only [Nat.zero_le, true_and, Nat.zero_add]
theorem zq_begin {V : zV} {P X : zFn} {a nl np nh nk : Nat} {T S : zFn} (h : zqMB V P X a nl np nh nk T) (hS : ∀ h, h < nh → (nI h = S 0 2 ↔ h = 6)) {x y : Int32} (hx : x = S 0 0) (hy : y = S 0 1) : zqR (zvu (zvu V 0 0 4 x) 0 0 5 y) T (rbeg S T nl np) nl np nh nk 6 := by
  obtain ⟨⟨⟨c1, c2, c3⟩, ⟨c4, c5, c6⟩, ⟨c7, c8, c9⟩, c10, c11, c12⟩, -, ⟨o1, o2, o3, o4⟩, -, -⟩ := h
  have hk : ∀ q i f, q ≠ 0 → zvu (zvu V 0 0 4 x) 0 0 5 y q i f = V q i f := fun q i f hq => by rw [zvu_ne (by omega), zvu_ne (by omega)]
  refine ⟨⟨⟨c2, c3, c5, c6, c8, c9, c11, c12⟩, ⟨by simp [zvu]; exact c1, by simp [zvu]; exact c4, by simp [zvu]; exact c7, by simp [zvu]; exact c10⟩, fun i hi => ?_, fun p hp => ?_, fun q hq => ?_, fun k hk' => ?_⟩, ⟨?_, ?_, ?_⟩, fun i hi => ?_, fun p hp => ?_, fun q hq => ?_, fun k hk' => ?_⟩
  · obtain ⟨n, n1, n6, e1, e2, e3, e4, e5, e6, e7, e8⟩ := o1 i hi
    exact ⟨n, n1, n6, e1, by rw [hk 1 i 0 (by decide), e2], by rw [hk 1 i 3 (by decide), e3], e4, fun j hj => by rw [hk 5 i j (by decide), hk 6 i j (by decide)]; exact e5 j hj⟩
  · obtain ⟨e1, e2, e3, e4, e5, e6, e7, e8, e9⟩ := o2 p hp
    rw [hk 2 p 1 (by decide), hk 2 p 3 (by decide), hk 2 p 4 (by decide)]
    exact ⟨e2, e4, e5, e6, e8, e9⟩
  · obtain ⟨e1, e2, e3, e4, e5, e6, e7, e8⟩ := o3 q hq
    rw [hk 3 q 2 (by decide), hk 3 q 3 (by decide)]
    exact ⟨fun _ => ⟨e3, e4⟩, fun w => by omega⟩
  · obtain ⟨e1, e2, e3, e4, e5, e6, n, e7, e8, e9, e10⟩ := o4 k hk'
    refine ⟨n, e7, e8, by rw [hk 4 k 0 (by decide), e9], fun j hj => ?_⟩
    obtain ⟨z, b1, b2, b3, b4⟩ := e10 j hj
    exact ⟨z, b1, b2, by rw [hk 7 k j (by decide), b3], fun i hi => by rw [hk 8 k _ (by decide)]; exact b4 i hi⟩
  · rw [rbeg_at]; simp [zvu]; exact hx
  · rw [rbeg_at]; simp [zvu]; exact hy
  · intro q hq
    rw [show rbeg S T nl np 0 2 = S 0 2 by rw [rbeg_at]; simp]
    exact hS q hq
  · obtain ⟨n, n1, n6, e1, e2, e3, e4, e5, e6, e7, e8⟩ := o1 i hi
    have r1 : rbeg S T nl np 1 i = T 2 (6 * i) := by rw [rbeg_at]; simp [hi]
    have r2 : rbeg S T nl np 2 i = T 3 (6 * i) := by rw [rbeg_at]; simp [hi]
    have r3 : rbeg S T nl np 3 i = if T 1 i ≤ 1 then 0 else 1 := by rw [rbeg_at]; simp [hi]
    have q0 := e5 0 (by omega)
    rw [Nat.add_zero] at q0
    unfold zqL
    rw [r1, r2, r3, hk 1 i 1 (by decide), hk 1 i 2 (by decide), hk 1 i 4 (by decide), e8, e1]
    refine ⟨e6, e7, ?_, q0.2.2.1, q0.2.2.2, ?_, ?_⟩
    · by_cases c : 1 < n
      · rw [if_pos c, if_neg (show ¬ nI n ≤ 1 from nI_ge (a := 1) c (by omega))]
      · rw [if_neg c, if_pos (show nI n ≤ 1 from nI_le (b := 1) (by omega) (by decide))]
    · split <;> decide
    · by_cases c : 1 < n
      · rw [if_neg (show ¬ nI n ≤ 1 from nI_ge (a := 1) c (by omega))]
        exact nI_lt (a := 1) c (by omega)
      · rw [if_pos (show nI n ≤ 1 from nI_le (b := 1) (by omega) (by decide))]
        exact nI_lt (a := 0) (by omega) (by omega)
  · obtain ⟨e1, e2, e3, e4, e5, e6, e7, e8, e9⟩ := o2 p hp
    have r1 : rbeg S T nl np 4 p = 0 := by rw [rbeg_at]; simp [hp]
    have r2 : rbeg S T nl np 5 p = T 6 p := by rw [rbeg_at]; simp [hp]
    unfold zqP
    rw [r1, r2, hk 2 p 0 (by decide), hk 2 p 2 (by decide)]
    exact ⟨e1, e3, e7, fun w => by rcases w with w | w; exact absurd w (by decide); exact absurd rfl w.2, fun w => absurd w (by decide)⟩
  · obtain ⟨e1, e2, e3, e4, e5, e6, e7, e8⟩ := o3 q hq
    have h6 : q < 6 := by omega
    have r1 : rbeg S T nl np 13 q = T 9 q := by rw [rbeg_at]; simp
    have r2 : rbeg S T nl np 14 q = T 10 q := by rw [rbeg_at]; simp
    have r3 : rbeg S T nl np 15 q = 0 := by rw [rbeg_at]; simp [h6]
    have r4 : rbeg S T nl np 16 q = 0 := by rw [rbeg_at]; simp [h6]
    unfold zqH
    rw [r1, r2, r3, r4, hk 3 q 0 (by decide), hk 3 q 1 (by decide), hk 3 q 4 (by decide), hk 3 q 5 (by decide)]
    exact ⟨e1, e2, e7, e8, fun _ => ⟨e5, e6⟩⟩
  · obtain ⟨e1, e2, e3, e4, e5, e6, n, e7, e8, e9, e10⟩ := o4 k hk'
    have h12 : k < 12 := by omega
    have r1 : rbeg S T nl np 17 k = T 13 k := by rw [rbeg_at]; simp
    have r2 : rbeg S T nl np 18 k = 0 := by rw [rbeg_at]; simp [h12]
    have r3 : rbeg S T nl np 19 k = 0 := by rw [rbeg_at]; simp [h12]
    have r4 : rbeg S T nl np 20 k = -1 := by rw [rbeg_at]; simp [h12]
    have r5 : rbeg S T nl np 21 k = 0 := by rw [rbeg_at]; simp [h12]
    unfold zqK
    rw [r1, r2, r3, r4, r5, hk 4 k 1 (by decide), hk 4 k 2 (by decide), hk 4 k 3 (by decide), hk 4 k 4 (by decide), hk 4 k 5 (by decide), e8]
    exact ⟨e1, e3, e4, e5, e6, e2, by decide, nI_pos' (by omega)⟩
theorem zq_beginI {V : zV} {P X : zFn} {a nl np nh nk : Nat} {T S T0 : zFn} (h : zqMB V P X a nl np nh nk T) (hI : zIN T0 S) : zIN T (rbeg S T nl np) ∧ zTN T nl np nh nk := by
  obtain ⟨⟨⟨c1, c2, c3⟩, ⟨c4, c5, c6⟩, ⟨c7, c8, c9⟩, c10, c11, c12⟩, -, ⟨o1, o2, o3, o4⟩, -, t1, t2, t3, t4, t5⟩ := h
  obtain ⟨i1, i2, i3, i4, i5⟩ := hI
  refine ⟨⟨fun p hp => ⟨(t1 p hp).1, ?_, ?_⟩, fun k hk => ⟨t2 k hk, ?_⟩, fun k hk => ?_, t4, t5⟩, c2, c3, c5, c6, c8, c9, c11, c12⟩
  · by_cases c : p < np
    · rw [show rbeg S T nl np 5 p = T 6 p by rw [rbeg_at]; simp [c]]
      exact (t1 p hp).2
    · rw [show rbeg S T nl np 5 p = S 5 p by rw [rbeg_at]; simp [c]]
      exact (i1 p hp).2.1
  · rw [show rbeg S T nl np 11 p = S 11 p by rw [rbeg_at]; simp]
    exact (i1 p hp).2.2
  · by_cases c : k < nl
    · rw [show rbeg S T nl np 3 k = if T 1 k ≤ 1 then 0 else 1 by rw [rbeg_at]; simp [c]]
      split
      · exact ⟨by decide, by decide⟩
      · exact ⟨by decide, by decide⟩
    · rw [show rbeg S T nl np 3 k = S 3 k by rw [rbeg_at]; simp [c]]
      exact (i2 k hk).2
  · rw [show rbeg S T nl np 18 k = 0 by rw [rbeg_at]; simp [hk]]
    obtain ⟨n, hn, en⟩ := (t3 k hk).ex (by decide)
    exact ⟨n, 0, en, rfl, by omega, by omega⟩
