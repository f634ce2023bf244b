/-! the start's picture, put together -/
def zsa (ad : Nat → Nat) (str : Nat → Nat × Nat) (qK qW b : Nat) (k : Nat) : Nat :=
  if k < 20 then ad k else if k = 20 then qK else if k = 21 then qW else if k < 23 then 0 else if k < 38 then (str (k - 23)).1 else if k < 53 then (str (k - 38)).2 else if k < 67 then (str (k - 38)).1 else if k < 81 then (str (k - 52)).2 else b
def zeE (a : Option zE) (b : zE) : Bool := match a with
  | some (t, x, y, z) => decide (t = b.1) && decide (x = b.2.1) && decide (y = b.2.2.1) && z.isEmpty && b.2.2.2.isEmpty
  | none => false
theorem zeE_ok {a : Option zE} {b : zE} (h : zeE a b = true) : a = some b := by
  unfold zeE at h
  split at h
  · rename_i t x y z
    obtain ⟨t', x', y', z'⟩ := b
    simp only [Bool.and_eq_true, decide_eq_true_eq, List.isEmpty_iff] at h
    obtain ⟨⟨⟨⟨rfl, rfl⟩, rfl⟩, rfl⟩, h5⟩ := h
    have h5 : z' = [] := h5
    rw [h5]
  · cases h
theorem zt_1 (k : Nat) (hk : k < 20) : zm0c[k]? = some (33, [], [some (23 + zkw.getD k 0)], []) ∧ zkw.getD k 0 < 15 := by
  have h : ∀ k, k < 20 → zeE zm0c[k]? (33, [], [some (23 + zkw.getD k 0)], []) = true ∧ zkw.getD k 0 < 15 := by decide +kernel
  exact ⟨zeE_ok (h k hk).1, (h k hk).2⟩
theorem zt_2 : zm0c[20]? = some (32, [], (List.range 20).map some, []) ∧ zm0c[21]? = some (35, [], (List.range 14).map (fun i => some (53 + i)), []) ∧ zm0c[22]? = some (99, [], [], []) :=
  ⟨zeE_ok (by decide +kernel), zeE_ok (by decide +kernel), rfl⟩
theorem zt_3 (k : Nat) (hk : k < 15) : zm0c[23 + k]? = some (34, [0], [some (38 + k)], []) ∧ zm0c[38 + k]? = some (31, zsb k, [], []) := by
  have h : ∀ k, k < 15 → zeE zm0c[23 + k]? (34, [0], [some (38 + k)], []) = true ∧ zeE zm0c[38 + k]? (31, zsb k, [], []) = true := by decide +kernel
  exact ⟨zeE_ok (h k hk).1, zeE_ok (h k hk).2⟩
theorem zt_4 (k : Nat) (hk : k < 14) : zm0c[53 + k]? = some (34, [0], [some (67 + k)], []) ∧ zm0c[67 + k]? = some (31, zsb (15 + k), [], []) := by
  have h : ∀ k, k < 14 → zeE zm0c[53 + k]? (34, [0], [some (67 + k)], []) = true ∧ zeE zm0c[67 + k]? (31, zsb (15 + k), [], []) = true := by decide +kernel
  exact ⟨zeE_ok (h k hk).1, zeE_ok (h k hk).2⟩
theorem zm0_at {xs : List Int32} {k : Nat} {e : zE} (hk : k < 81) (h : (zm0 xs)[k]? = some e) : zm0c[k]? = some e := by
  rw [zm0, List.getElem?_append_left (by rw [show zm0c.length = 81 from rfl]; exact hk)] at h
  exact h
theorem zs1_33 {G : zG} {U : State} {k w : Nat} (h1 : va_O "LoftPost$Kind" (G.2.2.1 k) (zA G) U U.heap) (h2 : va_OF "LoftPost$Kind" "word" "Ljava/lang/String;" (.ref (G.2.2.1 w)) (G.2.2.1 k) (zA G) U U.heap) : zs1 G U k (33, [], [some w], []) := by
  unfold zs1
  exact And.intro h1 h2
theorem zs1_34 {G : zG} {U : State} {k w : Nat} (h1 : va_O "java/lang/String" (G.2.2.1 k) (zA G) U U.heap) (h2 : va_OF "java/lang/String" "value" "[B" (.ref (G.2.2.1 w)) (G.2.2.1 k) (zA G) U U.heap) (h3 : va_OF "java/lang/String" "coder" "B" (.int 0) (G.2.2.1 k) (zA G) U U.heap) : zs1 G U k (34, [0], [some w], []) := by
  unfold zs1
  exact And.intro h1 (And.intro h2 h3)
theorem zs1_31 {G : zG} {U : State} {k : Nat} {x : List Int32} (h : va_T .byte (G.2.2.1 k) x.length (fun j => .int (x.getD j 0)) (zA G) U U.heap) : zs1 G U k (31, x, [], []) := by
  unfold zs1
  exact h
theorem zs1_30 {G : zG} {U : State} {k : Nat} {x : List Int32} (h : va_T .int (G.2.2.1 k) x.length (fun j => .int (x.getD j 0)) (zA G) U U.heap) : zs1 G U k (30, x, [], []) := by
  unfold zs1
  exact h
theorem zs1_32 {G : zG} {U : State} {k : Nat} {y : List (Option Nat)} (h : va_T (.object "LoftPost$Kind") (G.2.2.1 k) y.length (fun j => va_rf ((y.getD j none).map G.2.2.1)) (zA G) U U.heap) : zs1 G U k (32, [], y, []) := by
  unfold zs1
  exact h
theorem zs1_35 {G : zG} {U : State} {k : Nat} {y : List (Option Nat)} (h : va_T (.object "java/lang/String") (G.2.2.1 k) y.length (fun j => va_rf ((y.getD j none).map G.2.2.1)) (zA G) U U.heap) : zs1 G U k (35, [], y, []) := by
  unfold zs1
  exact h
theorem zisref {s : State} {args : Array Value} {t : Term} (h : (Jvm.Cond.isRef t).before args s = true) : ∃ v : Value, t.eval args s none [] s = some v ∧ (v = .null ∨ ∃ a, v = .ref a) := by
  cases hv : t.eval args s none [] s with
  | none => simp [Cond.before, Cond.holds, Cond.value, hv] at h
  | some w =>
    refine ⟨w, rfl, ?_⟩
    simp only [Cond.before, Cond.holds, Cond.value, hv] at h
    cases w <;> simp_all [Value.isRef]
set_option maxHeartbeats 4000000 in
theorem zenv_start {p : Program} {s : State} {m : MethodId} {meth : Method} {c : Code} {b L : Nat} {xs : Nat → Int32} (hL : L ≤ 3072) (C0 : lw_At p s m meth c b L xs) : ∃ G : zG, G.2.2.2.2.1 = s.heap.size ∧ G.2.2.2.2.2 = (List.range L).map xs ∧ G.2.2.1 81 = b ∧ zEnv G s := by
  obtain ⟨hx, hb, hr, hml, hown, hts, hX, hbl, hlocks, hgv⟩ := id C0
  have hA : ∀ a : Nat, a < s.heap.size → ¬ (fun q => s.heap.size ≤ q) a := fun a h => Nat.not_le.mpr h
  have hF : ∀ w ∈ zF, w.before #[Value.ref b] s = true := flat_of_before _ hgv
  obtain ⟨str, hstr⟩ := zstrs hF
  obtain ⟨ad, had, hinj⟩ := zkinds hts hF
  obtain ⟨dA, hdA⟩ := zrows hts
  obtain ⟨D, hD⟩ := zclasses hts
  obtain ⟨r1, r2, r3, r4, r5, r6, r7, r8, r9, r10, r11⟩ := zf_rest
  obtain ⟨y1, y2, y3, y4, y5, y6, -⟩ := zf_lay
  have hkev : ∀ i, i < 20 → (zkt i).eval #[Value.ref b] s none [] s = some (.ref (ad i)) := fun i hi => zZev (had i hi).1
  obtain ⟨qK, hqK, hTK⟩ := va_Tof (tm := zKt) (ty := .object "LoftPost$Kind") (N := 20) (f := fun j => .ref (ad j)) (A := fun q => s.heap.size ≤ q) (by decide) (hF _ r1) (va_eqt (hF _ r2)) (fun j hj => zeq_r (hF _ (zf_kind j hj).2.2) (hkev j hj)) hA
  obtain ⟨qW, hqW, hTW⟩ := va_Tof (tm := zWt) (ty := .object "java/lang/String") (N := 14) (f := fun j => .ref (str (15 + j)).1) (A := fun q => s.heap.size ≤ q) (by decide) (hF _ r3) (va_eqt (hF _ r4)) (fun j hj => zeq_r (hF _ (zf_word j hj)) (hstr (15 + j) (by omega)).1) hA
  obtain ⟨fv, hfv, hfr⟩ := zisref (hF _ r6)
  have e1 : ∀ k, k < 20 → zsa ad str qK qW b k = ad k := fun k h => if_pos h
  have e2 : ∀ k, k < 15 → zsa ad str qK qW b (23 + k) = (str k).1 ∧ zsa ad str qK qW b (38 + k) = (str k).2 := fun k h => by
    constructor
    · unfold zsa
      rw [if_neg (by omega), if_neg (by omega), if_neg (by omega), if_neg (by omega), if_pos (by omega), Nat.add_sub_cancel_left]
    · unfold zsa
      rw [if_neg (by omega), if_neg (by omega), if_neg (by omega), if_neg (by omega), if_neg (by omega), if_pos (by omega), Nat.add_sub_cancel_left]
  have e3 : ∀ k, k < 14 → zsa ad str qK qW b (53 + k) = (str (15 + k)).1 ∧ zsa ad str qK qW b (67 + k) = (str (15 + k)).2 := fun k h => by
    constructor
    · unfold zsa
      rw [if_neg (by omega), if_neg (by omega), if_neg (by omega), if_neg (by omega), if_neg (by omega), if_neg (by omega), if_pos (by omega), show 53 + k - 38 = 15 + k by omega]
    · unfold zsa
      rw [if_neg (by omega), if_neg (by omega), if_neg (by omega), if_neg (by omega), if_neg (by omega), if_neg (by omega), if_neg (by omega), if_pos (by omega), show 67 + k - 52 = 15 + k by omega]
  obtain ⟨G, hG⟩ : ∃ G : zG, G = (D, dA, zsa ad str qK qW b, fv, s.heap.size, (List.range L).map xs) := ⟨_, rfl⟩
  have g3 : G.2.2.1 = zsa ad str qK qW b := by rw [hG]
  have gA : zA G = fun q => s.heap.size ≤ q := by rw [hG]; rfl
  have g6 : G.2.2.2.2.2 = (List.range L).map xs := by rw [hG]
  refine ⟨G, by rw [hG], g6, by rw [g3]; rfl, ?_⟩
  have hsv : ∀ i, i < 24 → va_Z (zsn.getD i ("", "", "")).1 (zsn.getD i ("", "", "")).2.1 (zsn.getD i ("", "", "")).2.2 (zva G [] (zsv i)) (zA G) s s.heap := by
    intro i hi
    rw [gA]
    by_cases h20 : i < 20
    · rw [zsn_k i h20]
      have : zva G [] (zsv i) = .ref (ad i) := by
        unfold zsv
        rw [if_pos (by omega), zva_sta (by unfold zK0; omega) (by unfold zUK; omega), g3, e1 i h20]
      rw [this]
      exact (had i h20).1
    · have h4 : i = 20 ∨ i = 21 ∨ i = 22 ∨ i = 23 := by omega
      have hly := fun j hj => hts _ (y1 j hj).1
      have hin := fun j hj => hts _ (y1 j hj).2
      rcases h4 with rfl | rfl | rfl | rfl
      · have : zva G [] (zsv 20) = .ref qK := by
          show zva G [] (.ref 20) = _
          rw [zva_sta (by decide) (by decide), g3]
          rfl
        rw [this]
        exact va_Zref (hly 20 (by decide)) (hin 20 (by decide)) hqK hA
      · have : zva G [] (zsv 21) = .ref qW := by
          show zva G [] (.ref 21) = _
          rw [zva_sta (by decide) (by decide), g3]
          rfl
        rw [this]
        exact va_Zref (hly 21 (by decide)) (hin 21 (by decide)) hqW hA
      · exact va_Zof (hly 22 (by decide)) (hin 22 (by decide)) (va_eqt (hF _ r5)) hA
      · have : zva G [] (zsv 23) = fv := by
          show (if zUK = zUK then G.2.2.2.1 else .ref (zaq G [] zUK)) = fv
          rw [if_pos rfl, hG]
        rw [this]
        exact va_Zof (hly 23 (by decide)) (hin 23 (by decide)) hfv hA
  have hst : ∀ k e, (zm0 G.2.2.2.2.2)[k]? = some e → zs1 G s k e := by
    intro k e hk
    have hk82 : k < 82 := by
      have h := (List.getElem?_eq_some_iff.mp hk).1
      rw [zm0_len] at h
      exact h
    by_cases h81 : k < 81
    · have hk := zm0_at h81 hk
      by_cases h20 : k < 20
      · obtain ⟨t1, t2⟩ := zt_1 k h20
        rw [t1] at hk
        cases hk
        refine zs1_33 ?_ ?_
        · rw [gA, g3, e1 k h20]; exact (had k h20).2
        · rw [gA, g3, e1 k h20, (e2 _ t2).1]
          exact vk_OFof (hkev k h20) (zeq_r (hF _ (zf_kind k h20).2.1) (hstr _ (by omega)).1) hA
      · by_cases h23 : k < 23
        · have : k = 20 ∨ k = 21 ∨ k = 22 := by omega
          rcases this with rfl | rfl | rfl
          · rw [zt_2.1] at hk
            cases hk
            refine zs1_32 ?_
            rw [gA, g3]
            obtain ⟨cell, w1, w2, w3, w4, w5, w6, w7⟩ := hTK
            refine ⟨cell, w1, w2, w3, w4, w5, fun j hj => ?_, w7⟩
            have hj20 : j < 20 := by simpa using hj
            rw [w6 j hj20]
            have : ((List.range 20).map some).getD j none = some j := by
              rw [List.getD_eq_getElem?_getD, List.getElem?_map, List.getElem?_range hj20]
              rfl
            dsimp only
            rw [this]
            show some (Value.ref (ad j)) = some (Value.ref (zsa ad str qK qW b j))
            rw [e1 j hj20]
          · rw [zt_2.2.1] at hk
            cases hk
            refine zs1_35 ?_
            rw [gA, g3]
            obtain ⟨cell, w1, w2, w3, w4, w5, w6, w7⟩ := hTW
            refine ⟨cell, w1, w2, w3, w4, w5, fun j hj => ?_, w7⟩
            have hj14 : j < 14 := by simpa using hj
            rw [w6 j hj14]
            have : ((List.range 14).map (fun i => some (53 + i))).getD j none = some (53 + j) := by
              rw [List.getD_eq_getElem?_getD, List.getElem?_map, List.getElem?_range hj14]
              rfl
            dsimp only
            rw [this]
            show some (Value.ref (str (15 + j)).1) = some (Value.ref (zsa ad str qK qW b (53 + j)))
            rw [(e3 j hj14).1]
          · rw [zt_2.2.2] at hk
            cases hk
            trivial
        · by_cases h38 : k < 38
          · obtain ⟨i, rfl⟩ : ∃ i, k = 23 + i := ⟨k - 23, by omega⟩
            have hi : i < 15 := by omega
            rw [(zt_3 i hi).1] at hk
            cases hk
            obtain ⟨s1, s2, s3, s4, s5⟩ := hstr i (by omega)
            refine zs1_34 ?_ ?_ ?_
            · rw [gA, g3, (e2 i hi).1]; exact s2
            · rw [gA, g3, (e2 i hi).1, (e2 i hi).2]; exact s3
            · rw [gA, g3, (e2 i hi).1]; exact s4
          · by_cases h53 : k < 53
            · obtain ⟨i, rfl⟩ : ∃ i, k = 38 + i := ⟨k - 38, by omega⟩
              have hi : i < 15 := by omega
              rw [(zt_3 i hi).2] at hk
              cases hk
              refine zs1_31 ?_
              rw [gA, g3, (e2 i hi).2]
              exact (hstr i (by omega)).2.2.2.2
            · by_cases h67 : k < 67
              · obtain ⟨i, rfl⟩ : ∃ i, k = 53 + i := ⟨k - 53, by omega⟩
                have hi : i < 14 := by omega
                rw [(zt_4 i hi).1] at hk
                cases hk
                obtain ⟨s1, s2, s3, s4, s5⟩ := hstr (15 + i) (by omega)
                refine zs1_34 ?_ ?_ ?_
                · rw [gA, g3, (e3 i hi).1]; exact s2
                · rw [gA, g3, (e3 i hi).1, (e3 i hi).2]; exact s3
                · rw [gA, g3, (e3 i hi).1]; exact s4
              · obtain ⟨i, rfl⟩ : ∃ i, k = 67 + i := ⟨k - 67, by omega⟩
                have hi : i < 14 := by omega
                rw [(zt_4 i hi).2] at hk
                cases hk
                refine zs1_31 ?_
                rw [gA, g3, (e3 i hi).2]
                exact (hstr (15 + i) (by omega)).2.2.2.2
    · have hk81 : k = 81 := by omega
      subst hk81
      rw [g6, zm0, List.getElem?_append_right (show zm0c.length ≤ 81 from Nat.le_of_eq rfl)] at hk
      have hk : some ((30 : Nat), (List.range L).map xs, ([] : List (Option Nat)), ([] : List Int64)) = some e := hk
      cases hk
      refine zs1_30 ?_
      rw [gA, g3]
      obtain ⟨cell, w1, w2, w3, w4, w5⟩ := hX
      have hlen : ((List.range L).map xs).length = L := by simp
      rw [hlen]
      refine ⟨cell, w1, w2, w3, Nat.le_of_eq w4.symm, by rw [w4], fun j hj => ?_, hA b hbl⟩
      rw [w5 j hj]
      have : ((List.range L).map xs).getD j 0 = xs j := by
        rw [List.getD_eq_getElem?_getD, List.getElem?_map, List.getElem?_range hj]
        rfl
      dsimp only
      rw [this]
  refine ⟨⟨fun c q hq => ?_, fun k q hk => ?_⟩, by rw [hG]; exact Nat.le_refl _, fun w hw hn => ?_, fun t h1 h2 => va_AO.of (hts _ (y6 t h1 h2)), hsv, hst, fun i j hi hj h => ?_, ?_, ?_, ⟨fun q hq => ?_, va_Nc.of (hF _ r9), va_Nc.of (hF _ r10), va_Nc.of (hF _ r11)⟩, by rw [hG]; exact hfr⟩
  · rw [hG]; exact hD c q hq
  · have hdt := hdA k
    match k, hk with
    | 0, hk => cases hk; rw [hG]; exact hdt _ rfl
    | 1, hk => cases hk; rw [hG]; exact hdt _ rfl
    | 2, hk => cases hk; rw [hG]; exact hdt _ rfl
    | 3, hk => cases hk; rw [hG]; exact hdt _ rfl
    | 4, hk => cases hk; rw [hG]; exact hdt _ rfl
    | 5, hk => cases hk; rw [hG]; exact hdt _ rfl
    | 6, hk => cases hk; rw [hG]; exact hdt _ rfl
    | 7, hk => cases hk; rw [hG]; exact hdt _ rfl
    | n + 8, hk => cases hk
  · have hw := hts w hw
    refine va_Nw.of ?_ hw
    unfold zisN at hn
    split at hn
    · rfl
    · rfl
    · simp only [Bool.and_eq_true] at hn
      exact hn.1
  · rw [g3, e1 i hi, e1 j hj] at h
    exact hinj i j hi hj h
  · rw [gA]; exact vx_Zqof (hts _ y2) (hts _ y4) (hF _ r7) hA
  · rw [gA]; exact vx_Zqof (hts _ y3) (hts _ y4) (hF _ r8) hA
  · obtain ⟨m1, m2⟩ := zf_msg q hq
    obtain ⟨a, c9, cA, kA, q1, -⟩ := Cond.exactly_spec (args := #[Value.ref b]) (first := s) (o := none) (s := s) (idx := []) (t := .string "LoftPost" q.1) (cls := "java/lang/String") (hF _ m2)
    exact ⟨a, vk_R.of (hts _ m1) q1⟩
