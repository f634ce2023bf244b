/-! BETWEEN THE CALLS: what class and reference have in common; one call keeps it -/
def zQ5 (e : Int32) (V U : zV) (T S X Y : zFn) (nl np nh nk len : Nat) : Prop := zqR V T S nl np nh nk 6 ∧ zIN T S ∧ S 0 2 = -1 ∧ zSZ V ∧ zSZ U ∧ zSQ Y ∧ zqTp Y X len ∧ e = X 0 2
def zINV (μ : zM) (I : zFn) (N : Nat) (xs : Nat → Int32) : Prop := ∃ (n s t : Nat) (V U : zV) (T S A X Y : zFn) (nl np nh nk len : Nat), zI5 μ I N xs n s t V U T S A X Y ∧ zQ5 (I 82 0) V U T S X Y nl np nh nk len
theorem zq_WG {V : zV} {T S : zFn} {nl np nh nk : Nat} (hR : zqR V T S nl np nh nk 6) (hZ : zSZ V) : zWG V nl np nh nk := by
  obtain ⟨b1, b2, b3, b4⟩ := zq_np hR
  obtain ⟨c1, c2, c3, c4⟩ := hR.n0
  refine ⟨⟨c1, b1, c2, b2, c3, b3, c4, b4, fun k hk j hj => hZ k (by omega) j hj⟩, hR.wg.1, fun k hk => ?_⟩
  obtain ⟨n, h1, h2, -⟩ := hR.wg.2 k hk
  exact ⟨n, h1, h2⟩
theorem zQ5.x {e : Int32} {V U : zV} {T S X X' Y : zFn} {nl np nh nk len : Nat} (h : zQ5 e V U T S X Y nl np nh nk len) (h1 : X' 0 1 = X 0 1) (h2 : ∀ a, X' 1 a = X 1 a) (h3 : X' 0 2 = X 0 2) : zQ5 e V U T S X' Y nl np nh nk len := by
  obtain ⟨a, b, c, d, f, g, i, j⟩ := h
  exact ⟨a, b, c, d, f, g, i.up rfl (fun _ => rfl) h1 h2, j.trans h3.symm⟩
theorem zQ5.x0 {e : Int32} {V U : zV} {T S X Y : zFn} {nl np nh nk len : Nat} (h : zQ5 e V U T S X Y nl np nh nk len) (k : Int32) : zQ5 e V U T S (zup X 0 0 k) Y nl np nh nk len := h.x (zup_ne' (by omega)) (fun a => zup_ne' (by omega)) (zup_ne' (by omega))
theorem zQ5.u {e : Int32} {V U U' : zV} {T S X Y : zFn} {nl np nh nk len : Nat} (h : zQ5 e V U T S X Y nl np nh nk len) (hU : zSZ U') : zQ5 e V U' T S X Y nl np nh nk len := by
  obtain ⟨a, b, c, d, f, g, i, j⟩ := h
  exact ⟨a, b, c, d, hU, g, i, j⟩
section ZFI
variable {μ : zM} {I J : zFn} {N : Nat} {xs : Nat → Int32} {n s t : Nat} {V U : zV} {T S A X Y : zFn} {nl np nh nk len : Nat}
theorem zI5.thr (h : zI5 μ I N xs n s t V U T S A X Y) : zden zcds 12 124 [.ref 262] (zwi μ I) = some (0, some (.int (X 0 0)), 0, 0, zwi μ I) := by
  have e := c_thr (d := 11) (X := X) (S := S) (A := A) h.M
  rw [h.eqm] at e
  exact e
theorem zfin0 (h : zI5 μ I N xs n s t V U T S A X Y) (X' S' A' : zFn) (hq : zQ5 (I 82 0) V U T S' X' Y nl np nh nk len) : zINV μ (zfl (zfl (zfl I 262 6 X') 285 22 S') 307 22 A') N xs ∧ zden zcds 12 124 [.ref 262] (zwi μ (zfl (zfl (zfl I 262 6 X') 285 22 S') 307 22 A')) = some (0, some (.int (X' 0 0)), 0, 0, zwi μ (zfl (zfl (zfl I 262 6 X') 285 22 S') 307 22 A')) := by
  have h1 := h.mdl X' S' A'
  refine ⟨⟨_, _, _, _, _, _, _, _, _, _, nl, np, nh, nk, len, h1, ?_⟩, h1.thr⟩
  rw [zfl_o (by omega), zfl_o (by omega), zfl_o (by omega)]
  exact hq
theorem zI5.tg8 (h : zI5 μ I N xs n s t V U T S A X Y) : ztg μ 262 = 8 := zFS.tag h.M.1.1 (j := 0) (by decide) rfl
end ZFI

theorem i_lt8 {z : Int32} (h : z < 8) : z ≤ 7 := by
  rw [Int32.lt_iff_toInt_lt, show (8 : Int32).toInt = 8 from by decide] at h
  rw [Int32.le_iff_toInt_le, show (7 : Int32).toInt = 7 from by decide]
  omega
theorem i_lt5 {z : Int32} (h : z < 5) : z ≤ 4 := by
  rw [Int32.lt_iff_toInt_lt, show (5 : Int32).toInt = 5 from by decide] at h
  rw [Int32.le_iff_toInt_le, show (4 : Int32).toInt = 4 from by decide]
  omega
theorem rin_ex1 {x : Int32} (h : ¬ rin x 1 200 = 0) : ∃ j, 1 ≤ j ∧ j ≤ 200 ∧ x = nI j := by
  obtain ⟨h1, h2⟩ := Decidable.not_not.mp (fun q => h (rin_0.mpr q))
  rw [Int32.le_iff_toInt_le, show (1 : Int32).toInt = 1 from by decide] at h1
  rw [Int32.le_iff_toInt_le, show (200 : Int32).toInt = 200 from by decide] at h2
  refine ⟨x.toInt.toNat, by omega, by omega, Int32.toInt_inj.mp ?_⟩
  rw [nI_toInt (by omega)]
  omega
theorem mfo_X {X A S T : zFn} {nl np nh nk k : Nat} {w : Int32} : (mfo X A S T nl np nh nk k w).2.1 = zup X 0 0 0 := by
  unfold mfo
  dsimp only
  (repeat' split) <;> rfl

set_option maxRecDepth 20000 in
theorem st_322 {μ : zM} {I : zFn} {N : Nat} {xs : Nat → Int32} {n s t : Nat} {V U : zV} {T S A X Y : zFn} {nl np nh nk len : Nat} {i c sl : Nat} {Q : zR → Prop} (h : zI5 μ I N xs n s t V U T S A X Y) (hq : zQ5 (I 82 0) V U T S X Y nl np nh nk len) (hi : i + 6 ≤ N) (hk : ∀ (μ2 : zM) (I2 : zFn) (c2 s2 : Nat), zINV μ2 I2 N xs → c2 ≤ 400 → s2 ≤ 4000 → zP Q (zden1 12 (zden zcds 12) zc232 (23, [(4, .int (nI (i + 6))), (3, .ref 329), (2, .ref 262), (1, .ref 82), (0, .ref 81)], [], c + c2, sl + s2, zwi μ2 I2))) : zP Q (zden1 12 (zden zcds 12) zc232 (322, [(4, .int (nI i)), (3, .ref 329), (2, .ref 262), (1, .ref 82), (0, .ref 81)], [], c, sl, zwi μ I)) := by
  have hq0 := hq
  obtain ⟨hR, hIN, hS2, hZV, hZU, hSQ, hTp, hE⟩ := hq
  have hG := zq_WG hR hZV
  have hN : zTN T nl np nh nk := hR.1.1
  obtain ⟨b1, b2, b3, b4⟩ := zq_np hR
  have htl : Y 0 0 = (zup X 0 0 0) 0 1 := by rw [zup_ne' (by omega), hTp.1, hTp.2.1]
  rcases zq_cou hR htl (xs (i + 1)) with ⟨h0, ha⟩ | ⟨h0, ha⟩
  · have e2 : mco X S T np nk (xs (i + 1)) = (0, zup (zup X 0 0 0) 0 0 1) := by
      unfold mco
      dsimp only
      rw [if_pos h0]
    have hc : zden zcds 11 5 [.ref 82, .int (xs (i + 1))] (zwi μ I) = some (0 + 1, none, 1, 6, zwi μ I) := by
      have e := c_cou (d := 3) (J := I) (V := V) (U := U) h.L hG.1 (x := (xs (i + 1))) (h.hQ 0 0 (by decide))
      rw [h.eqc, ha] at e
      exact e
    have hw := w211_ex (o := 329) h.L.2.1 (z := 1) hc rfl
    have hm : zden zcds 12 161 [.ref 262, .int (xs (i + 1))] (zwi μ I) = some (0, some (.int (0)), 0, 0, zwi μ (zfl (zfl (zfl I 262 6 (zup (zup X 0 0 0) 0 0 1)) 285 22 (S)) 307 22 (A))) := by
      have e := c_mco (d := 3) (J := I) (X := X) (S := S) (A := A) h.M hN hIN (v := (xs (i + 1)))
      rw [h.eqm, e2] at e
      exact e
    have hf := zfin0 h (zup (zup X 0 0 0) 0 0 1) S A ((hq0.x0 0).x0 1)
    have ht := hf.2
    rw [show (zup (zup X 0 0 0) 0 0 1) 0 0 = Int32.ofNat 1 from zup_same _ _ _ _] at ht
    exact zP.im (fun z hz => lawc_322 hi h.SP h.SP h.L.2.1 h.tg8 h.tg8 hw hm ht (fun hk0 => absurd hk0 (by decide)) hz) (hk _ _ 1 6 hf.1 (by decide) (by decide))
  · have e2 : mco X S T np nk (xs (i + 1)) = (mcd (zup X 0 0 0) S T np nk (xs (i + 1)), zup X 0 0 0) := by
      unfold mco
      dsimp only
      rw [if_neg h0]
    have hc : zden zcds 11 5 [.ref 82, .int (xs (i + 1))] (zwi μ I) = some (0, some (.int (mcd (zup X 0 0 0) S T np nk (xs (i + 1)))), 0, 0, zwi μ I) := by
      have e := c_cou (d := 3) (J := I) (V := V) (U := U) h.L hG.1 (x := (xs (i + 1))) (h.hQ 0 0 (by decide))
      rw [h.eqc, ha] at e
      exact e
    have h1 := h
    obtain ⟨h2, hg⟩ := h1.put (mcd (zup X 0 0 0) S T np nk (xs (i + 1))).toInt64
    have hw := w211_ok (o := 329) h.L.2.1 ⟨h1.out.1, h1.out.2, (by decide)⟩ hc
    have hm : zden zcds 12 161 [.ref 262, .int (xs (i + 1))] (zwi (zsl μ 329 0 (mcd (zup X 0 0 0) S T np nk (xs (i + 1))).toInt64) I) = some (0, some (.int (mcd (zup X 0 0 0) S T np nk (xs (i + 1)))), 0, 0, zwi (zsl μ 329 0 (mcd (zup X 0 0 0) S T np nk (xs (i + 1))).toInt64) (zfl (zfl (zfl I 262 6 (zup X 0 0 0)) 285 22 (S)) 307 22 (A))) := by
      have e := c_mco (d := 3) (J := _) (X := X) (S := S) (A := A) h2.M hN hIN (v := (xs (i + 1)))
      rw [h2.eqm, e2] at e
      exact e
    have hf := zfin0 h2 (zup X 0 0 0) (S) (A) (nl := nl) (np := np) (nh := nh) (nk := nk) (len := len) (by
      exact hq0.x0 0)
    have ht := hf.2
    rw [show (zup X 0 0 0) 0 0 = 0 from zup_same _ _ _ _] at ht
    exact zP.im (fun z hz => lawc_322 hi h.SP h2.SP h.L.2.1 h2.tg8 h2.tg8 hw hm ht (fun _ => ⟨h2.out.1, h2.out.2, hg⟩) hz) (hk _ _ 0 0 hf.1 (by decide) (by decide))

set_option maxRecDepth 20000 in
theorem st_378 {μ : zM} {I : zFn} {N : Nat} {xs : Nat → Int32} {n s t : Nat} {V U : zV} {T S A X Y : zFn} {nl np nh nk len : Nat} {i c sl : Nat} {Q : zR → Prop} (h : zI5 μ I N xs n s t V U T S A X Y) (hq : zQ5 (I 82 0) V U T S X Y nl np nh nk len) (hi : i + 6 ≤ N) (hk : ∀ (μ2 : zM) (I2 : zFn) (c2 s2 : Nat), zINV μ2 I2 N xs → c2 ≤ 400 → s2 ≤ 4000 → zP Q (zden1 12 (zden zcds 12) zc232 (23, [(4, .int (nI (i + 6))), (3, .ref 329), (2, .ref 262), (1, .ref 82), (0, .ref 81)], [], c + c2, sl + s2, zwi μ2 I2))) : zP Q (zden1 12 (zden zcds 12) zc232 (378, [(4, .int (nI i)), (3, .ref 329), (2, .ref 262), (1, .ref 82), (0, .ref 81)], [], c, sl, zwi μ I)) := by
  have hq0 := hq
  obtain ⟨hR, hIN, hS2, hZV, hZU, hSQ, hTp, hE⟩ := hq
  have hG := zq_WG hR hZV
  have hN : zTN T nl np nh nk := hR.1.1
  obtain ⟨b1, b2, b3, b4⟩ := zq_np hR
  by_cases h0 : rin (xs (i + 1)) 0 (nI nl - 1) = 0
  · have ha : alof V np nk (xs (i + 1)) (xs (i + 2)) = (1, 0) := by
      unfold alof
      rw [zq_has hG.1.1 (by omega) (xs (i + 1)), if_pos h0]
    have hc : zden zcds 11 6 [.ref 82, .int (xs (i + 1)), .int (xs (i + 2))] (zwi μ I) = some (0 + 1, none, 1, 6, zwi μ I) := by
      have e := c_lof (d := 3) (J := I) (V := V) (U := U) h.L hG.1 (x := (xs (i + 1))) (y := (xs (i + 2)))
      rw [h.eqc, ha] at e
      exact e
    have hw := w212_ex (o := 329) h.L.2.1 (z := 1) hc rfl
    have hm : zden zcds 12 163 [.ref 262, .int (xs (i + 1)), .int (xs (i + 2))] (zwi μ I) = some (0, some (.int (0)), 0, 0, zwi μ (zfl (zfl (zfl I 262 6 (zup (zup X 0 0 0) 0 0 1)) 285 22 (S)) 307 22 (A))) := by
      have e := c_mlo_r (d := 9) (J := I) (X := X) (S := S) (A := A) h.M (v := (xs (i + 1))) (w0 := (xs (i + 2))) (by rw [hN.1]; exact h0)
      rw [h.eqm] at e
      exact e
    have hf := zfin0 h (zup (zup X 0 0 0) 0 0 1) S A ((hq0.x0 0).x0 1)
    have ht := hf.2
    rw [show (zup (zup X 0 0 0) 0 0 1) 0 0 = Int32.ofNat 1 from zup_same _ _ _ _] at ht
    exact zP.im (fun z hz => lawc_378 hi h.SP h.SP h.L.2.1 h.tg8 h.tg8 hw hm ht (fun hk0 => absurd hk0 (by decide)) hz) (hk _ _ 1 6 hf.1 (by decide) (by decide))
  · obtain ⟨l, hl, hy⟩ := zq_rin (by omega) h0
    by_cases h1 : rin (xs (i + 2)) 0 7 = 0
    · have ha : alof V np nk (xs (i + 1)) (xs (i + 2)) = (1, 0) := by
        unfold alof
        rw [zq_has hG.1.1 (by omega) (xs (i + 1)), if_neg h0]
        by_cases h2 : (xs (i + 2)) < 0
        · rw [if_pos h2]
        · rw [if_neg h2, if_neg (fun h3 => rin_0.mp h1 ⟨i_nlt2 h2, i_lt8 h3⟩)]
      have hc : zden zcds 11 6 [.ref 82, .int (xs (i + 1)), .int (xs (i + 2))] (zwi μ I) = some (0 + 1, none, 1, 6, zwi μ I) := by
        have e := c_lof (d := 3) (J := I) (V := V) (U := U) h.L hG.1 (x := (xs (i + 1))) (y := (xs (i + 2)))
        rw [h.eqc, ha] at e
        exact e
      have hw := w212_ex (o := 329) h.L.2.1 (z := 1) hc rfl
      have hm : zden zcds 12 163 [.ref 262, .int (xs (i + 1)), .int (xs (i + 2))] (zwi μ I) = some (0, some (.int (0)), 0, 0, zwi μ (zfl (zfl (zfl I 262 6 (zup (zup X 0 0 0) 0 0 1)) 285 22 (S)) 307 22 (A))) := by
        rw [hy]
        have e := c_mlo_r2 (d := 9) (J := I) (X := X) (S := S) (A := A) h.M hN hl h1
        rw [h.eqm] at e
        exact e
      have hf := zfin0 h (zup (zup X 0 0 0) 0 0 1) S A ((hq0.x0 0).x0 1)
      have ht := hf.2
      rw [show (zup (zup X 0 0 0) 0 0 1) 0 0 = Int32.ofNat 1 from zup_same _ _ _ _] at ht
      exact zP.im (fun z hz => lawc_378 hi h.SP h.SP h.L.2.1 h.tg8 h.tg8 hw hm ht (fun hk0 => absurd hk0 (by decide)) hz) (hk _ _ 1 6 hf.1 (by decide) (by decide))
    · obtain ⟨v, hv, hz⟩ := rin_ex (m := 7) (by decide) h1
      have ha := zq_lof hR hl (show v < 8 by omega)
      have hc : zden zcds 11 6 [.ref 82, .int (xs (i + 1)), .int (xs (i + 2))] (zwi μ I) = some (0, some (.int (mlo S T l np nk v)), 0, 0, zwi μ I) := by
        rw [hy, hz]
        have e := c_lof (d := 3) (J := I) (V := V) (U := U) h.L hG.1 (x := nI l) (y := nI v)
        rw [h.eqc, ha] at e
        exact e
      have h1 := h
      obtain ⟨h2, hg⟩ := h1.put (mlo S T l np nk v).toInt64
      have hw := w212_ok (o := 329) h.L.2.1 ⟨h1.out.1, h1.out.2, (by decide)⟩ hc
      have hm : zden zcds 12 163 [.ref 262, .int (xs (i + 1)), .int (xs (i + 2))] (zwi (zsl μ 329 0 (mlo S T l np nk v).toInt64) I) = some (0, some (.int (mlo S T l np nk v)), 1, 8, zwi ((zsl μ 329 0 (mlo S T l np nk v).toInt64) ++ [zR8]) (zfl (zfl (zfl (zgb I (zsl μ 329 0 (mlo S T l np nk v).toInt64).length (mlo S T l np nk)) 262 6 (zup X 0 0 0)) 285 22 (S)) 307 22 (A))) := by
        rw [hy, hz]
        have e := c_mlo (d := 4) (J := _) (X := X) (S := S) (A := A) h2.M hN hIN hl (v := v) (by omega)
        rw [h2.eqm] at e
        exact e
      have h3 := h2.row [zR8] (I' := zgb I (zsl μ 329 0 (mlo S T l np nk v).toInt64).length (mlo S T l np nk)) (fun a ha => by unfold zgb; rw [if_neg (by omega)])
      have hf := zfin0 h3 (zup X 0 0 0) (S) (A) (nl := nl) (np := np) (nh := nh) (nk := nk) (len := len) (by
        rw [show (zgb I (zsl μ 329 0 (mlo S T l np nk v).toInt64).length (mlo S T l np nk)) 82 0 = I 82 0 from by unfold zgb; rw [if_neg (by have := h2.ml.1; omega)]]
        exact hq0.x0 0)
      have ht := hf.2
      rw [show (zup X 0 0 0) 0 0 = 0 from zup_same _ _ _ _] at ht
      have ho : zgl ((zsl μ 329 0 (mlo S T l np nk v).toInt64) ++ [zR8]) 329 0 = (mlo S T l np nk v).toInt64 := by
        unfold zgl
        rw [zen_appL (by have := h2.ml.1; omega)]
        exact hg
      exact zP.im (fun z hz => lawc_378 hi h.SP h2.SP h.L.2.1 h2.tg8 h3.tg8 hw hm ht (fun _ => ⟨h3.out.1, h3.out.2, ho⟩) hz) (hk _ _ 1 8 hf.1 (by decide) (by decide))

set_option maxRecDepth 20000 in
theorem st_446 {μ : zM} {I : zFn} {N : Nat} {xs : Nat → Int32} {n s t : Nat} {V U : zV} {T S A X Y : zFn} {nl np nh nk len : Nat} {i c sl : Nat} {Q : zR → Prop} (h : zI5 μ I N xs n s t V U T S A X Y) (hq : zQ5 (I 82 0) V U T S X Y nl np nh nk len) (hi : i + 6 ≤ N) (hk : ∀ (μ2 : zM) (I2 : zFn) (c2 s2 : Nat), zINV μ2 I2 N xs → c2 ≤ 400 → s2 ≤ 4000 → zP Q (zden1 12 (zden zcds 12) zc232 (23, [(4, .int (nI (i + 6))), (3, .ref 329), (2, .ref 262), (1, .ref 82), (0, .ref 81)], [], c + c2, sl + s2, zwi μ2 I2))) : zP Q (zden1 12 (zden zcds 12) zc232 (446, [(4, .int (nI i)), (3, .ref 329), (2, .ref 262), (1, .ref 82), (0, .ref 81)], [], c, sl, zwi μ I)) := by
  have hq0 := hq
  obtain ⟨hR, hIN, hS2, hZV, hZU, hSQ, hTp, hE⟩ := hq
  have hG := zq_WG hR hZV
  have hN : zTN T nl np nh nk := hR.1.1
  obtain ⟨b1, b2, b3, b4⟩ := zq_np hR
  by_cases h0 : rin (xs (i + 1)) 0 (nI np - 1) = 0
  · have ha : apig V (xs (i + 1)) (xs (i + 2)) = (1, 0) := by
      unfold apig
      rw [zq_has hG.1.2.2.1 (by omega) (xs (i + 1)), if_pos h0]
    have hc : zden zcds 11 7 [.ref 82, .int (xs (i + 1)), .int (xs (i + 2))] (zwi μ I) = some (0 + 1, none, 1, 6, zwi μ I) := by
      have e := c_pig (d := 3) (J := I) (V := V) (U := U) h.L (x := (xs (i + 1))) (y := (xs (i + 2)))
      rw [h.eqc, ha] at e
      exact e
    have hw := w213_ex (o := 329) h.L.2.1 (z := 1) hc rfl
    have hm : zden zcds 12 165 [.ref 262, .int (xs (i + 1)), .int (xs (i + 2))] (zwi μ I) = some (0, some (.int (0)), 0, 0, zwi μ (zfl (zfl (zfl I 262 6 (zup (zup X 0 0 0) 0 0 1)) 285 22 (S)) 307 22 (A))) := by
      have e := c_mpi_r (d := 9) (J := I) (X := X) (S := S) (A := A) h.M (v := (xs (i + 1))) (w0 := (xs (i + 2))) (by rw [hN.2.2.1]; exact h0)
      rw [h.eqm] at e
      exact e
    have hf := zfin0 h (zup (zup X 0 0 0) 0 0 1) S A ((hq0.x0 0).x0 1)
    have ht := hf.2
    rw [show (zup (zup X 0 0 0) 0 0 1) 0 0 = Int32.ofNat 1 from zup_same _ _ _ _] at ht
    exact zP.im (fun z hz => lawc_446 hi h.SP h.SP h.L.2.1 h.tg8 h.tg8 hw hm ht (fun hk0 => absurd hk0 (by decide)) hz) (hk _ _ 1 6 hf.1 (by decide) (by decide))
  · obtain ⟨l, hl, hy⟩ := zq_rin (by omega) h0
    by_cases h1 : rin (xs (i + 2)) 0 7 = 0
    · have ha : apig V (xs (i + 1)) (xs (i + 2)) = (1, 0) := by
        unfold apig
        rw [zq_has hG.1.2.2.1 (by omega) (xs (i + 1)), if_neg h0]
        by_cases h2 : (xs (i + 2)) < 0
        · rw [if_pos h2]
        · rw [if_neg h2, if_neg (fun h3 => rin_0.mp h1 ⟨i_nlt2 h2, i_lt8 h3⟩)]
      have hc : zden zcds 11 7 [.ref 82, .int (xs (i + 1)), .int (xs (i + 2))] (zwi μ I) = some (0 + 1, none, 1, 6, zwi μ I) := by
        have e := c_pig (d := 3) (J := I) (V := V) (U := U) h.L (x := (xs (i + 1))) (y := (xs (i + 2)))
        rw [h.eqc, ha] at e
        exact e
      have hw := w213_ex (o := 329) h.L.2.1 (z := 1) hc rfl
      have hm : zden zcds 12 165 [.ref 262, .int (xs (i + 1)), .int (xs (i + 2))] (zwi μ I) = some (0, some (.int (0)), 0, 0, zwi μ (zfl (zfl (zfl I 262 6 (zup (zup X 0 0 0) 0 0 1)) 285 22 (S)) 307 22 (A))) := by
        rw [hy]
        have e := c_mpi_r2 (d := 9) (J := I) (X := X) (S := S) (A := A) h.M hN hl h1
        rw [h.eqm] at e
        exact e
      have hf := zfin0 h (zup (zup X 0 0 0) 0 0 1) S A ((hq0.x0 0).x0 1)
      have ht := hf.2
      rw [show (zup (zup X 0 0 0) 0 0 1) 0 0 = Int32.ofNat 1 from zup_same _ _ _ _] at ht
      exact zP.im (fun z hz => lawc_446 hi h.SP h.SP h.L.2.1 h.tg8 h.tg8 hw hm ht (fun hk0 => absurd hk0 (by decide)) hz) (hk _ _ 1 6 hf.1 (by decide) (by decide))
    · obtain ⟨v, hv, hz⟩ := rin_ex (m := 7) (by decide) h1
      have ha := zq_pig hR hl (show v < 8 by omega)
      have hc : zden zcds 11 7 [.ref 82, .int (xs (i + 1)), .int (xs (i + 2))] (zwi μ I) = some (0, some (.int (mpt S T l v)), 0, 0, zwi μ I) := by
        rw [hy, hz]
        have e := c_pig (d := 3) (J := I) (V := V) (U := U) h.L (x := nI l) (y := nI v)
        rw [h.eqc, ha] at e
        exact e
      have h1 := h
      obtain ⟨h2, hg⟩ := h1.put (mpt S T l v).toInt64
      have hw := w213_ok (o := 329) h.L.2.1 ⟨h1.out.1, h1.out.2, (by decide)⟩ hc
      have hm : zden zcds 12 165 [.ref 262, .int (xs (i + 1)), .int (xs (i + 2))] (zwi (zsl μ 329 0 (mpt S T l v).toInt64) I) = some (0, some (.int (mpt S T l v)), 1, 8, zwi ((zsl μ 329 0 (mpt S T l v).toInt64) ++ [zR8]) (zfl (zfl (zfl (zgb I (zsl μ 329 0 (mpt S T l v).toInt64).length (mpt S T l)) 262 6 (zup X 0 0 0)) 285 22 (S)) 307 22 (A))) := by
        rw [hy, hz]
        have e := c_mpi (d := 4) (J := _) (X := X) (S := S) (A := A) h2.M hN hIN hl (v := v) (by omega)
        rw [h2.eqm] at e
        exact e
      have h3 := h2.row [zR8] (I' := zgb I (zsl μ 329 0 (mpt S T l v).toInt64).length (mpt S T l)) (fun a ha => by unfold zgb; rw [if_neg (by omega)])
      have hf := zfin0 h3 (zup X 0 0 0) (S) (A) (nl := nl) (np := np) (nh := nh) (nk := nk) (len := len) (by
        rw [show (zgb I (zsl μ 329 0 (mpt S T l v).toInt64).length (mpt S T l)) 82 0 = I 82 0 from by unfold zgb; rw [if_neg (by have := h2.ml.1; omega)]]
        exact hq0.x0 0)
      have ht := hf.2
      rw [show (zup X 0 0 0) 0 0 = 0 from zup_same _ _ _ _] at ht
      have ho : zgl ((zsl μ 329 0 (mpt S T l v).toInt64) ++ [zR8]) 329 0 = (mpt S T l v).toInt64 := by
        unfold zgl
        rw [zen_appL (by have := h2.ml.1; omega)]
        exact hg
      exact zP.im (fun z hz => lawc_446 hi h.SP h2.SP h.L.2.1 h2.tg8 h3.tg8 hw hm ht (fun _ => ⟨h3.out.1, h3.out.2, ho⟩) hz) (hk _ _ 1 8 hf.1 (by decide) (by decide))

set_option maxRecDepth 20000 in
theorem st_514 {μ : zM} {I : zFn} {N : Nat} {xs : Nat → Int32} {n s t : Nat} {V U : zV} {T S A X Y : zFn} {nl np nh nk len : Nat} {i c sl : Nat} {Q : zR → Prop} (h : zI5 μ I N xs n s t V U T S A X Y) (hq : zQ5 (I 82 0) V U T S X Y nl np nh nk len) (hi : i + 6 ≤ N) (hk : ∀ (μ2 : zM) (I2 : zFn) (c2 s2 : Nat), zINV μ2 I2 N xs → c2 ≤ 400 → s2 ≤ 4000 → zP Q (zden1 12 (zden zcds 12) zc232 (23, [(4, .int (nI (i + 6))), (3, .ref 329), (2, .ref 262), (1, .ref 82), (0, .ref 81)], [], c + c2, sl + s2, zwi μ2 I2))) : zP Q (zden1 12 (zden zcds 12) zc232 (514, [(4, .int (nI i)), (3, .ref 329), (2, .ref 262), (1, .ref 82), (0, .ref 81)], [], c, sl, zwi μ I)) := by
  have hq0 := hq
  obtain ⟨hR, hIN, hS2, hZV, hZU, hSQ, hTp, hE⟩ := hq
  have hG := zq_WG hR hZV
  have hN : zTN T nl np nh nk := hR.1.1
  obtain ⟨b1, b2, b3, b4⟩ := zq_np hR
  by_cases h0 : rin (xs (i + 1)) 0 (nI nh - 1) = 0
  · have ha : ahaw V (xs (i + 1)) (xs (i + 2)) = (1, 0) := by
      unfold ahaw
      rw [zq_has hG.1.2.2.2.2.1 (by omega) (xs (i + 1)), if_pos h0]
    have hc : zden zcds 11 8 [.ref 82, .int (xs (i + 1)), .int (xs (i + 2))] (zwi μ I) = some (0 + 1, none, 1, 6, zwi μ I) := by
      have e := c_haw (d := 3) (J := I) (V := V) (U := U) h.L (x := (xs (i + 1))) (y := (xs (i + 2)))
      rw [h.eqc, ha] at e
      exact e
    have hw := w214_ex (o := 329) h.L.2.1 (z := 1) hc rfl
    have hm : zden zcds 12 167 [.ref 262, .int (xs (i + 1)), .int (xs (i + 2))] (zwi μ I) = some (0, some (.int (0)), 0, 0, zwi μ (zfl (zfl (zfl I 262 6 (zup (zup X 0 0 0) 0 0 1)) 285 22 (S)) 307 22 (A))) := by
      have e := c_mha_r (d := 9) (J := I) (X := X) (S := S) (A := A) h.M (v := (xs (i + 1))) (w0 := (xs (i + 2))) (by rw [hN.2.2.2.2.1]; exact h0)
      rw [h.eqm] at e
      exact e
    have hf := zfin0 h (zup (zup X 0 0 0) 0 0 1) S A ((hq0.x0 0).x0 1)
    have ht := hf.2
    rw [show (zup (zup X 0 0 0) 0 0 1) 0 0 = Int32.ofNat 1 from zup_same _ _ _ _] at ht
    exact zP.im (fun z hz => lawc_514 hi h.SP h.SP h.L.2.1 h.tg8 h.tg8 hw hm ht (fun hk0 => absurd hk0 (by decide)) hz) (hk _ _ 1 6 hf.1 (by decide) (by decide))
  · obtain ⟨l, hl, hy⟩ := zq_rin (by omega) h0
    by_cases h1 : rin (xs (i + 2)) 0 4 = 0
    · have ha : ahaw V (xs (i + 1)) (xs (i + 2)) = (1, 0) := by
        unfold ahaw
        rw [zq_has hG.1.2.2.2.2.1 (by omega) (xs (i + 1)), if_neg h0]
        by_cases h2 : (xs (i + 2)) < 0
        · rw [if_pos h2]
        · rw [if_neg h2, if_neg (fun h3 => rin_0.mp h1 ⟨i_nlt2 h2, i_lt5 h3⟩)]
      have e2 : mha X S T l (xs (i + 2)) = (0, zup (zup X 0 0 0) 0 0 1) := by
        unfold mha
        dsimp only
        rw [if_pos h1]
      have hc : zden zcds 11 8 [.ref 82, .int (xs (i + 1)), .int (xs (i + 2))] (zwi μ I) = some (0 + 1, none, 1, 6, zwi μ I) := by
        have e := c_haw (d := 3) (J := I) (V := V) (U := U) h.L (x := (xs (i + 1))) (y := (xs (i + 2)))
        rw [h.eqc, ha] at e
        exact e
      have hw := w214_ex (o := 329) h.L.2.1 (z := 1) hc rfl
      have hm : zden zcds 12 167 [.ref 262, .int (xs (i + 1)), .int (xs (i + 2))] (zwi μ I) = some (0, some (.int (0)), 0, 0, zwi μ (zfl (zfl (zfl I 262 6 (zup (zup X 0 0 0) 0 0 1)) 285 22 (S)) 307 22 (A))) := by
        rw [hy]
        have e := c_mha (d := 9) (J := I) (X := X) (S := S) (A := A) h.M hN hl (v := (xs (i + 2)))
        rw [h.eqm, e2] at e
        exact e
      have hf := zfin0 h (zup (zup X 0 0 0) 0 0 1) S A ((hq0.x0 0).x0 1)
      have ht := hf.2
      rw [show (zup (zup X 0 0 0) 0 0 1) 0 0 = Int32.ofNat 1 from zup_same _ _ _ _] at ht
      exact zP.im (fun z hz => lawc_514 hi h.SP h.SP h.L.2.1 h.tg8 h.tg8 hw hm ht (fun hk0 => absurd hk0 (by decide)) hz) (hk _ _ 1 6 hf.1 (by decide) (by decide))
    · obtain ⟨v, hv, hz⟩ := rin_ex (m := 4) (by decide) h1
      have ha := zq_haw hR hl (show v < 5 by omega)
      have e2 : mha X S T l (nI v) = (mhd S T l (nI v), zup X 0 0 0) := by
        unfold mha
        dsimp only
        rw [if_neg (by rw [← hz]; exact h1)]
      have hc : zden zcds 11 8 [.ref 82, .int (xs (i + 1)), .int (xs (i + 2))] (zwi μ I) = some (0, some (.int (mhd S T l (nI v))), 0, 0, zwi μ I) := by
        rw [hy, hz]
        have e := c_haw (d := 3) (J := I) (V := V) (U := U) h.L (x := nI l) (y := nI v)
        rw [h.eqc, ha] at e
        exact e
      have h1 := h
      obtain ⟨h2, hg⟩ := h1.put (mhd S T l (nI v)).toInt64
      have hw := w214_ok (o := 329) h.L.2.1 ⟨h1.out.1, h1.out.2, (by decide)⟩ hc
      have hm : zden zcds 12 167 [.ref 262, .int (xs (i + 1)), .int (xs (i + 2))] (zwi (zsl μ 329 0 (mhd S T l (nI v)).toInt64) I) = some (0, some (.int (mhd S T l (nI v))), 0, 0, zwi (zsl μ 329 0 (mhd S T l (nI v)).toInt64) (zfl (zfl (zfl I 262 6 (zup X 0 0 0)) 285 22 (S)) 307 22 (A))) := by
        rw [hy, hz]
        have e := c_mha (d := 9) (J := _) (X := X) (S := S) (A := A) h2.M hN hl (v := nI v)
        rw [h2.eqm, e2] at e
        exact e
      have hf := zfin0 h2 (zup X 0 0 0) (S) (A) (nl := nl) (np := np) (nh := nh) (nk := nk) (len := len) (by
        exact hq0.x0 0)
      have ht := hf.2
      rw [show (zup X 0 0 0) 0 0 = 0 from zup_same _ _ _ _] at ht
      exact zP.im (fun z hz => lawc_514 hi h.SP h2.SP h.L.2.1 h2.tg8 h2.tg8 hw hm ht (fun _ => ⟨h2.out.1, h2.out.2, hg⟩) hz) (hk _ _ 0 0 hf.1 (by decide) (by decide))

set_option maxRecDepth 20000 in
theorem st_582 {μ : zM} {I : zFn} {N : Nat} {xs : Nat → Int32} {n s t : Nat} {V U : zV} {T S A X Y : zFn} {nl np nh nk len : Nat} {i c sl : Nat} {Q : zR → Prop} (h : zI5 μ I N xs n s t V U T S A X Y) (hq : zQ5 (I 82 0) V U T S X Y nl np nh nk len) (hi : i + 6 ≤ N) (hk : ∀ (μ2 : zM) (I2 : zFn) (c2 s2 : Nat), zINV μ2 I2 N xs → c2 ≤ 400 → s2 ≤ 4000 → zP Q (zden1 12 (zden zcds 12) zc232 (23, [(4, .int (nI (i + 6))), (3, .ref 329), (2, .ref 262), (1, .ref 82), (0, .ref 81)], [], c + c2, sl + s2, zwi μ2 I2))) : zP Q (zden1 12 (zden zcds 12) zc232 (582, [(4, .int (nI i)), (3, .ref 329), (2, .ref 262), (1, .ref 82), (0, .ref 81)], [], c, sl, zwi μ I)) := by
  have hq0 := hq
  obtain ⟨hR, hIN, hS2, hZV, hZU, hSQ, hTp, hE⟩ := hq
  have hG := zq_WG hR hZV
  have hN : zTN T nl np nh nk := hR.1.1
  obtain ⟨b1, b2, b3, b4⟩ := zq_np hR
  by_cases h0 : rin (xs (i + 1)) 0 (nI nk - 1) = 0
  · have ha : alett V np nk (xs (i + 1)) (xs (i + 2)) = (1, 0) := by
      unfold alett
      rw [zq_has hG.1.2.2.2.2.2.2.1 (by omega) (xs (i + 1)), if_pos h0]
    have hc : zden zcds 11 9 [.ref 82, .int (xs (i + 1)), .int (xs (i + 2))] (zwi μ I) = some (0 + 1, none, 1, 6, zwi μ I) := by
      have e := c_lett (d := 3) (J := I) (V := V) (U := U) h.L hG.1 (x := (xs (i + 1))) (y := (xs (i + 2)))
      rw [h.eqc, ha] at e
      exact e
    have hw := w215_ex (o := 329) h.L.2.1 (z := 1) hc rfl
    have hm : zden zcds 12 169 [.ref 262, .int (xs (i + 1)), .int (xs (i + 2))] (zwi μ I) = some (0, some (.int (0)), 0, 0, zwi μ (zfl (zfl (zfl I 262 6 (zup (zup X 0 0 0) 0 0 1)) 285 22 (S)) 307 22 (A))) := by
      have e := c_mle_r (d := 9) (J := I) (X := X) (S := S) (A := A) h.M (v := (xs (i + 1))) (w0 := (xs (i + 2))) (by rw [hN.2.2.2.2.2.2.1]; exact h0)
      rw [h.eqm] at e
      exact e
    have hf := zfin0 h (zup (zup X 0 0 0) 0 0 1) S A ((hq0.x0 0).x0 1)
    have ht := hf.2
    rw [show (zup (zup X 0 0 0) 0 0 1) 0 0 = Int32.ofNat 1 from zup_same _ _ _ _] at ht
    exact zP.im (fun z hz => lawc_582 hi h.SP h.SP h.L.2.1 h.tg8 h.tg8 hw hm ht (fun hk0 => absurd hk0 (by decide)) hz) (hk _ _ 1 6 hf.1 (by decide) (by decide))
  · obtain ⟨l, hl, hy⟩ := zq_rin (by omega) h0
    by_cases h1 : rin (xs (i + 2)) 0 7 = 0
    · have ha : alett V np nk (xs (i + 1)) (xs (i + 2)) = (1, 0) := by
        unfold alett
        rw [zq_has hG.1.2.2.2.2.2.2.1 (by omega) (xs (i + 1)), if_neg h0]
        by_cases h2 : (xs (i + 2)) < 0
        · rw [if_pos h2]
        · rw [if_neg h2, if_neg (fun h3 => rin_0.mp h1 ⟨i_nlt2 h2, i_lt8 h3⟩)]
      have hc : zden zcds 11 9 [.ref 82, .int (xs (i + 1)), .int (xs (i + 2))] (zwi μ I) = some (0 + 1, none, 1, 6, zwi μ I) := by
        have e := c_lett (d := 3) (J := I) (V := V) (U := U) h.L hG.1 (x := (xs (i + 1))) (y := (xs (i + 2)))
        rw [h.eqc, ha] at e
        exact e
      have hw := w215_ex (o := 329) h.L.2.1 (z := 1) hc rfl
      have hm : zden zcds 12 169 [.ref 262, .int (xs (i + 1)), .int (xs (i + 2))] (zwi μ I) = some (0, some (.int (0)), 0, 0, zwi μ (zfl (zfl (zfl I 262 6 (zup (zup X 0 0 0) 0 0 1)) 285 22 (S)) 307 22 (A))) := by
        rw [hy]
        have e := c_mle_r2 (d := 9) (J := I) (X := X) (S := S) (A := A) h.M hN hl h1
        rw [h.eqm] at e
        exact e
      have hf := zfin0 h (zup (zup X 0 0 0) 0 0 1) S A ((hq0.x0 0).x0 1)
      have ht := hf.2
      rw [show (zup (zup X 0 0 0) 0 0 1) 0 0 = Int32.ofNat 1 from zup_same _ _ _ _] at ht
      exact zP.im (fun z hz => lawc_582 hi h.SP h.SP h.L.2.1 h.tg8 h.tg8 hw hm ht (fun hk0 => absurd hk0 (by decide)) hz) (hk _ _ 1 6 hf.1 (by decide) (by decide))
    · obtain ⟨v, hv, hz⟩ := rin_ex (m := 7) (by decide) h1
      have ha := zq_lett' hR hl (show v < 8 by omega)
      have hc : zden zcds 11 9 [.ref 82, .int (xs (i + 1)), .int (xs (i + 2))] (zwi μ I) = some (0, some (.int (mlt S T l np v)), 0, 0, zwi μ I) := by
        rw [hy, hz]
        have e := c_lett (d := 3) (J := I) (V := V) (U := U) h.L hG.1 (x := nI l) (y := nI v)
        rw [h.eqc, ha] at e
        exact e
      have h1 := h
      obtain ⟨h2, hg⟩ := h1.put (mlt S T l np v).toInt64
      have hw := w215_ok (o := 329) h.L.2.1 ⟨h1.out.1, h1.out.2, (by decide)⟩ hc
      have hm : zden zcds 12 169 [.ref 262, .int (xs (i + 1)), .int (xs (i + 2))] (zwi (zsl μ 329 0 (mlt S T l np v).toInt64) I) = some (0, some (.int (mlt S T l np v)), 1, 8, zwi ((zsl μ 329 0 (mlt S T l np v).toInt64) ++ [zR8]) (zfl (zfl (zfl (zgb I (zsl μ 329 0 (mlt S T l np v).toInt64).length (mlt S T l np)) 262 6 (zup X 0 0 0)) 285 22 (S)) 307 22 (A))) := by
        rw [hy, hz]
        have e := c_mle (d := 4) (J := _) (X := X) (S := S) (A := A) h2.M hN hIN hl (v := v) (by omega)
        rw [h2.eqm] at e
        exact e
      have h3 := h2.row [zR8] (I' := zgb I (zsl μ 329 0 (mlt S T l np v).toInt64).length (mlt S T l np)) (fun a ha => by unfold zgb; rw [if_neg (by omega)])
      have hf := zfin0 h3 (zup X 0 0 0) (S) (A) (nl := nl) (np := np) (nh := nh) (nk := nk) (len := len) (by
        rw [show (zgb I (zsl μ 329 0 (mlt S T l np v).toInt64).length (mlt S T l np)) 82 0 = I 82 0 from by unfold zgb; rw [if_neg (by have := h2.ml.1; omega)]]
        exact hq0.x0 0)
      have ht := hf.2
      rw [show (zup X 0 0 0) 0 0 = 0 from zup_same _ _ _ _] at ht
      have ho : zgl ((zsl μ 329 0 (mlt S T l np v).toInt64) ++ [zR8]) 329 0 = (mlt S T l np v).toInt64 := by
        unfold zgl
        rw [zen_appL (by have := h2.ml.1; omega)]
        exact hg
      exact zP.im (fun z hz => lawc_582 hi h.SP h2.SP h.L.2.1 h2.tg8 h3.tg8 hw hm ht (fun _ => ⟨h3.out.1, h3.out.2, ho⟩) hz) (hk _ _ 1 8 hf.1 (by decide) (by decide))

set_option maxRecDepth 20000 in
theorem st_650 {μ : zM} {I : zFn} {N : Nat} {xs : Nat → Int32} {n s t : Nat} {V U : zV} {T S A X Y : zFn} {nl np nh nk len : Nat} {i c sl : Nat} {Q : zR → Prop} (h : zI5 μ I N xs n s t V U T S A X Y) (hq : zQ5 (I 82 0) V U T S X Y nl np nh nk len) (hi : i + 6 ≤ N) (hk : ∀ (μ2 : zM) (I2 : zFn) (c2 s2 : Nat), zINV μ2 I2 N xs → c2 ≤ 400 → s2 ≤ 4000 → zP Q (zden1 12 (zden zcds 12) zc232 (23, [(4, .int (nI (i + 6))), (3, .ref 329), (2, .ref 262), (1, .ref 82), (0, .ref 81)], [], c + c2, sl + s2, zwi μ2 I2))) : zP Q (zden1 12 (zden zcds 12) zc232 (650, [(4, .int (nI i)), (3, .ref 329), (2, .ref 262), (1, .ref 82), (0, .ref 81)], [], c, sl, zwi μ I)) := by
  have hq0 := hq
  obtain ⟨hR, hIN, hS2, hZV, hZU, hSQ, hTp, hE⟩ := hq
  have hG := zq_WG hR hZV
  have hN : zTN T nl np nh nk := hR.1.1
  obtain ⟨b1, b2, b3, b4⟩ := zq_np hR
  by_cases h0 : rin (xs (i + 1)) 0 (nI np - 1) = 0
  · have ha : abri V (xs (i + 1)) (xs (i + 2)) = (1, 0, V) := by
      unfold abri
      rw [zq_has hG.1.2.2.1 (by omega) (xs (i + 1)), if_pos h0]
    have hc : zden zcds 11 10 [.ref 82, .int (xs (i + 1)), .int (xs (i + 2))] (zwi μ I) = some (0 + 1, none, 1, 6, zwi μ I) := by
      have e := c_bri (d := 3) (J := I) (V := V) (U := U) h.L (x := (xs (i + 1))) (y := (xs (i + 2)))
      rw [h.eqc, ha] at e
      dsimp only at e
      rw [h.eqc] at e
      exact e
    have hw := w216_ex (o := 329) h.L.2.1 (z := 1) hc rfl
    have hm : zden zcds 12 170 [.ref 262, .int (xs (i + 1)), .int (xs (i + 2))] (zwi μ I) = some (0, some (.int (0)), 0, 0, zwi μ (zfl (zfl (zfl I 262 6 (zup (zup X 0 0 0) 0 0 1)) 285 22 (S)) 307 22 (A))) := by
      have e := c_mbr_r (d := 9) (J := I) (X := X) (S := S) (A := A) h.M (v := (xs (i + 1))) (w0 := (xs (i + 2))) (by rw [hN.2.2.1]; exact h0)
      rw [h.eqm] at e
      exact e
    have hf := zfin0 h (zup (zup X 0 0 0) 0 0 1) S A ((hq0.x0 0).x0 1)
    have ht := hf.2
    rw [show (zup (zup X 0 0 0) 0 0 1) 0 0 = Int32.ofNat 1 from zup_same _ _ _ _] at ht
    exact zP.im (fun z hz => lawc_650 hi h.SP h.SP h.L.2.1 h.tg8 h.tg8 hw hm ht (fun hk0 => absurd hk0 (by decide)) hz) (hk _ _ 1 6 hf.1 (by decide) (by decide))
  · obtain ⟨l, hl, hy⟩ := zq_rin (by omega) h0
    by_cases h1 : rin (xs (i + 2)) 0 (nI nl - 1) = 0
    · have ha : abri V (xs (i + 1)) (xs (i + 2)) = (1, 0, V) := by
        unfold abri
        rw [zq_has hG.1.2.2.1 (by omega) (xs (i + 1)), if_neg h0, zq_has hG.1.1 (by omega) (xs (i + 2)), if_pos h1]
      have hc : zden zcds 11 10 [.ref 82, .int (xs (i + 1)), .int (xs (i + 2))] (zwi μ I) = some (0 + 1, none, 1, 6, zwi μ I) := by
        have e := c_bri (d := 3) (J := I) (V := V) (U := U) h.L (x := (xs (i + 1))) (y := (xs (i + 2)))
        rw [h.eqc, ha] at e
        dsimp only at e
        rw [h.eqc] at e
        exact e
      have hw := w216_ex (o := 329) h.L.2.1 (z := 1) hc rfl
      have hm : zden zcds 12 170 [.ref 262, .int (xs (i + 1)), .int (xs (i + 2))] (zwi μ I) = some (0, some (.int (0)), 0, 0, zwi μ (zfl (zfl (zfl I 262 6 (zup (zup X 0 0 0) 0 0 1)) 285 22 (S)) 307 22 (A))) := by
        rw [hy]
        have e := c_mbr_r2 (d := 9) (J := I) (X := X) (S := S) (A := A) h.M hN hl (v := (xs (i + 2))) (by rw [hN.1]; exact h1)
        rw [h.eqm] at e
        exact e
      have hf := zfin0 h (zup (zup X 0 0 0) 0 0 1) S A ((hq0.x0 0).x0 1)
      have ht := hf.2
      rw [show (zup (zup X 0 0 0) 0 0 1) 0 0 = Int32.ofNat 1 from zup_same _ _ _ _] at ht
      exact zP.im (fun z hz => lawc_650 hi h.SP h.SP h.L.2.1 h.tg8 h.tg8 hw hm ht (fun hk0 => absurd hk0 (by decide)) hz) (hk _ _ 1 6 hf.1 (by decide) (by decide))
    · obtain ⟨v, hv, hz⟩ := zq_rin (by omega) h1
      obtain ⟨g1, g2⟩ := zq_bri hR X hl hv
      by_cases hs : S 4 l = 0
      · have e2 : mbr X S l v = (S 5 l, zup X 0 0 0, zup S 5 l (nI v)) := by
          unfold mbr
          dsimp only
          rw [if_pos hs]
        obtain ⟨ha, -, hR2⟩ := g1 hs
        rw [e2] at ha hR2
        dsimp only at ha hR2
        have hc : zden zcds 11 10 [.ref 82, .int (xs (i + 1)), .int (xs (i + 2))] (zwi μ I) = some (0, some (.int (S 5 l)), 0, 0, zwi μ (zpc (zpc I n (zvu V 2 l 2 (nI v))) s (U))) := by
          rw [hy, hz]
          have e := c_bri (d := 3) (J := I) (V := V) (U := U) h.L (x := nI l) (y := nI v)
          rw [h.eqc, ha] at e
          exact e
        have h1 := h.cls (zvu V 2 l 2 (nI v)) (U)
        obtain ⟨h2, hg⟩ := h1.put (S 5 l).toInt64
        have hw := w216_ok (o := 329) h.L.2.1 ⟨h1.out.1, h1.out.2, (by decide)⟩ hc
        have hm : zden zcds 12 170 [.ref 262, .int (xs (i + 1)), .int (xs (i + 2))] (zwi (zsl μ 329 0 (S 5 l).toInt64) (zpc (zpc I n (zvu V 2 l 2 (nI v))) s (U))) = some (0, some (.int (S 5 l)), 0, 0, zwi (zsl μ 329 0 (S 5 l).toInt64) (zfl (zfl (zfl (zpc (zpc I n (zvu V 2 l 2 (nI v))) s (U)) 262 6 (zup X 0 0 0)) 285 22 (zup S 5 l (nI v))) 307 22 (A))) := by
          rw [hy, hz]
          have e := c_mbr (d := 9) (J := _) (X := X) (S := S) (A := A) h2.M hN hl hv
          rw [h2.eqm, e2] at e
          exact e
        have hf := zfin0 h2 (zup X 0 0 0) (zup S 5 l (nI v)) (A) (nl := nl) (np := np) (nh := nh) (nk := nk) (len := len) (by
          rw [zpc_o (by have := h.ns; omega), zpc_o (by have := h.ns; omega)]
          exact (zQ5.x0 (X := X) ⟨hR2, zIN_c hIN (zin_nI (by omega) (by decide)), (zup_ne' (j := 5) (k := l) (j' := 0) (k' := 2) (Or.inl (by decide))).trans hS2, zSZ_u hZV (by decide), hZU, hSQ, hTp, hE⟩ 0))
        have ht := hf.2
        rw [show (zup X 0 0 0) 0 0 = 0 from zup_same _ _ _ _] at ht
        exact zP.im (fun z hz => lawc_650 hi h.SP h2.SP h.L.2.1 h2.tg8 h2.tg8 hw hm ht (fun _ => ⟨h2.out.1, h2.out.2, hg⟩) hz) (hk _ _ 0 0 hf.1 (by decide) (by decide))
      · have e2 : mbr X S l v = (0, zup (zup X 0 0 0) 0 0 2, S) := by
          unfold mbr
          dsimp only
          rw [if_neg hs]
        obtain ⟨ha, -, -⟩ := g2 hs
        have hc : zden zcds 11 10 [.ref 82, .int (xs (i + 1)), .int (xs (i + 2))] (zwi μ I) = some (1 + 1, none, 1, 6, zwi μ I) := by
          rw [hy, hz]
          have e := c_bri (d := 3) (J := I) (V := V) (U := U) h.L (x := nI l) (y := nI v)
          rw [h.eqc, ha] at e
          dsimp only at e
          rw [h.eqc] at e
          exact e
        have hw := w216_ex (o := 329) h.L.2.1 (z := 2) hc rfl
        have hm : zden zcds 12 170 [.ref 262, .int (xs (i + 1)), .int (xs (i + 2))] (zwi μ I) = some (0, some (.int (0)), 0, 0, zwi μ (zfl (zfl (zfl I 262 6 (zup (zup X 0 0 0) 0 0 2)) 285 22 (S)) 307 22 (A))) := by
          rw [hy, hz]
          have e := c_mbr (d := 9) (J := I) (X := X) (S := S) (A := A) h.M hN hl hv
          rw [h.eqm, e2] at e
          exact e
        have hf := zfin0 h (zup (zup X 0 0 0) 0 0 2) S A ((hq0.x0 0).x0 2)
        have ht := hf.2
        rw [show (zup (zup X 0 0 0) 0 0 2) 0 0 = Int32.ofNat 2 from zup_same _ _ _ _] at ht
        exact zP.im (fun z hz => lawc_650 hi h.SP h.SP h.L.2.1 h.tg8 h.tg8 hw hm ht (fun hk0 => absurd hk0 (by decide)) hz) (hk _ _ 1 6 hf.1 (by decide) (by decide))

set_option maxRecDepth 20000 in
theorem st_718 {μ : zM} {I : zFn} {N : Nat} {xs : Nat → Int32} {n s t : Nat} {V U : zV} {T S A X Y : zFn} {nl np nh nk len : Nat} {i c sl : Nat} {Q : zR → Prop} (h : zI5 μ I N xs n s t V U T S A X Y) (hq : zQ5 (I 82 0) V U T S X Y nl np nh nk len) (hi : i + 6 ≤ N) (hk : ∀ (μ2 : zM) (I2 : zFn) (c2 s2 : Nat), zINV μ2 I2 N xs → c2 ≤ 400 → s2 ≤ 4000 → zP Q (zden1 12 (zden zcds 12) zc232 (23, [(4, .int (nI (i + 6))), (3, .ref 329), (2, .ref 262), (1, .ref 82), (0, .ref 81)], [], c + c2, sl + s2, zwi μ2 I2))) : zP Q (zden1 12 (zden zcds 12) zc232 (718, [(4, .int (nI i)), (3, .ref 329), (2, .ref 262), (1, .ref 82), (0, .ref 81)], [], c, sl, zwi μ I)) := by
  have hq0 := hq
  obtain ⟨hR, hIN, hS2, hZV, hZU, hSQ, hTp, hE⟩ := hq
  have hG := zq_WG hR hZV
  have hN : zTN T nl np nh nk := hR.1.1
  obtain ⟨b1, b2, b3, b4⟩ := zq_np hR
  by_cases h0 : rin (xs (i + 1)) 0 (nI nh - 1) = 0
  · have ha : alur V (xs (i + 1)) (xs (i + 2)) (xs (i + 3)) = (1, 0, V) := by
      unfold alur
      rw [zq_has hG.1.2.2.2.2.1 (by omega) (xs (i + 1)), if_pos h0]
    have hc : zden zcds 11 11 [.ref 82, .int (xs (i + 1)), .int (xs (i + 2)), .int (xs (i + 3))] (zwi μ I) = some (0 + 1, none, 1, 6, zwi μ I) := by
      have e := c_lur (d := 3) (J := I) (V := V) (U := U) h.L (x := (xs (i + 1))) (y := (xs (i + 2))) (z := (xs (i + 3)))
      rw [h.eqc, ha] at e
      dsimp only at e
      rw [h.eqc] at e
      exact e
    have hw := w217_ex (o := 329) h.L.2.1 (z := 1) hc rfl
    have hm : zden zcds 12 171 [.ref 262, .int (xs (i + 1)), .int (xs (i + 2)), .int (xs (i + 3))] (zwi μ I) = some (0, some (.int (0)), 0, 0, zwi μ (zfl (zfl (zfl I 262 6 (zup (zup X 0 0 0) 0 0 1)) 285 22 (S)) 307 22 (A))) := by
      have e := c_mlu_r (d := 9) (J := I) (X := X) (S := S) (A := A) h.M (v := (xs (i + 1))) (w0 := (xs (i + 2))) (w1 := (xs (i + 3))) (by rw [hN.2.2.2.2.1]; exact h0)
      rw [h.eqm] at e
      exact e
    have hf := zfin0 h (zup (zup X 0 0 0) 0 0 1) S A ((hq0.x0 0).x0 1)
    have ht := hf.2
    rw [show (zup (zup X 0 0 0) 0 0 1) 0 0 = Int32.ofNat 1 from zup_same _ _ _ _] at ht
    exact zP.im (fun z hz => lawc_718 hi h.SP h.SP h.L.2.1 h.tg8 h.tg8 hw hm ht (fun hk0 => absurd hk0 (by decide)) hz) (hk _ _ 1 6 hf.1 (by decide) (by decide))
  · obtain ⟨l, hl, hy⟩ := zq_rin (by omega) h0
    obtain ⟨g1, g2⟩ := zq_lur hR X hl (xs (i + 2)) (xs (i + 3))
    by_cases h1 : rin (xs (i + 2)) 0 63 = 0 ∨ rin (xs (i + 3)) 0 63 = 0
    · have e2 : mlu X S l (xs (i + 2)) (xs (i + 3)) = (0, zup (zup X 0 0 0) 0 0 2, S) := by
        unfold mlu
        dsimp only
        by_cases k1 : rin (xs (i + 2)) 0 63 = 0
        · rw [if_pos k1]
        · rw [if_neg k1, if_pos (h1.resolve_left k1)]
      obtain ⟨ha, -, -⟩ := g1 h1
      have hc : zden zcds 11 11 [.ref 82, .int (xs (i + 1)), .int (xs (i + 2)), .int (xs (i + 3))] (zwi μ I) = some (2 + 1, none, 1, 6, zwi μ I) := by
        rw [hy]
        have e := c_lur (d := 3) (J := I) (V := V) (U := U) h.L (x := nI l) (y := (xs (i + 2))) (z := (xs (i + 3)))
        rw [h.eqc, ha] at e
        dsimp only at e
        rw [h.eqc] at e
        exact e
      have hw := w217_ex (o := 329) h.L.2.1 (z := 2) hc rfl
      have hm : zden zcds 12 171 [.ref 262, .int (xs (i + 1)), .int (xs (i + 2)), .int (xs (i + 3))] (zwi μ I) = some (0, some (.int (0)), 0, 0, zwi μ (zfl (zfl (zfl I 262 6 (zup (zup X 0 0 0) 0 0 2)) 285 22 (S)) 307 22 (A))) := by
        rw [hy]
        have e := c_mlu (d := 9) (J := I) (X := X) (S := S) (A := A) h.M hN hl (v := (xs (i + 2))) (w := (xs (i + 3)))
        rw [h.eqm, e2] at e
        exact e
      have hf := zfin0 h (zup (zup X 0 0 0) 0 0 2) S A ((hq0.x0 0).x0 2)
      have ht := hf.2
      rw [show (zup (zup X 0 0 0) 0 0 2) 0 0 = Int32.ofNat 2 from zup_same _ _ _ _] at ht
      exact zP.im (fun z hz => lawc_718 hi h.SP h.SP h.L.2.1 h.tg8 h.tg8 hw hm ht (fun hk0 => absurd hk0 (by decide)) hz) (hk _ _ 1 6 hf.1 (by decide) (by decide))
    · have k1 : ¬ rin (xs (i + 2)) 0 63 = 0 := fun q => h1 (Or.inl q)
      have k2 : ¬ rin (xs (i + 3)) 0 63 = 0 := fun q => h1 (Or.inr q)
      have e2 : mlu X S l (xs (i + 2)) (xs (i + 3)) = (rapt (S 13 l) (S 14 l) (xs (i + 2)) (xs (i + 3)), zup X 0 0 0, zup (zup S 13 l (xs (i + 2))) 14 l (xs (i + 3))) := by
        unfold mlu
        dsimp only
        rw [if_neg k1, if_neg k2]
      obtain ⟨ha, -, hR2⟩ := g2 k1 k2
      rw [e2] at ha hR2
      dsimp only at ha hR2
      have hc : zden zcds 11 11 [.ref 82, .int (xs (i + 1)), .int (xs (i + 2)), .int (xs (i + 3))] (zwi μ I) = some (0, some (.int (rapt (S 13 l) (S 14 l) (xs (i + 2)) (xs (i + 3)))), 0, 0, zwi μ (zpc (zpc I n (zvu (zvu V 3 l 0 (xs (i + 2))) 3 l 1 (xs (i + 3)))) s (U))) := by
        rw [hy]
        have e := c_lur (d := 3) (J := I) (V := V) (U := U) h.L (x := nI l) (y := (xs (i + 2))) (z := (xs (i + 3)))
        rw [h.eqc, ha] at e
        exact e
      have h1 := h.cls (zvu (zvu V 3 l 0 (xs (i + 2))) 3 l 1 (xs (i + 3))) (U)
      obtain ⟨h2, hg⟩ := h1.put (rapt (S 13 l) (S 14 l) (xs (i + 2)) (xs (i + 3))).toInt64
      have hw := w217_ok (o := 329) h.L.2.1 ⟨h1.out.1, h1.out.2, (by decide)⟩ hc
      have hm : zden zcds 12 171 [.ref 262, .int (xs (i + 1)), .int (xs (i + 2)), .int (xs (i + 3))] (zwi (zsl μ 329 0 (rapt (S 13 l) (S 14 l) (xs (i + 2)) (xs (i + 3))).toInt64) (zpc (zpc I n (zvu (zvu V 3 l 0 (xs (i + 2))) 3 l 1 (xs (i + 3)))) s (U))) = some (0, some (.int (rapt (S 13 l) (S 14 l) (xs (i + 2)) (xs (i + 3)))), 0, 0, zwi (zsl μ 329 0 (rapt (S 13 l) (S 14 l) (xs (i + 2)) (xs (i + 3))).toInt64) (zfl (zfl (zfl (zpc (zpc I n (zvu (zvu V 3 l 0 (xs (i + 2))) 3 l 1 (xs (i + 3)))) s (U)) 262 6 (zup X 0 0 0)) 285 22 (zup (zup S 13 l (xs (i + 2))) 14 l (xs (i + 3)))) 307 22 (A))) := by
        rw [hy]
        have e := c_mlu (d := 9) (J := _) (X := X) (S := S) (A := A) h2.M hN hl (v := (xs (i + 2))) (w := (xs (i + 3)))
        rw [h2.eqm, e2] at e
        exact e
      have hf := zfin0 h2 (zup X 0 0 0) (zup (zup S 13 l (xs (i + 2))) 14 l (xs (i + 3))) (A) (nl := nl) (np := np) (nh := nh) (nk := nk) (len := len) (by
        rw [zpc_o (by have := h.ns; omega), zpc_o (by have := h.ns; omega)]
        exact (zQ5.x0 (X := X) ⟨hR2, zIN_u (zIN_u hIN (by decide)) (by decide), (zup_ne' (j := 14) (k := l) (j' := 0) (k' := 2) (Or.inl (by decide))).trans ((zup_ne' (j := 13) (k := l) (j' := 0) (k' := 2) (Or.inl (by decide))).trans hS2), zSZ_u (zSZ_u hZV (by decide)) (by decide), hZU, hSQ, hTp, hE⟩ 0))
      have ht := hf.2
      rw [show (zup X 0 0 0) 0 0 = 0 from zup_same _ _ _ _] at ht
      exact zP.im (fun z hz => lawc_718 hi h.SP h2.SP h.L.2.1 h2.tg8 h2.tg8 hw hm ht (fun _ => ⟨h2.out.1, h2.out.2, hg⟩) hz) (hk _ _ 0 0 hf.1 (by decide) (by decide))

set_option maxRecDepth 20000 in
theorem st_798 {μ : zM} {I : zFn} {N : Nat} {xs : Nat → Int32} {n s t : Nat} {V U : zV} {T S A X Y : zFn} {nl np nh nk len : Nat} {i c sl : Nat} {Q : zR → Prop} (h : zI5 μ I N xs n s t V U T S A X Y) (hq : zQ5 (I 82 0) V U T S X Y nl np nh nk len) (hi : i + 6 ≤ N) (hk : ∀ (μ2 : zM) (I2 : zFn) (c2 s2 : Nat), zINV μ2 I2 N xs → c2 ≤ 400 → s2 ≤ 4000 → zP Q (zden1 12 (zden zcds 12) zc232 (23, [(4, .int (nI (i + 6))), (3, .ref 329), (2, .ref 262), (1, .ref 82), (0, .ref 81)], [], c + c2, sl + s2, zwi μ2 I2))) : zP Q (zden1 12 (zden zcds 12) zc232 (798, [(4, .int (nI i)), (3, .ref 329), (2, .ref 262), (1, .ref 82), (0, .ref 81)], [], c, sl, zwi μ I)) := by
  have hq0 := hq
  obtain ⟨hR, hIN, hS2, hZV, hZU, hSQ, hTp, hE⟩ := hq
  have hG := zq_WG hR hZV
  have hN : zTN T nl np nh nk := hR.1.1
  obtain ⟨b1, b2, b3, b4⟩ := zq_np hR
  by_cases h0 : rin (xs (i + 1)) 1 200 = 0
  ·
    have hc : zden zcds 11 12 [.ref 82, .int (xs (i + 1))] (zwi μ I) = some (2 + 1, none, 1, 6, zwi μ I) := by
      have e := c_pas_t (d := 3) (J := I) (V := V) (U := U) h.L (x := (xs (i + 1))) (y := 0) h0
      rw [h.eqc] at e
      exact e
    have hw := w218_ex (o := 329) h.L.2.1 (z := 1) hc rfl
    have hm : zden zcds 12 172 [.ref 262, .int (xs (i + 1))] (zwi μ I) = some (0, some (.int (0)), 0, 0, zwi μ (zfl (zfl (zfl I 262 6 (zup (zup X 0 0 0) 0 0 1)) 285 22 (S)) 307 22 (A))) := by
      have e := c_mpa_r (d := 9) (J := I) (X := X) (S := S) (A := A) h.M (v := (xs (i + 1))) h0
      rw [h.eqm] at e
      exact e
    have hf := zfin0 h (zup (zup X 0 0 0) 0 0 1) S A ((hq0.x0 0).x0 1)
    have ht := hf.2
    rw [show (zup (zup X 0 0 0) 0 0 1) 0 0 = Int32.ofNat 1 from zup_same _ _ _ _] at ht
    exact zP.im (fun z hz => lawc_798 hi h.SP h.SP h.L.2.1 h.tg8 h.tg8 hw hm ht (fun hk0 => absurd hk0 (by decide)) hz) (hk _ _ 1 6 hf.1 (by decide) (by decide))
  · obtain ⟨k, k1, k2, hy⟩ := rin_ex1 h0
    obtain ⟨ha, hR2⟩ := zq_pas (X := X) hR k
    have e2 : mpa X S T nl np nh nk k = ((mpa X S T nl np nh nk k).1, zup X 0 0 0, mpaL T nl np nh nk k 0 S) := rfl
    have hc : zden zcds 11 12 [.ref 82, .int (xs (i + 1))] (zwi μ I) = some (0, some (.int ((mpa X S T nl np nh nk k).1)), 0, 0, zwi μ (zpc (zpc I n ((apas V nl np nh nk k).2)) s (U))) := by
      rw [hy]
      have e := c_pas (d := 3) (J := I) (V := V) (U := U) h.L hG.1 k1 k2
      rw [h.eqc, ha] at e
      exact e
    have h1 := h.cls ((apas V nl np nh nk k).2) (U)
    obtain ⟨h2, hg⟩ := h1.put ((mpa X S T nl np nh nk k).1).toInt64
    have hw := w218_ok (o := 329) h.L.2.1 ⟨h1.out.1, h1.out.2, (by decide)⟩ hc
    have hm : zden zcds 12 172 [.ref 262, .int (xs (i + 1))] (zwi (zsl μ 329 0 ((mpa X S T nl np nh nk k).1).toInt64) (zpc (zpc I n ((apas V nl np nh nk k).2)) s (U))) = some (0, some (.int ((mpa X S T nl np nh nk k).1)), 0, 0, zwi (zsl μ 329 0 ((mpa X S T nl np nh nk k).1).toInt64) (zfl (zfl (zfl (zpc (zpc I n ((apas V nl np nh nk k).2)) s (U)) 262 6 (zup X 0 0 0)) 285 22 (mpaL T nl np nh nk k 0 S)) 307 22 (A))) := by
      rw [hy]
      have e := c_mpa (d := 4) (J := _) (X := X) (S := S) (A := A) h2.M hN hIN k1 k2
      rw [h2.eqm] at e
      exact e
    have hf := zfin0 h2 (zup X 0 0 0) (mpaL T nl np nh nk k 0 S) (A) (nl := nl) (np := np) (nh := nh) (nk := nk) (len := len) (by
      rw [zpc_o (by have := h.ns; omega), zpc_o (by have := h.ns; omega)]
      exact (zQ5.x0 (X := X) ⟨hR2, mpaL_I hN _ _ _ hIN, (mpaL_2 _ _ _).trans hS2, zSZ_cg hZV (zSm_pas _ _ _).2, hZU, hSQ, hTp, hE⟩ 0))
    have ht := hf.2
    rw [show (zup X 0 0 0) 0 0 = 0 from zup_same _ _ _ _] at ht
    exact zP.im (fun z hz => lawc_798 hi h.SP h2.SP h.L.2.1 h2.tg8 h2.tg8 hw hm ht (fun _ => ⟨h2.out.1, h2.out.2, hg⟩) hz) (hk _ _ 0 0 hf.1 (by decide) (by decide))

set_option maxRecDepth 20000 in
theorem st_854 {μ : zM} {I : zFn} {N : Nat} {xs : Nat → Int32} {n s t : Nat} {V U : zV} {T S A X Y : zFn} {nl np nh nk len : Nat} {i c sl : Nat} {Q : zR → Prop} (h : zI5 μ I N xs n s t V U T S A X Y) (hq : zQ5 (I 82 0) V U T S X Y nl np nh nk len) (hi : i + 6 ≤ N) (hk : ∀ (μ2 : zM) (I2 : zFn) (c2 s2 : Nat), zINV μ2 I2 N xs → c2 ≤ 400 → s2 ≤ 4000 → zP Q (zden1 12 (zden zcds 12) zc232 (23, [(4, .int (nI (i + 6))), (3, .ref 329), (2, .ref 262), (1, .ref 82), (0, .ref 81)], [], c + c2, sl + s2, zwi μ2 I2))) : zP Q (zden1 12 (zden zcds 12) zc232 (854, [(4, .int (nI i)), (3, .ref 329), (2, .ref 262), (1, .ref 82), (0, .ref 81)], [], c, sl, zwi μ I)) := by
  have hq0 := hq
  obtain ⟨hR, hIN, hS2, hZV, hZU, hSQ, hTp, hE⟩ := hq
  have hG := zq_WG hR hZV
  have hN : zTN T nl np nh nk := hR.1.1
  obtain ⟨b1, b2, b3, b4⟩ := zq_np hR
  by_cases h0 : rin (xs (i + 1)) 1 200 = 0
  ·
    have hc : zden zcds 11 13 [.ref 82, .int (xs (i + 1)), .int (xs (i + 2))] (zwi μ I) = some (2 + 1, none, 1, 6, zwi μ I) := by
      have e := c_for_t (d := 3) (J := I) (V := V) (U := U) h.L (x := (xs (i + 1))) (y := (xs (i + 2))) h0
      rw [h.eqc] at e
      exact e
    have hw := w219_ex (o := 329) h.L.2.1 (z := 1) hc rfl
    have hm : zden zcds 12 173 [.ref 262, .int (xs (i + 1)), .int (xs (i + 2))] (zwi μ I) = some (0, some (.int (0)), 0, 0, zwi μ (zfl (zfl (zfl I 262 6 (zup (zup X 0 0 0) 0 0 1)) 285 22 (S)) 307 22 (A))) := by
      have e := c_mfo_r (d := 9) (J := I) (X := X) (S := S) (A := A) h.M (v := (xs (i + 1))) (w := (xs (i + 2))) h0
      rw [h.eqm] at e
      exact e
    have hf := zfin0 h (zup (zup X 0 0 0) 0 0 1) S A ((hq0.x0 0).x0 1)
    have ht := hf.2
    rw [show (zup (zup X 0 0 0) 0 0 1) 0 0 = Int32.ofNat 1 from zup_same _ _ _ _] at ht
    exact zP.im (fun z hz => lawc_854 hi h.SP h.SP h.L.2.1 h.tg8 h.tg8 hw hm ht (fun hk0 => absurd hk0 (by decide)) hz) (hk _ _ 1 6 hf.1 (by decide) (by decide))
  · obtain ⟨k, k1, k2, hy⟩ := rin_ex1 h0
    rcases zq_for (U := U) (X := X) (A := A) hR k (xs (i + 2)) with ⟨h9, ha⟩ | ⟨h9, g1, g2⟩
    ·
      have hc : zden zcds 11 13 [.ref 82, .int (xs (i + 1)), .int (xs (i + 2))] (zwi μ I) = some (0 + 1, none, 1, 6, zwi μ I) := by
        rw [hy]
        have e := c_for (d := 2) (J := I) (V := V) (U := U) h.L hG hZU k1 k2 (x := (xs (i + 2)))
        rw [h.eqc, ha] at e
        dsimp only at e
        rw [h.eqc] at e
        exact e
      have hw := w219_ex (o := 329) h.L.2.1 (z := 2) hc rfl
      have hm : zden zcds 12 173 [.ref 262, .int (xs (i + 1)), .int (xs (i + 2))] (zwi μ I) = some (0, some (.int (0)), 0, 0, zwi μ (zfl (zfl (zfl I 262 6 (zup (zup X 0 0 0) 0 0 2)) 285 22 (S)) 307 22 (A))) := by
        rw [hy]
        have e := c_mfo_r2 (d := 9) (J := I) (X := X) (S := S) (A := A) h.M k1 k2 h9
        rw [h.eqm] at e
        exact e
      have hf := zfin0 h (zup (zup X 0 0 0) 0 0 2) S A ((hq0.x0 0).x0 2)
      have ht := hf.2
      rw [show (zup (zup X 0 0 0) 0 0 2) 0 0 = Int32.ofNat 2 from zup_same _ _ _ _] at ht
      exact zP.im (fun z hz => lawc_854 hi h.SP h.SP h.L.2.1 h.tg8 h.tg8 hw hm ht (fun hk0 => absurd hk0 (by decide)) hz) (hk _ _ 1 6 hf.1 (by decide) (by decide))
    ·
      have hc : zden zcds 11 13 [.ref 82, .int (xs (i + 1)), .int (xs (i + 2))] (zwi μ I) = some (0, some (.int ((mfo X A S T nl np nh nk k (xs (i + 2))).1)), 0, 0, zwi μ (zpc (zpc I n (V)) s ((afor V U nl np nh nk k (xs (i + 2))).2.2))) := by
        rw [hy]
        have e := c_for (d := 2) (J := I) (V := V) (U := U) h.L hG hZU k1 k2 (x := (xs (i + 2)))
        rw [h.eqc, g1, g2] at e
        exact e
      have h1 := h.cls (V) ((afor V U nl np nh nk k (xs (i + 2))).2.2)
      obtain ⟨h2, hg⟩ := h1.put ((mfo X A S T nl np nh nk k (xs (i + 2))).1).toInt64
      have hw := w219_ok (o := 329) h.L.2.1 ⟨h1.out.1, h1.out.2, (by decide)⟩ hc
      have hm : zden zcds 12 173 [.ref 262, .int (xs (i + 1)), .int (xs (i + 2))] (zwi (zsl μ 329 0 ((mfo X A S T nl np nh nk k (xs (i + 2))).1).toInt64) (zpc (zpc I n (V)) s ((afor V U nl np nh nk k (xs (i + 2))).2.2))) = some (0, some (.int ((mfo X A S T nl np nh nk k (xs (i + 2))).1)), 0, 0, zwi (zsl μ 329 0 ((mfo X A S T nl np nh nk k (xs (i + 2))).1).toInt64) (zfl (zfl (zfl (zpc (zpc I n (V)) s ((afor V U nl np nh nk k (xs (i + 2))).2.2)) 262 6 (zup X 0 0 0)) 285 22 (S)) 307 22 ((mfo X A S T nl np nh nk k (xs (i + 2))).2.2))) := by
        rw [hy]
        have e := c_mfo (d := 4) (J := _) (X := X) (S := S) (A := A) h2.M hN hIN k1 k2 h9
        rw [h2.eqm, mfo_X] at e
        exact e
      have hf := zfin0 h2 (zup X 0 0 0) (S) ((mfo X A S T nl np nh nk k (xs (i + 2))).2.2) (nl := nl) (np := np) (nh := nh) (nk := nk) (len := len) (by
        rw [zpc_o (by have := h.ns; omega), zpc_o (by have := h.ns; omega)]
        exact (zQ5.x0 (zQ5.u hq0 (zSZ_afor hG hZU)) 0))
      have ht := hf.2
      rw [show (zup X 0 0 0) 0 0 = 0 from zup_same _ _ _ _] at ht
      exact zP.im (fun z hz => lawc_854 hi h.SP h2.SP h.L.2.1 h2.tg8 h2.tg8 hw hm ht (fun _ => ⟨h2.out.1, h2.out.2, hg⟩) hz) (hk _ _ 0 0 hf.1 (by decide) (by decide))

set_option maxRecDepth 20000 in
theorem st_922 {μ : zM} {I : zFn} {N : Nat} {xs : Nat → Int32} {n s t : Nat} {V U : zV} {T S A X Y : zFn} {nl np nh nk len : Nat} {i c sl : Nat} {Q : zR → Prop} (h : zI5 μ I N xs n s t V U T S A X Y) (hq : zQ5 (I 82 0) V U T S X Y nl np nh nk len) (hi : i + 6 ≤ N) (hk : ∀ (μ2 : zM) (I2 : zFn) (c2 s2 : Nat), zINV μ2 I2 N xs → c2 ≤ 400 → s2 ≤ 4000 → zP Q (zden1 12 (zden zcds 12) zc232 (23, [(4, .int (nI (i + 6))), (3, .ref 329), (2, .ref 262), (1, .ref 82), (0, .ref 81)], [], c + c2, sl + s2, zwi μ2 I2))) : zP Q (zden1 12 (zden zcds 12) zc232 (922, [(4, .int (nI i)), (3, .ref 329), (2, .ref 262), (1, .ref 82), (0, .ref 81)], [], c, sl, zwi μ I)) := by
  have hq0 := hq
  obtain ⟨hR, hIN, hS2, hZV, hZU, hSQ, hTp, hE⟩ := hq
  have hG := zq_WG hR hZV
  have hN : zTN T nl np nh nk := hR.1.1
  obtain ⟨b1, b2, b3, b4⟩ := zq_np hR
  by_cases h0 : rin (xs (i + 1)) 0 (nI nk - 1) = 0
  ·
    have hc : zden zcds 11 15 [.ref 82, .int (xs (i + 1))] (zwi μ I) = some (0 + 1, none, 1, 6, zwi μ I) := by
      have e := c_arv_t (d := 3) (J := I) (V := V) (U := U) h.L (x := (xs (i + 1))) (by rw [zq_has hG.1.2.2.2.2.2.2.1 (by omega) (xs (i + 1))]; exact h0)
      rw [h.eqc] at e
      exact e
    have hw := w220_ex (o := 329) h.L.2.1 (z := 1) hc rfl
    have hm : zden zcds 12 175 [.ref 262, .int (xs (i + 1))] (zwi μ I) = some (0, some (.int (0)), 0, 0, zwi μ (zfl (zfl (zfl I 262 6 (zup (zup X 0 0 0) 0 0 1)) 285 22 (S)) 307 22 (A))) := by
      have e := c_mar_r (d := 9) (J := I) (X := X) (S := S) (A := A) h.M (v := (xs (i + 1))) (by rw [hN.2.2.2.2.2.2.1]; exact h0)
      rw [h.eqm] at e
      exact e
    have hf := zfin0 h (zup (zup X 0 0 0) 0 0 1) S A ((hq0.x0 0).x0 1)
    have ht := hf.2
    rw [show (zup (zup X 0 0 0) 0 0 1) 0 0 = Int32.ofNat 1 from zup_same _ _ _ _] at ht
    exact zP.im (fun z hz => lawc_922 hi h.SP h.SP h.L.2.1 h.tg8 h.tg8 hw hm ht (fun hk0 => absurd hk0 (by decide)) hz) (hk _ _ 1 6 hf.1 (by decide) (by decide))
  · obtain ⟨l, hl, hy⟩ := zq_rin (by omega) h0
    have ha := zq_arv (X := X) (A := A) (U := U) hR hl
    have e2 : (mar X A S T nl np nh nk l).2.1 = zup X 0 0 0 := rfl
    have hc : zden zcds 11 15 [.ref 82, .int (xs (i + 1))] (zwi μ I) = some (0, some (.int ((mar X A S T nl np nh nk l).1)), 0, 0, zwi μ (zpc (zpc I n (V)) s ((aarv V U nl np nh nk l).2))) := by
      rw [hy]
      have e := c_arv (d := 2) (J := I) (V := V) (U := U) h.L hG hZU hl
      rw [h.eqc, ha] at e
      exact e
    have h1 := h.cls (V) ((aarv V U nl np nh nk l).2)
    obtain ⟨h2, hg⟩ := h1.put ((mar X A S T nl np nh nk l).1).toInt64
    have hw := w220_ok (o := 329) h.L.2.1 ⟨h1.out.1, h1.out.2, (by decide)⟩ hc
    have hm : zden zcds 12 175 [.ref 262, .int (xs (i + 1))] (zwi (zsl μ 329 0 ((mar X A S T nl np nh nk l).1).toInt64) (zpc (zpc I n (V)) s ((aarv V U nl np nh nk l).2))) = some (0, some (.int ((mar X A S T nl np nh nk l).1)), 0, 0, zwi (zsl μ 329 0 ((mar X A S T nl np nh nk l).1).toInt64) (zfl (zfl (zfl (zpc (zpc I n (V)) s ((aarv V U nl np nh nk l).2)) 262 6 (zup X 0 0 0)) 285 22 (S)) 307 22 ((mar X A S T nl np nh nk l).2.2))) := by
      rw [hy]
      have e := c_mar (d := 2) (J := _) (X := X) (S := S) (A := A) h2.M hN hIN hl (by omega)
      rw [h2.eqm, e2] at e
      exact e
    have hf := zfin0 h2 (zup X 0 0 0) (S) ((mar X A S T nl np nh nk l).2.2) (nl := nl) (np := np) (nh := nh) (nk := nk) (len := len) (by
      rw [zpc_o (by have := h.ns; omega), zpc_o (by have := h.ns; omega)]
      exact (zQ5.x0 (zQ5.u hq0 (zSZ_aarv hG hZU)) 0))
    have ht := hf.2
    rw [show (zup X 0 0 0) 0 0 = 0 from zup_same _ _ _ _] at ht
    exact zP.im (fun z hz => lawc_922 hi h.SP h2.SP h.L.2.1 h2.tg8 h2.tg8 hw hm ht (fun _ => ⟨h2.out.1, h2.out.2, hg⟩) hz) (hk _ _ 0 0 hf.1 (by decide) (by decide))

set_option maxRecDepth 20000 in
theorem st_1046 {μ : zM} {I : zFn} {N : Nat} {xs : Nat → Int32} {n s t : Nat} {V U : zV} {T S A X Y : zFn} {nl np nh nk len : Nat} {i c sl : Nat} {Q : zR → Prop} (h : zI5 μ I N xs n s t V U T S A X Y) (hq : zQ5 (I 82 0) V U T S X Y nl np nh nk len) (hi : i + 6 ≤ N) (hk : ∀ (μ2 : zM) (I2 : zFn) (c2 s2 : Nat), zINV μ2 I2 N xs → c2 ≤ 400 → s2 ≤ 4000 → zP Q (zden1 12 (zden zcds 12) zc232 (23, [(4, .int (nI (i + 6))), (3, .ref 329), (2, .ref 262), (1, .ref 82), (0, .ref 81)], [], c + c2, sl + s2, zwi μ2 I2))) : zP Q (zden1 12 (zden zcds 12) zc232 (1046, [(4, .int (nI i)), (3, .ref 329), (2, .ref 262), (1, .ref 82), (0, .ref 81)], [], c, sl, zwi μ I)) := by
  have hq0 := hq
  obtain ⟨hR, hIN, hS2, hZV, hZU, hSQ, hTp, hE⟩ := hq
  have hG := zq_WG hR hZV
  have hN : zTN T nl np nh nk := hR.1.1
  obtain ⟨b1, b2, b3, b4⟩ := zq_np hR
  by_cases h0 : rin (xs (i + 1)) 0 (nI nk - 1) = 0
  ·
    have hc : zden zcds 11 18 [.ref 82, .int (xs (i + 1))] (zwi μ I) = some (0 + 1, none, 1, 6, zwi μ I) := by
      have e := c_bla_t (d := 3) (J := I) (V := V) (U := U) h.L (x := (xs (i + 1))) (by rw [zq_has hG.1.2.2.2.2.2.2.1 (by omega) (xs (i + 1))]; exact h0)
      rw [h.eqc] at e
      exact e
    have hw := w222_ex (o := 329) h.L.2.1 (z := 1) hc rfl
    have hm : zden zcds 12 177 [.ref 262, .int (xs (i + 1))] (zwi μ I) = some (0, some (.int (0)), 0, 0, zwi μ (zfl (zfl (zfl I 262 6 (zup (zup X 0 0 0) 0 0 1)) 285 22 (S)) 307 22 (A))) := by
      have e := c_mbl_r (d := 9) (J := I) (X := X) (S := S) (A := A) h.M (v := (xs (i + 1))) (by rw [hN.2.2.2.2.2.2.1]; exact h0)
      rw [h.eqm] at e
      exact e
    have hf := zfin0 h (zup (zup X 0 0 0) 0 0 1) S A ((hq0.x0 0).x0 1)
    have ht := hf.2
    rw [show (zup (zup X 0 0 0) 0 0 1) 0 0 = Int32.ofNat 1 from zup_same _ _ _ _] at ht
    exact zP.im (fun z hz => lawc_1046 hi h.SP h.SP h.L.2.1 h.tg8 h.tg8 hw hm ht (fun hk0 => absurd hk0 (by decide)) hz) (hk _ _ 1 6 hf.1 (by decide) (by decide))
  · obtain ⟨l, hl, hy⟩ := zq_rin (by omega) h0
    have ha := zq_bla (X := X) (A := A) (U := U) hR hl
    have e2 : (mbl X A S T nl np nh nk l).2.1 = zup X 0 0 0 := rfl
    have hc : zden zcds 11 18 [.ref 82, .int (xs (i + 1))] (zwi μ I) = some (0, some (.int ((mbl X A S T nl np nh nk l).1)), 0, 0, zwi μ (zpc (zpc I n (V)) s ((abla V U nl np nh nk l).2))) := by
      rw [hy]
      have e := c_bla (d := 2) (J := I) (V := V) (U := U) h.L hG hZU hl
      rw [h.eqc, ha] at e
      exact e
    have h1 := h.cls (V) ((abla V U nl np nh nk l).2)
    obtain ⟨h2, hg⟩ := h1.put ((mbl X A S T nl np nh nk l).1).toInt64
    have hw := w222_ok (o := 329) h.L.2.1 ⟨h1.out.1, h1.out.2, (by decide)⟩ hc
    have hm : zden zcds 12 177 [.ref 262, .int (xs (i + 1))] (zwi (zsl μ 329 0 ((mbl X A S T nl np nh nk l).1).toInt64) (zpc (zpc I n (V)) s ((abla V U nl np nh nk l).2))) = some (0, some (.int ((mbl X A S T nl np nh nk l).1)), 0, 0, zwi (zsl μ 329 0 ((mbl X A S T nl np nh nk l).1).toInt64) (zfl (zfl (zfl (zpc (zpc I n (V)) s ((abla V U nl np nh nk l).2)) 262 6 (zup X 0 0 0)) 285 22 (S)) 307 22 ((mbl X A S T nl np nh nk l).2.2))) := by
      rw [hy]
      have e := c_mbl (d := 1) (J := _) (X := X) (S := S) (A := A) h2.M hN hIN hl (by omega)
      rw [h2.eqm, e2] at e
      exact e
    have hf := zfin0 h2 (zup X 0 0 0) (S) ((mbl X A S T nl np nh nk l).2.2) (nl := nl) (np := np) (nh := nh) (nk := nk) (len := len) (by
      rw [zpc_o (by have := h.ns; omega), zpc_o (by have := h.ns; omega)]
      exact (zQ5.x0 (zQ5.u hq0 (zSZ_abla hG hZU)) 0))
    have ht := hf.2
    rw [show (zup X 0 0 0) 0 0 = 0 from zup_same _ _ _ _] at ht
    exact zP.im (fun z hz => lawc_1046 hi h.SP h2.SP h.L.2.1 h2.tg8 h2.tg8 hw hm ht (fun _ => ⟨h2.out.1, h2.out.2, hg⟩) hz) (hk _ _ 0 0 hf.1 (by decide) (by decide))

set_option maxRecDepth 20000 in
theorem st_1102 {μ : zM} {I : zFn} {N : Nat} {xs : Nat → Int32} {n s t : Nat} {V U : zV} {T S A X Y : zFn} {nl np nh nk len : Nat} {i c sl : Nat} {Q : zR → Prop} (h : zI5 μ I N xs n s t V U T S A X Y) (hq : zQ5 (I 82 0) V U T S X Y nl np nh nk len) (hi : i + 6 ≤ N) (hk : ∀ (μ2 : zM) (I2 : zFn) (c2 s2 : Nat), zINV μ2 I2 N xs → c2 ≤ 400 → s2 ≤ 4000 → zP Q (zden1 12 (zden zcds 12) zc232 (23, [(4, .int (nI (i + 6))), (3, .ref 329), (2, .ref 262), (1, .ref 82), (0, .ref 81)], [], c + c2, sl + s2, zwi μ2 I2))) : zP Q (zden1 12 (zden zcds 12) zc232 (1102, [(4, .int (nI i)), (3, .ref 329), (2, .ref 262), (1, .ref 82), (0, .ref 81)], [], c, sl, zwi μ I)) := by
  have hq0 := hq
  obtain ⟨hR, hIN, hS2, hZV, hZU, hSQ, hTp, hE⟩ := hq
  have hG := zq_WG hR hZV
  have hN : zTN T nl np nh nk := hR.1.1
  obtain ⟨b1, b2, b3, b4⟩ := zq_np hR
  by_cases h0 : rin (xs (i + 1)) 0 (nI nk - 1) = 0
  ·
    have hc : zden zcds 11 19 [.ref 82, .int (xs (i + 1))] (zwi μ I) = some (0 + 1, none, 1, 6, zwi μ I) := by
      have e := c_dou_t (d := 3) (J := I) (V := V) (U := U) h.L (x := (xs (i + 1))) (by rw [zq_has hG.1.2.2.2.2.2.2.1 (by omega) (xs (i + 1))]; exact h0)
      rw [h.eqc] at e
      exact e
    have hw := w223_ex (o := 329) h.L.2.1 (z := 1) hc rfl
    have hm : zden zcds 12 179 [.ref 262, .int (xs (i + 1))] (zwi μ I) = some (0, some (.int (0)), 0, 0, zwi μ (zfl (zfl (zfl I 262 6 (zup (zup X 0 0 0) 0 0 1)) 285 22 (S)) 307 22 (A))) := by
      have e := c_mdo_r (d := 9) (J := I) (X := X) (S := S) (A := A) h.M (v := (xs (i + 1))) (by rw [hN.2.2.2.2.2.2.1]; exact h0)
      rw [h.eqm] at e
      exact e
    have hf := zfin0 h (zup (zup X 0 0 0) 0 0 1) S A ((hq0.x0 0).x0 1)
    have ht := hf.2
    rw [show (zup (zup X 0 0 0) 0 0 1) 0 0 = Int32.ofNat 1 from zup_same _ _ _ _] at ht
    exact zP.im (fun z hz => lawc_1102 hi h.SP h.SP h.L.2.1 h.tg8 h.tg8 hw hm ht (fun hk0 => absurd hk0 (by decide)) hz) (hk _ _ 1 6 hf.1 (by decide) (by decide))
  · obtain ⟨l, hl, hy⟩ := zq_rin (by omega) h0
    have ha := zq_dou (X := X) (A := A) (U := U) hR hl (fun x => by obtain ⟨j, hj, e⟩ := vbc_le x; rw [e, nI_clamp (by omega)]; omega)
    have e2 : (mdo X A S T nl np nh nk l).2.1 = zup X 0 0 0 := by
      unfold mdo
      dsimp only
      split <;> rfl
    have hc : zden zcds 11 19 [.ref 82, .int (xs (i + 1))] (zwi μ I) = some (0, some (.int ((mdo X A S T nl np nh nk l).1)), 0, 0, zwi μ (zpc (zpc I n (V)) s ((adou V U nl np nh nk l).2))) := by
      rw [hy]
      have e := c_dou (d := 1) (J := I) (V := V) (U := U) h.L hG hZU hl
      rw [h.eqc, ha] at e
      exact e
    have h1 := h.cls (V) ((adou V U nl np nh nk l).2)
    obtain ⟨h2, hg⟩ := h1.put ((mdo X A S T nl np nh nk l).1).toInt64
    have hw := w223_ok (o := 329) h.L.2.1 ⟨h1.out.1, h1.out.2, (by decide)⟩ hc
    have hm : zden zcds 12 179 [.ref 262, .int (xs (i + 1))] (zwi (zsl μ 329 0 ((mdo X A S T nl np nh nk l).1).toInt64) (zpc (zpc I n (V)) s ((adou V U nl np nh nk l).2))) = some (0, some (.int ((mdo X A S T nl np nh nk l).1)), 0, 0, zwi (zsl μ 329 0 ((mdo X A S T nl np nh nk l).1).toInt64) (zfl (zfl (zfl (zpc (zpc I n (V)) s ((adou V U nl np nh nk l).2)) 262 6 (zup X 0 0 0)) 285 22 (S)) 307 22 ((mdo X A S T nl np nh nk l).2.2))) := by
      rw [hy]
      have e := c_mdo (d := 1) (J := _) (X := X) (S := S) (A := A) h2.M hN hIN hl (by omega)
      rw [h2.eqm, e2] at e
      exact e
    have hf := zfin0 h2 (zup X 0 0 0) (S) ((mdo X A S T nl np nh nk l).2.2) (nl := nl) (np := np) (nh := nh) (nk := nk) (len := len) (by
      rw [zpc_o (by have := h.ns; omega), zpc_o (by have := h.ns; omega)]
      exact (zQ5.x0 (zQ5.u hq0 (zSZ_adou hG hZU)) 0))
    have ht := hf.2
    rw [show (zup X 0 0 0) 0 0 = 0 from zup_same _ _ _ _] at ht
    exact zP.im (fun z hz => lawc_1102 hi h.SP h2.SP h.L.2.1 h2.tg8 h2.tg8 hw hm ht (fun _ => ⟨h2.out.1, h2.out.2, hg⟩) hz) (hk _ _ 0 0 hf.1 (by decide) (by decide))

set_option maxRecDepth 20000 in
theorem st_978 {μ : zM} {I : zFn} {N : Nat} {xs : Nat → Int32} {n s t : Nat} {V U : zV} {T S A X Y : zFn} {nl np nh nk len : Nat} {i c sl : Nat} {Q : zR → Prop} (h : zI5 μ I N xs n s t V U T S A X Y) (hq : zQ5 (I 82 0) V U T S X Y nl np nh nk len) (hi : i + 6 ≤ N) (hk : ∀ (μ2 : zM) (I2 : zFn) (c2 s2 : Nat), zINV μ2 I2 N xs → c2 ≤ 400 → s2 ≤ 4000 → zP Q (zden1 12 (zden zcds 12) zc232 (23, [(4, .int (nI (i + 6))), (3, .ref 329), (2, .ref 262), (1, .ref 82), (0, .ref 81)], [], c + c2, sl + s2, zwi μ2 I2))) : zP Q (zden1 12 (zden zcds 12) zc232 (978, [(4, .int (nI i)), (3, .ref 329), (2, .ref 262), (1, .ref 82), (0, .ref 81)], [], c, sl, zwi μ I)) := by
  have hq0 := hq
  obtain ⟨hR, hIN, hS2, hZV, hZU, hSQ, hTp, hE⟩ := hq
  have hG := zq_WG hR hZV
  have hN : zTN T nl np nh nk := hR.1.1
  obtain ⟨b1, b2, b3, b4⟩ := zq_np hR
  by_cases h0 : rin (xs (i + 1)) 0 (nI nl - 1) = 0
  ·
    have hc : zden zcds 11 17 [.ref 82, .int (xs (i + 1)), .int (xs (i + 2))] (zwi μ I) = some (0 + 1, none, 1, 6, zwi μ I) := by
      have e := c_whe_t (d := 3) (J := I) (V := V) (U := U) h.L (x := (xs (i + 1))) (y := (xs (i + 2))) (by rw [zq_has hG.1.1 (by omega) (xs (i + 1))]; exact h0)
      rw [h.eqc] at e
      exact e
    have hw := w221_ex (o := 329) h.L.2.1 (z := 1) hc rfl
    have hm : zden zcds 12 176 [.ref 262, .int (xs (i + 1)), .int (xs (i + 2))] (zwi μ I) = some (0, some (.int (0)), 0, 0, zwi μ (zfl (zfl (zfl I 262 6 (zup (zup X 0 0 0) 0 0 1)) 285 22 (S)) 307 22 (A))) := by
      have e := c_mwh_r (d := 9) (J := I) (X := X) (S := S) (A := A) h.M (v := (xs (i + 1))) (w0 := (xs (i + 2))) (by rw [hN.1]; exact h0)
      rw [h.eqm] at e
      exact e
    have hf := zfin0 h (zup (zup X 0 0 0) 0 0 1) S A ((hq0.x0 0).x0 1)
    have ht := hf.2
    rw [show (zup (zup X 0 0 0) 0 0 1) 0 0 = Int32.ofNat 1 from zup_same _ _ _ _] at ht
    exact zP.im (fun z hz => lawc_978 hi h.SP h.SP h.L.2.1 h.tg8 h.tg8 hw hm ht (fun hk0 => absurd hk0 (by decide)) hz) (hk _ _ 1 6 hf.1 (by decide) (by decide))
  · obtain ⟨l, hl, hy⟩ := zq_rin (by omega) h0
    by_cases h1 : rin (xs (i + 2)) 0 500 = 0
    ·
      have hc : zden zcds 11 17 [.ref 82, .int (xs (i + 1)), .int (xs (i + 2))] (zwi μ I) = some (2 + 1, none, 1, 6, zwi μ I) := by
        rw [hy]
        have e := c_whe_t2 (d := 3) (J := I) (V := V) (U := U) h.L (x := nI l) (y := (xs (i + 2))) (vhas_1 hG.1.1 (by omega) hl) h1
        rw [h.eqc] at e
        exact e
      have hw := w221_ex (o := 329) h.L.2.1 (z := 2) hc rfl
      have hm : zden zcds 12 176 [.ref 262, .int (xs (i + 1)), .int (xs (i + 2))] (zwi μ I) = some (0, some (.int (0)), 0, 0, zwi μ (zfl (zfl (zfl I 262 6 (zup (zup X 0 0 0) 0 0 2)) 285 22 (S)) 307 22 (A))) := by
        rw [hy]
        have e := c_mwh_r2 (d := 9) (J := I) (X := X) (S := S) (A := A) h.M hN hl h1
        rw [h.eqm] at e
        exact e
      have hf := zfin0 h (zup (zup X 0 0 0) 0 0 2) S A ((hq0.x0 0).x0 2)
      have ht := hf.2
      rw [show (zup (zup X 0 0 0) 0 0 2) 0 0 = Int32.ofNat 2 from zup_same _ _ _ _] at ht
      exact zP.im (fun z hz => lawc_978 hi h.SP h.SP h.L.2.1 h.tg8 h.tg8 hw hm ht (fun hk0 => absurd hk0 (by decide)) hz) (hk _ _ 1 6 hf.1 (by decide) (by decide))
    · obtain ⟨v, hv, hz⟩ := rin_ex (m := 500) (by decide) h1
      obtain ⟨z6, hz6, hzs, ha⟩ := zq_whe (X := X) (A := A) (U := U) hR hl v
      have e2 : (mwh X A S T l v).2.1 = zup X 0 0 0 := rfl
      have hc : zden zcds 11 17 [.ref 82, .int (xs (i + 1)), .int (xs (i + 2))] (zwi μ I) = some (0, some (.int ((mwh X A S T l v).1)), 0, 0, zwi μ (zpc (zpc I n (V)) s ((awhe V U l v z6).2))) := by
        rw [hy, hz]
        have e := c_whe (d := 3) (J := I) (V := V) (U := U) h.L hG.1.1 (by omega) hl hv (by omega) hz6 hzs
        rw [h.eqc, ha] at e
        exact e
      have h1 := h.cls (V) ((awhe V U l v z6).2)
      obtain ⟨h2, hg⟩ := h1.put ((mwh X A S T l v).1).toInt64
      have hw := w221_ok (o := 329) h.L.2.1 ⟨h1.out.1, h1.out.2, (by decide)⟩ hc
      have hm : zden zcds 12 176 [.ref 262, .int (xs (i + 1)), .int (xs (i + 2))] (zwi (zsl μ 329 0 ((mwh X A S T l v).1).toInt64) (zpc (zpc I n (V)) s ((awhe V U l v z6).2))) = some (0, some (.int ((mwh X A S T l v).1)), 0, 0, zwi (zsl μ 329 0 ((mwh X A S T l v).1).toInt64) (zfl (zfl (zfl (zpc (zpc I n (V)) s ((awhe V U l v z6).2)) 262 6 (zup X 0 0 0)) 285 22 (S)) 307 22 ((mwh X A S T l v).2.2))) := by
        rw [hy, hz]
        have e := c_mwh (d := 4) (J := _) (X := X) (S := S) (A := A) h2.M hN hIN hl (by omega) hv
        rw [h2.eqm, e2] at e
        exact e
      have hf := zfin0 h2 (zup X 0 0 0) (S) ((mwh X A S T l v).2.2) (nl := nl) (np := np) (nh := nh) (nk := nk) (len := len) (by
        rw [zpc_o (by have := h.ns; omega), zpc_o (by have := h.ns; omega)]
        exact (zQ5.x0 (zQ5.u hq0 (zSZ_awhe hZU)) 0))
      have ht := hf.2
      rw [show (zup X 0 0 0) 0 0 = 0 from zup_same _ _ _ _] at ht
      exact zP.im (fun z hz => lawc_978 hi h.SP h2.SP h.L.2.1 h2.tg8 h2.tg8 hw hm ht (fun _ => ⟨h2.out.1, h2.out.2, hg⟩) hz) (hk _ _ 0 0 hf.1 (by decide) (by decide))

