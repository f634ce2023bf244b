/-! THE OTHER CALLS -/
set_option maxRecDepth 20000 in
theorem st_136 {μ : zM} {I : zFn} {N : Nat} {xs : Nat → Int32} {n s t : Nat} {V U : zV} {T S A X Y : zFn} {nl np nh nk len : Nat} {i c sl : Nat} {Q : zR → Prop} (h : zI5 μ I N xs n s t V U T S A X Y) (hq : zQ5 (I 82 0) V U T S X Y nl np nh nk len) (hi : i + 6 ≤ N) (hk : ∀ (μ2 : zM) (I2 : zFn) (c2 s2 : Nat), zINV μ2 I2 N xs → c2 ≤ 400 → s2 ≤ 4000 → zP Q (zden1 12 (zden zcds 12) zc232 (23, [(4, .int (nI (i + 6))), (3, .ref 329), (2, .ref 262), (1, .ref 82), (0, .ref 81)], [], c + c2, sl + s2, zwi μ2 I2))) : zP Q (zden1 12 (zden zcds 12) zc232 (136, [(4, .int (nI i)), (3, .ref 329), (2, .ref 262), (1, .ref 82), (0, .ref 81)], [], c, sl, zwi μ I)) := by
  have hq0 := hq
  obtain ⟨hR, hIN, hS2, hZV, hZU, hSQ, hTp, hE⟩ := hq
  have hG := zq_WG hR hZV
  have hN : zTN T nl np nh nk := hR.1.1
  obtain ⟨b1, b2, b3, b4⟩ := zq_np hR
  by_cases hn : len ≤ 1980
  ·
    have hc : zden zcds 11 1 [.ref 82, .int (xs (i + 1)), .int (xs (i + 2)), .int (xs (i + 3)), .int (xs (i + 4)), .int (xs (i + 5))] (zwi μ I) = some (0, some (.int (nI (len + 20))), 0, 0, zwi μ (zfl I 84 5 ((afee Y len (xs (i + 1)) (xs (i + 2)) (xs (i + 3)) (xs (i + 4)) (xs (i + 5))).2))) := by
      have e := c_fee (d := 3) (J := I) (Q := Y) h.L h.R.2.2.2.2.2 hTp.1 hn (a := xs (i + 1)) (b := xs (i + 2)) (c := xs (i + 3)) (e := xs (i + 4)) (f := xs (i + 5))
      rw [h.eqt, (zq_fee hTp hn).2] at e
      exact e
    have h1 := h.tap ((afee Y len (xs (i + 1)) (xs (i + 2)) (xs (i + 3)) (xs (i + 4)) (xs (i + 5))).2)
    obtain ⟨h2, hg⟩ := h1.put (nI (len + 20)).toInt64
    have hw := w209_ok (o := 329) h.L.2.1 ⟨h1.out.1, h1.out.2, (by decide)⟩ hc
    have hm : zden zcds 12 156 [.ref 262, .int (xs (i + 1)), .int (xs (i + 2)), .int (xs (i + 3)), .int (xs (i + 4)), .int (xs (i + 5))] (zwi (zsl μ 329 0 (nI (len + 20)).toInt64) (zfl I 84 5 ((afee Y len (xs (i + 1)) (xs (i + 2)) (xs (i + 3)) (xs (i + 4)) (xs (i + 5))).2))) = some (0, some (.int (nI (len + 20))), 1, 5, zwi ((zsl μ 329 0 (nI (len + 20)).toInt64) ++ [zR5]) (zfl (zfl (zfl (zgb (zfl I 84 5 ((afee Y len (xs (i + 1)) (xs (i + 2)) (xs (i + 3)) (xs (i + 4)) (xs (i + 5))).2)) (zsl μ 329 0 (nI (len + 20)).toInt64).length (mfR (xs (i + 1)) (xs (i + 2)) (xs (i + 3)) (xs (i + 4)) (xs (i + 5)))) 262 6 (mfeX X (mfR (xs (i + 1)) (xs (i + 2)) (xs (i + 3)) (xs (i + 4)) (xs (i + 5))) len)) 285 22 (S)) 307 22 (A))) := by
      have e := c_mfe (d := 6) (J := _) (X := X) (S := S) (A := A) h2.M hTp.2.1 hn (a := xs (i + 1)) (b := xs (i + 2)) (e := xs (i + 3)) (f := xs (i + 4)) (i := xs (i + 5))
      rw [h2.eqm] at e
      exact e
    have h3 := h2.row [zR5] (I' := zgb (zfl I 84 5 ((afee Y len (xs (i + 1)) (xs (i + 2)) (xs (i + 3)) (xs (i + 4)) (xs (i + 5))).2)) (zsl μ 329 0 (nI (len + 20)).toInt64).length (mfR (xs (i + 1)) (xs (i + 2)) (xs (i + 3)) (xs (i + 4)) (xs (i + 5)))) (fun a ha => by unfold zgb; rw [if_neg (by omega)])
    have hf := zfin0 h3 (mfeX X (mfR (xs (i + 1)) (xs (i + 2)) (xs (i + 3)) (xs (i + 4)) (xs (i + 5))) len) (S) (A) (nl := nl) (np := np) (nh := nh) (nk := nk) (len := len + 20) (by
      rw [show (zgb (zfl I 84 5 ((afee Y len (xs (i + 1)) (xs (i + 2)) (xs (i + 3)) (xs (i + 4)) (xs (i + 5))).2)) (zsl μ 329 0 (nI (len + 20)).toInt64).length (mfR (xs (i + 1)) (xs (i + 2)) (xs (i + 3)) (xs (i + 4)) (xs (i + 5)))) 82 0 = (zfl I 84 5 ((afee Y len (xs (i + 1)) (xs (i + 2)) (xs (i + 3)) (xs (i + 4)) (xs (i + 5))).2)) 82 0 from by unfold zgb; rw [if_neg (by have := h2.ml.1; omega)]]
      rw [zfl_o (by omega)]
      exact ⟨hR, hIN, hS2, hZV, hZU, (fun j hj => by rw [afee_out (by omega) (by decide)]; exact hSQ j hj), (zq_fee hTp hn).1, hE.trans (mfeX_out (by omega) (by decide)).symm⟩)
    have ht := hf.2
    rw [show (mfeX X (mfR (xs (i + 1)) (xs (i + 2)) (xs (i + 3)) (xs (i + 4)) (xs (i + 5))) len) 0 0 = 0 from mfeX_0.1] at ht
    have ho : zgl ((zsl μ 329 0 (nI (len + 20)).toInt64) ++ [zR5]) 329 0 = (nI (len + 20)).toInt64 := by
      unfold zgl
      rw [zen_appL (by have := h2.ml.1; omega)]
      exact hg
    exact zP.im (fun z hz => lawc_136 hi h.SP h2.SP h.L.2.1 h2.tg8 h3.tg8 hw hm ht (fun _ => ⟨h3.out.1, h3.out.2, ho⟩) hz) (hk _ _ 1 5 hf.1 (by decide) (by decide))
  ·
    have hc : zden zcds 11 1 [.ref 82, .int (xs (i + 1)), .int (xs (i + 2)), .int (xs (i + 3)), .int (xs (i + 4)), .int (xs (i + 5))] (zwi μ I) = some (1 + 1, none, 1, 6, zwi μ I) := by
      have e := c_fee_t (d := 3) (J := I) (Q := Y) h.L h.R.2.2.2.2.2 hTp.1 hTp.2.2.1 (by omega) (a := xs (i + 1)) (b := xs (i + 2)) (c := xs (i + 3)) (e := xs (i + 4)) (f := xs (i + 5))
      rw [h.eqt] at e
      exact e
    have hw := w209_ex (o := 329) h.L.2.1 (z := 1) hc rfl
    have hm : zden zcds 12 156 [.ref 262, .int (xs (i + 1)), .int (xs (i + 2)), .int (xs (i + 3)), .int (xs (i + 4)), .int (xs (i + 5))] (zwi μ I) = some (0, some (.int (0)), 0, 0, zwi μ (zfl (zfl (zfl I 262 6 (zup (zup X 0 0 0) 0 0 1)) 285 22 (S)) 307 22 (A))) := by
      have e := c_mfe_r (d := 9) (J := I) (X := X) (S := S) (A := A) h.M hTp.2.1 hTp.2.2.1 (by omega) (a := xs (i + 1)) (b := xs (i + 2)) (e := xs (i + 3)) (f := xs (i + 4)) (i := xs (i + 5))
      rw [h.eqm] at e
      exact e
    have hf := zfin0 h (zup (zup X 0 0 0) 0 0 1) S A ((hq0.x0 0).x0 1)
    have ht := hf.2
    rw [show (zup (zup X 0 0 0) 0 0 1) 0 0 = Int32.ofNat 1 from zup_same _ _ _ _] at ht
    exact zP.im (fun z hz => lawc_136 hi h.SP h.SP h.L.2.1 h.tg8 h.tg8 hw hm ht (fun hk0 => absurd hk0 (by decide)) hz) (hk _ _ 1 6 hf.1 (by decide) (by decide))

set_option maxRecDepth 20000 in
theorem st_240 {μ : zM} {I : zFn} {N : Nat} {xs : Nat → Int32} {n s t : Nat} {V U : zV} {T S A X Y : zFn} {nl np nh nk len : Nat} {i c sl : Nat} {Q : zR → Prop} (h : zI5 μ I N xs n s t V U T S A X Y) (hq : zQ5 (I 82 0) V U T S X Y nl np nh nk len) (hi : i + 6 ≤ N) (hk : ∀ (μ2 : zM) (I2 : zFn) (c2 s2 : Nat), zINV μ2 I2 N xs → c2 ≤ 400 → s2 ≤ 4000 → zP Q (zden1 12 (zden zcds 12) zc232 (23, [(4, .int (nI (i + 6))), (3, .ref 329), (2, .ref 262), (1, .ref 82), (0, .ref 81)], [], c + c2, sl + s2, zwi μ2 I2))) : zP Q (zden1 12 (zden zcds 12) zc232 (240, [(4, .int (nI i)), (3, .ref 329), (2, .ref 262), (1, .ref 82), (0, .ref 81)], [], c, sl, zwi μ I)) := by
  have hq0 := hq
  obtain ⟨hR, hIN, hS2, hZV, hZU, hSQ, hTp, hE⟩ := hq
  have hG := zq_WG hR hZV
  have hN : zTN T nl np nh nk := hR.1.1
  obtain ⟨b1, b2, b3, b4⟩ := zq_np hR
  by_cases h0 : rin (xs (i + 1)) 0 (nI len) = 0
  · have ha : atri Y (xs (i + 1)) = (3, 0, Y) := by
      unfold atri
      by_cases h2 : (xs (i + 1)) < 0
      · rw [if_pos h2]
      · rw [if_neg h2, hTp.1, if_neg (fun h3 => rin_0.mp h0 ⟨i_nlt2 h2, h3⟩)]
    have e2 : mtr X (xs (i + 1)) = (0, zup (zup X 0 0 0) 0 0 1) := by
      unfold mtr
      dsimp only
      rw [zup_ne' (by omega), hTp.2.1, if_pos h0]
    have hc : zden zcds 11 2 [.ref 82, .int (xs (i + 1))] (zwi μ I) = some (2 + 1, none, 1, 6, zwi μ I) := by
      have e := c_tri (d := 3) (J := I) (Q := Y) h.L h.R.2.2.2.2.2 (x := (xs (i + 1)))
      rw [h.eqt, ha] at e
      dsimp only at e
      rw [h.eqt] at e
      exact e
    have hw := w210_ex (o := 329) h.L.2.1 (z := 1) hc rfl
    have hm : zden zcds 12 157 [.ref 262, .int (xs (i + 1))] (zwi μ I) = some (0, some (.int (0)), 0, 0, zwi μ (zfl (zfl (zfl I 262 6 (zup (zup X 0 0 0) 0 0 1)) 285 22 (S)) 307 22 (A))) := by
      have e := c_mtr (d := 10) (J := I) (X := X) (S := S) (A := A) h.M (v := (xs (i + 1)))
      rw [h.eqm, e2] at e
      exact e
    have hf := zfin0 h (zup (zup X 0 0 0) 0 0 1) S A ((hq0.x0 0).x0 1)
    have ht := hf.2
    rw [show (zup (zup X 0 0 0) 0 0 1) 0 0 = Int32.ofNat 1 from zup_same _ _ _ _] at ht
    exact zP.im (fun z hz => lawc_240 hi h.SP h.SP h.L.2.1 h.tg8 h.tg8 hw hm ht (fun hk0 => absurd hk0 (by decide)) hz) (hk _ _ 1 6 hf.1 (by decide) (by decide))
  · obtain ⟨j, hj, hy⟩ := rin_ex (by have := hTp.2.2.1; omega) h0
    obtain ⟨r1, r2⟩ := Decidable.not_not.mp (fun q => h0 (rin_0.mpr q))
    have ha : atri Y (xs (i + 1)) = (0, (xs (i + 1)), zup Y 0 0 (xs (i + 1))) := by
      unfold atri
      rw [if_neg (i_nlt r1), hTp.1, if_pos r2]
    have e2 : mtr X (xs (i + 1)) = ((xs (i + 1)), zup (zup X 0 0 0) 0 1 (xs (i + 1))) := by
      unfold mtr
      dsimp only
      rw [zup_ne' (by omega), hTp.2.1, if_neg h0]
    have hc : zden zcds 11 2 [.ref 82, .int (xs (i + 1))] (zwi μ I) = some (0, some (.int ((xs (i + 1)))), 0, 0, zwi μ (zfl I 84 5 (zup Y 0 0 (xs (i + 1))))) := by
      have e := c_tri (d := 3) (J := I) (Q := Y) h.L h.R.2.2.2.2.2 (x := (xs (i + 1)))
      rw [h.eqt, ha] at e
      exact e
    have h1 := h.tap (zup Y 0 0 (xs (i + 1)))
    obtain ⟨h2, hg⟩ := h1.put ((xs (i + 1))).toInt64
    have hw := w210_ok (o := 329) h.L.2.1 ⟨h1.out.1, h1.out.2, (by decide)⟩ hc
    have hm : zden zcds 12 157 [.ref 262, .int (xs (i + 1))] (zwi (zsl μ 329 0 ((xs (i + 1))).toInt64) (zfl I 84 5 (zup Y 0 0 (xs (i + 1))))) = some (0, some (.int ((xs (i + 1)))), 0, 0, zwi (zsl μ 329 0 ((xs (i + 1))).toInt64) (zfl (zfl (zfl (zfl I 84 5 (zup Y 0 0 (xs (i + 1)))) 262 6 (zup (zup X 0 0 0) 0 1 (xs (i + 1)))) 285 22 (S)) 307 22 (A))) := by
      have e := c_mtr (d := 10) (J := _) (X := X) (S := S) (A := A) h2.M (v := (xs (i + 1)))
      rw [h2.eqm, e2] at e
      exact e
    have hf := zfin0 h2 (zup (zup X 0 0 0) 0 1 (xs (i + 1))) (S) (A) (nl := nl) (np := np) (nh := nh) (nk := nk) (len := j) (by
      rw [zfl_o (by omega)]
      exact ⟨hR, hIN, hS2, hZV, hZU, (fun a ha => by rw [zup_ne' (by omega)]; exact hSQ a ha), ⟨(zup_same _ _ _ _).trans hy, (zup_same _ _ _ _).trans hy, by have := hTp.2.2.1; omega, fun a ha => by rw [zup_ne' (by omega), zup_ne' (by omega), zup_ne' (by omega)]; exact hTp.2.2.2 a (by omega)⟩, hE.trans (by rw [zup_ne' (by omega), zup_ne' (by omega)])⟩)
    have ht := hf.2
    rw [show (zup (zup X 0 0 0) 0 1 (xs (i + 1))) 0 0 = 0 from (zup_ne' (by omega)).trans (zup_same _ _ _ _)] at ht
    exact zP.im (fun z hz => lawc_240 hi h.SP h2.SP h.L.2.1 h2.tg8 h2.tg8 hw hm ht (fun _ => ⟨h2.out.1, h2.out.2, hg⟩) hz) (hk _ _ 0 0 hf.1 (by decide) (by decide))

set_option maxRecDepth 20000 in
theorem st_309 {μ : zM} {I : zFn} {N : Nat} {xs : Nat → Int32} {n s t : Nat} {V U : zV} {T S A X Y : zFn} {nl np nh nk len : Nat} {i c sl : Nat} {Q : zR → Prop} (h : zI5 μ I N xs n s t V U T S A X Y) (hq : zQ5 (I 82 0) V U T S X Y nl np nh nk len) (hi : i + 6 ≤ N) (hk : ∀ (μ2 : zM) (I2 : zFn) (c2 s2 : Nat), zINV μ2 I2 N xs → c2 ≤ 400 → s2 ≤ 4000 → zP Q (zden1 12 (zden zcds 12) zc232 (23, [(4, .int (nI (i + 6))), (3, .ref 329), (2, .ref 262), (1, .ref 82), (0, .ref 81)], [], c + c2, sl + s2, zwi μ2 I2))) : zP Q (zden1 12 (zden zcds 12) zc232 (309, [(4, .int (nI i)), (3, .ref 329), (2, .ref 262), (1, .ref 82), (0, .ref 81)], [], c, sl, zwi μ I)) := by
  have hq0 := hq
  obtain ⟨hR, hIN, hS2, hZV, hZU, hSQ, hTp, hE⟩ := hq
  have hG := zq_WG hR hZV
  have hN : zTN T nl np nh nk := hR.1.1
  obtain ⟨b1, b2, b3, b4⟩ := zq_np hR
  have hw : zden zcds 12 4 [.ref 82] (zwi μ I) = some (0, some (.int (X 0 2)), 0, 0, zwi μ I) := by
    have e := c_era (d := 11) (I := I) h.L
    rw [show I (82 + 0) 0 = X 0 2 from hE] at e
    exact e
  have hm : zden zcds 12 159 [.ref 262] (zwi μ I) = some (0, some (.int (X 0 2)), 0, 0, zwi μ (zfl (zfl (zfl I 262 6 (zup X 0 0 0)) 285 22 (S)) 307 22 (A))) := by
    have e := c_mea (d := 11) (J := I) (X := X) (S := S) (A := A) h.M
    rw [h.eqm, show mea X = (X 0 2, zup X 0 0 0) from by unfold mea; dsimp only; rw [zup_ne' (by omega)]] at e
    exact e
  have hf := zfin0 h (zup X 0 0 0) S A (hq0.x0 0)
  exact zP.im (fun z hz => lawc_309 hi h.SP h.SP h.L.2.1 h.tg8 h.tg8 hw hm hz) (hk _ _ 0 0 hf.1 (by decide) (by decide))

set_option maxRecDepth 20000 in
theorem st_1158 {μ : zM} {I : zFn} {N : Nat} {xs : Nat → Int32} {n s t : Nat} {V U : zV} {T S A X Y : zFn} {nl np nh nk len : Nat} {i c sl : Nat} {Q : zR → Prop} (h : zI5 μ I N xs n s t V U T S A X Y) (hq : zQ5 (I 82 0) V U T S X Y nl np nh nk len) (hi : i + 6 ≤ N) (hk : ∀ (μ2 : zM) (I2 : zFn) (c2 s2 : Nat), zINV μ2 I2 N xs → c2 ≤ 400 → s2 ≤ 4000 → zP Q (zden1 12 (zden zcds 12) zc232 (23, [(4, .int (nI (i + 6))), (3, .ref 329), (2, .ref 262), (1, .ref 82), (0, .ref 81)], [], c + c2, sl + s2, zwi μ2 I2))) : zP Q (zden1 12 (zden zcds 12) zc232 (1158, [(4, .int (nI i)), (3, .ref 329), (2, .ref 262), (1, .ref 82), (0, .ref 81)], [], c, sl, zwi μ I)) := by
  have hq0 := hq
  obtain ⟨hR, hIN, hS2, hZV, hZU, hSQ, hTp, hE⟩ := hq
  have hG := zq_WG hR hZV
  have hN : zTN T nl np nh nk := hR.1.1
  obtain ⟨b1, b2, b3, b4⟩ := zq_np hR
  have hw : zden zcds 12 22 [.ref 82] (zwi μ I) = some (0, some (.int (mne X A S T nl np nh nk).1), 0, 0, zwi μ (zpc (zpc I n V) s (anee V U nl np nh nk).2)) := by
    have e := c_nee (d := 3) (J := I) (V := V) (U := U) h.L hG hZU
    rw [h.eqc, zq_nee (X := X) (A := A) (U := U) hR] at e
    exact e
  have h1 := h.cls V (anee V U nl np nh nk).2
  have hm : zden zcds 12 180 [.ref 262] (zwi μ (zpc (zpc I n V) s (anee V U nl np nh nk).2)) = some (0, some (.int (mne X A S T nl np nh nk).1), 0, 0, zwi μ (zfl (zfl (zfl (zpc (zpc I n V) s (anee V U nl np nh nk).2) 262 6 (zup X 0 0 0)) 285 22 (S)) 307 22 ((mne X A S T nl np nh nk).2.2))) := by
    have e := c_mne (d := 1) (J := _) (X := X) (S := S) (A := A) h1.M hN hIN
    rw [h1.eqm, show (mne X A S T nl np nh nk).2.1 = zup X 0 0 0 from rfl] at e
    exact e
  have hf := zfin0 h1 (zup X 0 0 0) S (mne X A S T nl np nh nk).2.2 (nl := nl) (np := np) (nh := nh) (nk := nk) (len := len) (by
    rw [zpc_o (by have := h.ns; omega), zpc_o (by have := h.ns; omega)]
    exact (zQ5.x0 (zQ5.u hq0 (zSZ_ala hG hZU)) 0))
  exact zP.im (fun z hz => lawc_1158 hi h.SP h1.SP h.L.2.1 h1.tg8 h1.tg8 hw hm hz) (hk _ _ 0 0 hf.1 (by decide) (by decide))

set_option maxRecDepth 20000 in
theorem st_1171 {μ : zM} {I : zFn} {N : Nat} {xs : Nat → Int32} {n s t : Nat} {V U : zV} {T S A X Y : zFn} {nl np nh nk len : Nat} {i c sl : Nat} {Q : zR → Prop} (h : zI5 μ I N xs n s t V U T S A X Y) (hq : zQ5 (I 82 0) V U T S X Y nl np nh nk len) (hi : i + 6 ≤ N) (hk : ∀ (μ2 : zM) (I2 : zFn) (c2 s2 : Nat), zINV μ2 I2 N xs → c2 ≤ 400 → s2 ≤ 4000 → zP Q (zden1 12 (zden zcds 12) zc232 (23, [(4, .int (nI (i + 6))), (3, .ref 329), (2, .ref 262), (1, .ref 82), (0, .ref 81)], [], c + c2, sl + s2, zwi μ2 I2))) : zP Q (zden1 12 (zden zcds 12) zc232 (1171, [(4, .int (nI i)), (3, .ref 329), (2, .ref 262), (1, .ref 82), (0, .ref 81)], [], c, sl, zwi μ I)) := by
  have hq0 := hq
  obtain ⟨hR, hIN, hS2, hZV, hZU, hSQ, hTp, hE⟩ := hq
  have hG := zq_WG hR hZV
  have hN : zTN T nl np nh nk := hR.1.1
  obtain ⟨b1, b2, b3, b4⟩ := zq_np hR
  obtain ⟨m1, m2, m3⟩ := zq_mea (X := X) hR
  have hw : zden zcds 12 23 [.ref 82] (zwi μ I) = some (0, some (.double (vmean V nk)), 0, 0, zwi μ I) := by
    have e := c_vme (d := 7) (J := I) (V := V) (U := U) h.L hG
    rw [h.eqc] at e
    exact e
  have hm : zden zcds 12 181 [.ref 262] (zwi μ I) = some (0, some (.double (vmean V nk)), 0, 0, zwi μ (zfl (zfl (zfl I 262 6 (zup X 0 0 0)) 285 22 (S)) 307 22 (A))) := by
    have e := c_mme (d := 7) (J := I) (X := X) (S := S) (A := A) h.M hN
    rw [h.eqm, m2, ← m1] at e
    exact e
  have hf := zfin0 h (zup X 0 0 0) S A (hq0.x0 0)
  exact zP.im (fun z hz => lawc_1171 h.L.2.1 h.tg8 m3 hw hm hz) (hk _ _ 0 0 hf.1 (by decide) (by decide))

set_option maxRecDepth 20000 in
theorem st_1212 {μ : zM} {I : zFn} {N : Nat} {xs : Nat → Int32} {n s t : Nat} {V U : zV} {T S A X Y : zFn} {nl np nh nk len : Nat} {i c sl : Nat} {Q : zR → Prop} (h : zI5 μ I N xs n s t V U T S A X Y) (hq : zQ5 (I 82 0) V U T S X Y nl np nh nk len) (hi : i + 6 ≤ N) (hk : ∀ (μ2 : zM) (I2 : zFn) (c2 s2 : Nat), zINV μ2 I2 N xs → c2 ≤ 400 → s2 ≤ 4000 → zP Q (zden1 12 (zden zcds 12) zc232 (23, [(4, .int (nI (i + 6))), (3, .ref 329), (2, .ref 262), (1, .ref 82), (0, .ref 81)], [], c + c2, sl + s2, zwi μ2 I2))) : zP Q (zden1 12 (zden zcds 12) zc232 (1212, [(4, .int (nI i)), (3, .ref 329), (2, .ref 262), (1, .ref 82), (0, .ref 81)], [], c, sl, zwi μ I)) := by
  have hq0 := hq
  obtain ⟨hR, hIN, hS2, hZV, hZU, hSQ, hTp, hE⟩ := hq
  have hG := zq_WG hR hZV
  have hN : zTN T nl np nh nk := hR.1.1
  obtain ⟨b1, b2, b3, b4⟩ := zq_np hR
  have htl : Y 0 0 = (zup X 0 0 0) 0 1 := by rw [zup_ne' (by omega), hTp.1, hTp.2.1]
  have hw : zden zcds 12 24 [.ref 82] (zwi μ I) = some (0, some (.long (mdig (zup X 0 0 0) S T nl np nh nk)), 0, 0, zwi μ I) := by
    have e := c_dig (d := 3) (J := I) (V := V) (U := U) h.L hG.1 (h.hQ 0 0 (by decide))
    rw [h.eqc, zq_digs hR htl] at e
    exact e
  obtain ⟨J', hJ, hd⟩ := c_mdi (d := 3) (J := I) (X := X) (S := S) (A := A) h.M hN hIN
  rw [h.eqm] at hd
  have h3 := h.row (List.replicate (8 * (nl + np + nk)) zR8) hJ
  have hf := zfin0 h3 (zup X 0 0 0) S A (nl := nl) (np := np) (nh := nh) (nk := nk) (len := len) (by
    rw [hJ 82 (by have := h.ml.1; omega)]
    exact hq0.x0 0)
  exact zP.im (fun z hz => lawc_1212 h.L.2.1 h.tg8 hw hd hz) (hk _ _ (8 * (nl + np + nk)) (64 * (nl + np + nk)) hf.1 (by omega) (by omega))

