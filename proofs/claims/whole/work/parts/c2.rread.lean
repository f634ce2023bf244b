/-! THE REFERENCE READS -/
theorem zfl_up3 {μ : zM} {x u j k : Nat} {J X T : zFn} {v : Int32} (hU : zUU μ x u) (hj : j < 6) : zup (zfl (zfl J x 6 X) u 17 T) (x + j) k v = zfl (zfl J x 6 (zup X j k v)) u 17 T := by
  rw [← zUs hU, zfl_up hj, zUs hU]
theorem zlt2 {d m : Nat} {a : List Value} {μ : zM} {I J I2 J2 : zFn} {v : Option Value} {c s : Nat} (e : I = J) (e2 : I2 = J2) (h : zden zcds d m a (zwi μ I) = some (0, v, c, s, zwi μ I2)) : zden zcds d m a (zwi μ J) = some (0, v, c, s, zwi μ J2) := by rw [← e, ← e2]; exact h
theorem rfo_stay (X : zFn) {i : Nat} (h : ¬ (rfo X i).1 = 0) : ∀ m, rfo X (i + m) = rfo X i
  | 0 => rfl
  | m + 1 => by
    have e := rfo_stay X h m
    show rfo X (i + m + 1) = rfo X i
    rw [rfo, e, if_neg h]

theorem l_rrd {d c sl : Nat} {x u : Nat} {X J : zFn} {μ : zM} (hX : zMX μ x) (hU : zUU μ x u) {b : Nat} (hb : X 0 3 = nI b) (hb4 : b ≤ 400) (hV : ∀ j, j < b → zTK X j) (hOK : ∀ k, k < b → (rfo X k).1 = 0 → zOK X k (rfo X k).2.2) : ∀ (m i : Nat), i + m = b → (rfo X i).1 = 0 → zden1 (d + 7) (zden zcds (d + 7)) zc155 (44, [(1, .int (nI i)), (0, .ref (x + 0))], [], c, sl, zwi μ (zfl (zfl J x 6 X) u 17 (rfo X i).2.2)) = some (0, some (.int (rfo X b).1), c, sl, zwi μ (zfl (zfl J x 6 (if (rfo X b).1 = 0 then X else zup X 0 2 (rfo X b).2.1)) u 17 (rfo X b).2.2))
  | 0, i, hi, hr => by
    have ei : i = b := by omega
    subst ei
    refine (ys4 45 (v := .int (nI i)) rfl rfl rfl rfl).trans ?_
    refine (ys4 46 (v := .ref (x + 0)) rfl rfl rfl rfl).trans ?_
    refine (yg 49 rfl (zFS.tag hX.1 (j := 0) (by decide) rfl) (zFS.ni hX.1 (j := 0) (by decide) rfl) (by decide) rfl (Eq.trans (zfl_at2 (j := 0) hU.2.2.1 (by decide)) (show (X 0 3) = (nI i) from hb))).trans ?_
    refine ys18_3 52 rfl rfl (fun h49 => ?_) (fun h49 => absurd (nI_le (by omega) (by omega)) h49)
    refine (ys1 84 (x := 0) rfl rfl rfl).trans ?_
    refine (ys36 rfl rfl).trans ?_
    rw [hr, if_pos rfl]
  | m + 1, i, hi, hr => by
    refine (ys4 45 (v := .int (nI i)) rfl rfl rfl rfl).trans ?_
    refine (ys4 46 (v := .ref (x + 0)) rfl rfl rfl rfl).trans ?_
    refine (yg 49 rfl (zFS.tag hX.1 (j := 0) (by decide) rfl) (zFS.ni hX.1 (j := 0) (by decide) rfl) (by decide) rfl (Eq.trans (zfl_at2 (j := 0) hU.2.2.1 (by decide)) (show (X 0 3) = (nI b) from hb))).trans ?_
    refine ys18_3 52 rfl rfl (fun h49 => absurd h49 (nI_ge (by omega) (by omega))) (fun h49 => ?_)
    refine (ys4 53 (v := .ref (x + 0)) rfl rfl rfl rfl).trans ?_
    refine (ys4 54 (v := .int (nI i)) rfl rfl rfl rfl).trans ?_
    refine (yc2 57 rfl rfl (Nat.le_of_ble_eq_true rfl) (Or.inr (by show ztg (zwi _ _) _ = _; rw [ztg_wi]; exact (zFS.tag hX.1 (j := 0) (by decide) rfl))) rfl rfl (c_err hX hU (by omega) (fun j hj => hV j (by omega)) (hOK i (by omega) hr))).trans ?_
    generalize hT1 : (zstp X i (rfo X i).2.2).2 = T1
    refine (ys5 58 (L2 := [(2, .int ((zstp X i (rfo X i).2.2).1)), (1, .int (nI i)), (0, .ref (x + 0))]) rfl rfl rfl rfl).trans ?_
    refine (ys4 59 (v := .int ((zstp X i (rfo X i).2.2).1)) rfl rfl rfl rfl).trans ?_
    refine ys17_1 62 rfl rfl (fun h59 => ?_) (fun h59 => ?_)
    · refine (ys19 rfl).trans ?_
      refine (ys6 80 (y := nI (i + 1)) (L2 := [(1, .int (nI (i + 1))), (2, .int ((zstp X i (rfo X i).2.2).1)), (0, .ref (x + 0))]) rfl rfl (nI_1 _) rfl rfl).trans ?_
      refine (ys19 rfl).trans ?_
      have e1 : rfo X (i + 1) = (0, -1, (zstp X i (rfo X i).2.2).2) := by rw [rfo, if_pos hr, if_pos h59]
      subst hT1
      have h := l_rrd (d := d) (c := c) (sl := sl) (J := J) hX hU hb hb4 hV hOK m (i + 1) (by omega) (by rw [e1])
      rw [e1] at h
      refine zden1_fg (L := [(1, .int (nI (i + 1))), (0, .ref (x + 0))]) (zfg_cons rfl (zfg_cons rfl zfg_nil)) ?_
      exact h
    · refine (ys4 66 (v := .ref (x + 0)) rfl rfl rfl rfl).trans ?_
      refine (ys4 67 (v := .ref (x + 0)) rfl rfl rfl rfl).trans ?_
      refine (ygr 70 rfl (zFS.tag hX.1 (j := 0) (by decide) rfl) rfl (hX.2 2 (by decide))).trans ?_
      refine (ys4 71 (v := .int (nI i)) rfl rfl rfl rfl).trans ?_
      refine (ylx 72 (N := 401) rfl (j := i) rfl (Or.inl (zFS.tag hX.1 (j := 3) (by decide) rfl)) (zFS.ni hX.1 (j := 3) (by decide) rfl) (by omega) (by decide) rfl (zfl_at2 (j := 3) hU.2.2.1 (by decide))).trans ?_
      refine (yq 75 rfl (zFS.tag hX.1 (j := 0) (by decide) rfl) (zFS.k0 hX.1 (j := 0)) (zFS.ni hX.1 (j := 0) (by decide) rfl) (by decide) rfl (zfl_up3 hU (j := 0) (by decide))).trans ?_
      generalize hX2 : zup X 0 2 ((X 3 i)) = X2
      refine (ys4 76 (v := .int ((zstp X i (rfo X i).2.2).1)) rfl rfl rfl rfl).trans ?_
      refine (ys36 rfl rfl).trans ?_
      have e1 : rfo X (i + 1) = ((zstp X i (rfo X i).2.2).1, X 3 i, (zstp X i (rfo X i).2.2).2) := by rw [rfo, if_pos hr, if_neg h59]
      have e2 : rfo X b = ((zstp X i (rfo X i).2.2).1, X 3 i, (zstp X i (rfo X i).2.2).2) := by
        have e3 := rfo_stay X (i := i + 1) (by rw [e1]; exact h59) m
        rw [show i + 1 + m = b from by omega] at e3
        exact e3.trans e1
      rw [e2]
      dsimp only
      rw [if_neg h59]
      subst hX2 hT1
      rfl

theorem c_rd0 {d c sl : Nat} {x u : Nat} {X J : zFn} {μ : zM} (hX : zMX μ x) (hU : zUU μ x u) {n : Nat} (hl : X 0 1 = nI n) (hn : n ≤ 2000) (hS : zMS μ J) (hu : 82 ≤ u) {X3 : zFn} (e3 : zup (rct n 401 0 0 X) 0 3 0 = X3) (hTF : zTF X3 401) (h1 : (rtx 401 X3).1 = 0) {t : Nat} (ht : (rtx 401 X3).2 0 3 = nI t) (ht4 : t ≤ 400) : zden1 (d + 9) (zden zcds (d + 9)) zc155 (11, [(0, .ref (x + 0))], [], c, sl, zwi μ (zfl (zfl J x 6 X) u 17 (fun _ _ => 0))) = some (0, some (.int 1), c, sl, zwi μ (zfl (zfl J x 6 (zup (rtx 401 X3).2 0 2 ((rtx 401 X3).2 3 t))) u 17 (fun _ _ => 0))) := by
  refine (ys4 12 (v := .ref (x + 0)) rfl rfl rfl rfl).trans ?_
  refine (yc1 15 rfl rfl (Nat.le_of_ble_eq_true rfl) (Or.inr (by show ztg (zwi _ _) _ = _; rw [ztg_wi]; exact (zFS.tag hX.1 (j := 0) (by decide) rfl))) rfl rfl (zlt2 (zUs hU) (zUs hU) (c_rct (d := d) hX hl hn (zMS_cg hS (fun _ _ => rfl) (fun a k ha => by rw [zfl_out (by omega)]))))).trans ?_
  generalize hX1 : rct n 401 0 0 X = X1
  refine (ys4 16 (v := .ref (x + 0)) rfl rfl rfl rfl).trans ?_
  refine (ys1 17 (x := 0) rfl rfl rfl).trans ?_
  refine (yq 20 rfl (zFS.tag hX.1 (j := 0) (by decide) rfl) (zFS.k0 hX.1 (j := 0)) (zFS.ni hX.1 (j := 0) (by decide) rfl) (by decide) rfl (zfl_up3 hU (j := 0) (by decide))).trans ?_
  generalize hX2 : zup X1 0 3 (0) = X2
  refine (ys4 21 (v := .ref (x + 0)) rfl rfl rfl rfl).trans ?_
  refine (yc1 24 rfl rfl (Nat.le_of_ble_eq_true rfl) (Or.inr (by show ztg (zwi _ _) _ = _; rw [ztg_wi]; exact (zFS.tag hX.1 (j := 0) (by decide) rfl))) rfl rfl (zlt2 (zUs hU) (zUs hU) (c_rtx (d := d + 3) hX (m := 401) (by rw [← hX2, ← hX1, e3]; exact hTF)))).trans ?_
  generalize hr3 : rtx 401 X2 = r3
  rw [show r3.1 = 0 from (by rw [← hr3, ← hX2, ← hX1, e3]; exact h1)]
  refine ys17_1 27 rfl rfl (fun h24 => ?_) (fun h24 => absurd (by decide) h24)
  refine (ys4 28 (v := .ref (x + 0)) rfl rfl rfl rfl).trans ?_
  refine (ys4 29 (v := .ref (x + 0)) rfl rfl rfl rfl).trans ?_
  refine (ygr 32 rfl (zFS.tag hX.1 (j := 0) (by decide) rfl) rfl (hX.2 2 (by decide))).trans ?_
  refine (ys4 33 (v := .ref (x + 0)) rfl rfl rfl rfl).trans ?_
  refine (yg 36 rfl (zFS.tag hX.1 (j := 0) (by decide) rfl) (zFS.ni hX.1 (j := 0) (by decide) rfl) (by decide) rfl (Eq.trans (zfl_at2 (j := 0) hU.2.2.1 (by decide)) (show (r3.2 0 3) = (nI t) from (by rw [← hr3, ← hX2, ← hX1, e3]; exact ht)))).trans ?_
  refine (ylx 37 (N := 401) rfl (j := t) rfl (Or.inl (zFS.tag hX.1 (j := 3) (by decide) rfl)) (zFS.ni hX.1 (j := 3) (by decide) rfl) (by omega) (by decide) rfl (zfl_at2 (j := 3) hU.2.2.1 (by decide))).trans ?_
  refine (yq 40 rfl (zFS.tag hX.1 (j := 0) (by decide) rfl) (zFS.k0 hX.1 (j := 0)) (zFS.ni hX.1 (j := 0) (by decide) rfl) (by decide) rfl (zfl_up3 hU (j := 0) (by decide))).trans ?_
  generalize hX4 : zup r3.2 0 2 ((r3.2 3 t)) = X4
  refine (ys1 41 (x := 1) rfl rfl rfl).trans ?_
  refine (ys36 rfl rfl).trans ?_
  subst hX4 hr3 hX2 hX1
  rw [e3]
  rfl

theorem c_rd1 {d c sl : Nat} {x u : Nat} {X J : zFn} {μ : zM} (hX : zMX μ x) (hU : zUU μ x u) {n : Nat} (hl : X 0 1 = nI n) (hn : n ≤ 2000) (hS : zMS μ J) (hu : 82 ≤ u) {X3 : zFn} (e3 : zup (rct n 401 0 0 X) 0 3 0 = X3) (hTF : zTF X3 401) (h1 : (rtx 401 X3).1 = 1) {b : Nat} (hb : (rtx 401 X3).2 0 3 = nI b) (hb4 : b ≤ 400) (hV : ∀ j, j < b → zTK (rtx 401 X3).2 j) (hOK : ∀ k, k < b → (rfo (rtx 401 X3).2 k).1 = 0 → zOK (rtx 401 X3).2 k (rfo (rtx 401 X3).2 k).2.2) : zden1 (d + 9) (zden zcds (d + 9)) zc155 (11, [(0, .ref (x + 0))], [], c, sl, zwi μ (zfl (zfl J x 6 X) u 17 (fun _ _ => 0))) = some (0, some (.int (rfo (rtx 401 X3).2 b).1), c, sl, zwi μ (zfl (zfl J x 6 (if (rfo (rtx 401 X3).2 b).1 = 0 then (rtx 401 X3).2 else zup (rtx 401 X3).2 0 2 (rfo (rtx 401 X3).2 b).2.1)) u 17 (rfo (rtx 401 X3).2 b).2.2)) := by
  refine (ys4 12 (v := .ref (x + 0)) rfl rfl rfl rfl).trans ?_
  refine (yc1 15 rfl rfl (Nat.le_of_ble_eq_true rfl) (Or.inr (by show ztg (zwi _ _) _ = _; rw [ztg_wi]; exact (zFS.tag hX.1 (j := 0) (by decide) rfl))) rfl rfl (zlt2 (zUs hU) (zUs hU) (c_rct (d := d) hX hl hn (zMS_cg hS (fun _ _ => rfl) (fun a k ha => by rw [zfl_out (by omega)]))))).trans ?_
  generalize hX1 : rct n 401 0 0 X = X1
  refine (ys4 16 (v := .ref (x + 0)) rfl rfl rfl rfl).trans ?_
  refine (ys1 17 (x := 0) rfl rfl rfl).trans ?_
  refine (yq 20 rfl (zFS.tag hX.1 (j := 0) (by decide) rfl) (zFS.k0 hX.1 (j := 0)) (zFS.ni hX.1 (j := 0) (by decide) rfl) (by decide) rfl (zfl_up3 hU (j := 0) (by decide))).trans ?_
  generalize hX2 : zup X1 0 3 (0) = X2
  refine (ys4 21 (v := .ref (x + 0)) rfl rfl rfl rfl).trans ?_
  refine (yc1 24 rfl rfl (Nat.le_of_ble_eq_true rfl) (Or.inr (by show ztg (zwi _ _) _ = _; rw [ztg_wi]; exact (zFS.tag hX.1 (j := 0) (by decide) rfl))) rfl rfl (zlt2 (zUs hU) (zUs hU) (c_rtx (d := d + 3) hX (m := 401) (by rw [← hX2, ← hX1, e3]; exact hTF)))).trans ?_
  generalize hr3 : rtx 401 X2 = r3
  rw [show r3.1 = 1 from (by rw [← hr3, ← hX2, ← hX1, e3]; exact h1)]
  refine ys17_1 27 rfl rfl (fun h24 => absurd h24 (by decide)) (fun h24 => ?_)
  refine (ys1 43 (x := nI 0) rfl rfl rfl).trans ?_
  refine (ys5 44 (L2 := [(1, .int (nI 0)), (0, .ref (x + 0))]) rfl rfl rfl rfl).trans ?_
  have eY : r3 = (rtx 401 X3) := by rw [← hr3, ← hX2, ← hX1, e3]
  rw [eY]
  refine zden1_fg (L := [(1, .int (nI 0)), (0, .ref (x + 0))]) (zfg_cons rfl (zfg_cons rfl zfg_nil)) ?_
  exact l_rrd (d := d + 2) hX hU hb hb4 hV hOK b 0 (by omega) rfl

