/-! STAGES, LETTERS, A WHOLE TEXT -/
def vrsL (Q : zFn) (K : zKn) (k : Nat) (y : Int32) : Nat → Nat → zFn → zV → Int32 × zFn × zV
  | 0, i, P, V =>
    (1, P, V)
  | m + 1, i, P, V =>
    if vko Q K (P 0 0) = 19 then
      let P1 := vat P
      if vko Q K (P1 0 0) = 2 then
        let P2 := von2 P1 Q (vc V 1)
        if (V 2 (zsf (P2 0 3) 20) 1) = y then
          if (vlshW V k (P2 0 3)) = 0 then
            let V3 := vaca V k (P2 0 3)
            vrsL Q K k y m (i + 1) P2 V3
          else
            let P4 := vte P2 Q 7
            let V5 := vaca V k (P4 0 3)
            vrsL Q K k y m (i + 1) P4 V5
        else
          let P6 := vte P2 Q 6
          if (vlshW V k (P6 0 3)) = 0 then
            let V7 := vaca V k (P6 0 3)
            vrsL Q K k y m (i + 1) P6 V7
          else
            let P8 := vte P6 Q 7
            let V9 := vaca V k (P8 0 3)
            vrsL Q K k y m (i + 1) P8 V9
      else
        (0, P1, V)
    else
      (1, P, V)

theorem l_rst {d c sl : Nat} {r w : Nat} {Q J : zFn} {K : zKn} {μ : zM} (hC : zRC μ r w J Q K) {k : Nat} (hk : k < 12) {y : Int32} : ∀ (m i : Nat) (P : zFn) (V : zV), zVG V → i + m = 400 → zden1 (d + 7) (zden zcds (d + 7)) zc38 (58, [(4, .int (nI i)), (3, .int (y)), (0, .ref (r + 0)), (1, .ref (w)), (2, .ref (w + (49 + 3 * k)))], [], c, sl, zwi μ (zpc (zrl J r P) w V)) = some (0, some (.int ((vrsL Q K k y m i P V).1)), c, sl, zwi μ (zpc (zrl J r ((vrsL Q K k y m i P V).2.1)) w ((vrsL Q K k y m i P V).2.2)))
  | 0, i, P, V, hG, e => by
    refine (ys4 60 (v := .int (nI i)) rfl rfl rfl rfl).trans ?_
    refine (ys1 63 (x := nI 400) rfl rfl rfl).trans ?_
    refine ys18_3 66 rfl rfl (fun h63 => ?_) (fun h63 => absurd (nI_le (by omega) (by omega)) h63)
    refine (ys1 146 (x := 1) rfl rfl rfl).trans ?_
    refine (ys36 rfl (by decide)).trans ?_
    rw [show vrsL Q K k y 0 i P V = (1, P, V) from by rw [vrsL]; (try dsimp only); first | done | rfl]; (first | done | rfl)
  | m + 1, i, P, V, hG, e => by
    refine (ys4 60 (v := .int (nI i)) rfl rfl rfl rfl).trans ?_
    refine (ys1 63 (x := nI 400) rfl rfl rfl).trans ?_
    refine ys18_3 66 rfl rfl (fun h63 => absurd h63 (nI_ge (by omega) (by omega))) (fun h63 => ?_)
    refine (ys4 67 (v := .ref (r + 0)) rfl rfl rfl rfl).trans ?_
    refine (ys25 70 rfl (v := .ref (19)) rfl rfl).trans ?_
    by_cases h70 : vko Q K (P 0 0) = 19
    · refine (yc2 73 rfl rfl (Nat.le_of_ble_eq_true rfl) (Or.inr (by show ztg (zwi _ _) _ = _; rw [ztg_wi]; exact (zFS.tag hC.1.1 (j := 0) (by decide) rfl))) rfl rfl (c_ac1 hC (by decide) h70)).trans ?_
      generalize hP1 : vat P = P1
      refine ys17_0 76 rfl rfl (fun h73 => absurd h73 (by decide)) (fun h73 => ?_)
      refine (ys4 77 (v := .ref (r + 0)) rfl rfl rfl rfl).trans ?_
      refine (ys4 78 (v := .ref (r + 0)) rfl rfl rfl rfl).trans ?_
      refine (ygr 81 rfl (zFS.tag hC.1.1 (j := 0) (by decide) rfl) rfl hC.1.2.2.2.1).trans ?_
      refine (ys4 82 (v := .ref (w)) rfl rfl rfl rfl).trans ?_
      refine (yg 85 rfl (zWS.tag hC.2.1 (o := 0) (by decide) rfl) (zWS.ni hC.2.1 (o := 0) (by decide) rfl) (by decide) rfl (Eq.trans (zpc_at (o := 0) (q := 0) (i := 0) rfl (by decide)) (show (V 0 0 1) = (nI (vc V 1)) from hG.1.2.1.1))).trans ?_
      by_cases h85 : vko Q K (P1 0 0) = 2
      · refine (yc3 88 rfl rfl (Nat.le_of_ble_eq_true rfl) (Or.inr (by show ztg (zwi _ _) _ = _; rw [ztg_wi]; exact (zFS.tag hC.1.1 (j := 0) (by decide) rfl))) rfl rfl (c_on12 hC hG.1.2.1.2 h85)).trans ?_
        generalize hP2 : von2 P1 Q (vc V 1) = P2
        refine ys17_1 91 rfl rfl (fun h88 => absurd h88 (by decide)) (fun h88 => ?_)
        refine (ys4 94 (v := .ref (w)) rfl rfl rfl rfl).trans ?_
        refine (ys4 95 (v := .ref (r + 0)) rfl rfl rfl rfl).trans ?_
        refine (yg 98 rfl (zFS.tag hC.1.1 (j := 0) (by decide) rfl) (zFS.ni hC.1.1 (j := 0) (by decide) rfl) (by decide) rfl (zrw_at (o := 0) (j := 0) (by decide) hC.2.2.1)).trans ?_
        refine (yc2 101 rfl rfl (Nat.le_of_ble_eq_true rfl) (Or.inr (by show ztg (zwi _ _) _ = _; rw [ztg_wi]; exact (zWS.tag hC.2.1 (o := 0) (by decide) rfl))) rfl rfl (c_at2 hC.2.1)).trans ?_
        refine (yg 104 rfl (zWS.tag hC.2.1 (o := 23 + (zsf (P2 0 3) 20)) (zwT_2 _ (zsf_lt (by decide) (by decide))).2.2 (zwT_2 _ (zsf_lt (by decide) (by decide))).1) (zWS.ni hC.2.1 (o := 23 + (zsf (P2 0 3) 20)) (zwT_2 _ (zsf_lt (by decide) (by decide))).2.2 (zwT_2 _ (zsf_lt (by decide) (by decide))).2.1) (by decide) rfl (zpc_at (o := 23 + (zsf (P2 0 3) 20)) (zpk_2 _ (zsf_lt (by decide) (by decide))) (zwT_2 _ (zsf_lt (by decide) (by decide))).2.2)).trans ?_
        refine (ys4 105 (v := .int (y)) rfl rfl rfl rfl).trans ?_
        refine ys18_0 108 rfl rfl (fun h105 => ?_) (fun h105 => ?_)
        · refine (ys4 115 (v := .ref (w + (49 + 3 * k))) rfl rfl rfl rfl).trans ?_
          refine (ys4 116 (v := .ref (r + 0)) rfl rfl rfl rfl).trans ?_
          refine (yg 119 rfl (zFS.tag hC.1.1 (j := 0) (by decide) rfl) (zFS.ni hC.1.1 (j := 0) (by decide) rfl) (by decide) rfl (zrw_at (o := 0) (j := 0) (by decide) hC.2.2.1)).trans ?_
          refine (yc2 122 rfl rfl (Nat.le_of_ble_eq_true rfl) (Or.inr (by show ztg (zwi _ _) _ = _; rw [ztg_wi]; exact (zWS.tag hC.2.1 (o := 49 + 3 * k) (zwT_4 _ hk).2.2.2.2 (zwT_4 _ hk).1))) rfl rfl (c_lshW hC.2.1 hk hG)).trans ?_
          refine ys17_0 125 rfl rfl (fun h122 => ?_) (fun h122 => ?_)
          · refine (ys4 132 (v := .ref (w + (49 + 3 * k))) rfl rfl rfl rfl).trans ?_
            refine (ys4 133 (v := .ref (r + 0)) rfl rfl rfl rfl).trans ?_
            refine (yg 136 rfl (zFS.tag hC.1.1 (j := 0) (by decide) rfl) (zFS.ni hC.1.1 (j := 0) (by decide) rfl) (by decide) rfl (zrw_at (o := 0) (j := 0) (by decide) hC.2.2.1)).trans ?_
            refine (yc2 139 rfl rfl (Nat.le_of_ble_eq_true rfl) (Or.inr (by show ztg (zwi _ _) _ = _; rw [ztg_wi]; exact (zWS.tag hC.2.1 (o := 49 + 3 * k) (zwT_4 _ hk).2.2.2.2 (zwT_4 _ hk).1))) rfl rfl (c_aca hC.2.1 hk)).trans ?_
            generalize hV3 : vaca V k (P2 0 3) = V3
            have hGV3 : zVG V3 := by rw [← hV3]; exact vaca_G hG hk _
            refine (ys6 142 (y := nI (i + 1)) (L2 := [(4, .int (nI (i + 1))), (3, .int (y)), (0, .ref (r + 0)), (1, .ref (w)), (2, .ref (w + (49 + 3 * k)))]) rfl rfl (nI_1 _) rfl rfl).trans ?_
            refine (ys19 rfl).trans ?_
            rw [show vrsL Q K k y (m + 1) i P V = vrsL Q K k y m (i + 1) P2 V3 from by subst hV3 hP2 hP1; rw [vrsL]; (try dsimp only); rw [if_pos h70, if_pos h85, if_pos h105, if_pos h122]]; exact l_rst hC hk m (i + 1)  P2 V3 hGV3 (by omega)
          · refine (ys4 126 (v := .ref (r + 0)) rfl rfl rfl rfl).trans ?_
            refine (ys1 128 (x := 7) rfl rfl rfl).trans ?_
            refine (yc2 131 rfl rfl (Nat.le_of_ble_eq_true rfl) (Or.inr (by show ztg (zwi _ _) _ = _; rw [ztg_wi]; exact (zFS.tag hC.1.1 (j := 0) (by decide) rfl))) rfl rfl (c_tell hC)).trans ?_
            generalize hP4 : vte P2 Q 7 = P4
            refine (ys4 132 (v := .ref (w + (49 + 3 * k))) rfl rfl rfl rfl).trans ?_
            refine (ys4 133 (v := .ref (r + 0)) rfl rfl rfl rfl).trans ?_
            refine (yg 136 rfl (zFS.tag hC.1.1 (j := 0) (by decide) rfl) (zFS.ni hC.1.1 (j := 0) (by decide) rfl) (by decide) rfl (zrw_at (o := 0) (j := 0) (by decide) hC.2.2.1)).trans ?_
            refine (yc2 139 rfl rfl (Nat.le_of_ble_eq_true rfl) (Or.inr (by show ztg (zwi _ _) _ = _; rw [ztg_wi]; exact (zWS.tag hC.2.1 (o := 49 + 3 * k) (zwT_4 _ hk).2.2.2.2 (zwT_4 _ hk).1))) rfl rfl (c_aca hC.2.1 hk)).trans ?_
            generalize hV5 : vaca V k (P4 0 3) = V5
            have hGV5 : zVG V5 := by rw [← hV5]; exact vaca_G hG hk _
            refine (ys6 142 (y := nI (i + 1)) (L2 := [(4, .int (nI (i + 1))), (3, .int (y)), (0, .ref (r + 0)), (1, .ref (w)), (2, .ref (w + (49 + 3 * k)))]) rfl rfl (nI_1 _) rfl rfl).trans ?_
            refine (ys19 rfl).trans ?_
            rw [show vrsL Q K k y (m + 1) i P V = vrsL Q K k y m (i + 1) P4 V5 from by subst hV5 hP4 hP2 hP1; rw [vrsL]; (try dsimp only); rw [if_pos h70, if_pos h85, if_pos h105, if_neg h122]]; exact l_rst hC hk m (i + 1)  P4 V5 hGV5 (by omega)
        · refine (ys4 109 (v := .ref (r + 0)) rfl rfl rfl rfl).trans ?_
          refine (ys1 111 (x := 6) rfl rfl rfl).trans ?_
          refine (yc2 114 rfl rfl (Nat.le_of_ble_eq_true rfl) (Or.inr (by show ztg (zwi _ _) _ = _; rw [ztg_wi]; exact (zFS.tag hC.1.1 (j := 0) (by decide) rfl))) rfl rfl (c_tell hC)).trans ?_
          generalize hP6 : vte P2 Q 6 = P6
          refine (ys4 115 (v := .ref (w + (49 + 3 * k))) rfl rfl rfl rfl).trans ?_
          refine (ys4 116 (v := .ref (r + 0)) rfl rfl rfl rfl).trans ?_
          refine (yg 119 rfl (zFS.tag hC.1.1 (j := 0) (by decide) rfl) (zFS.ni hC.1.1 (j := 0) (by decide) rfl) (by decide) rfl (zrw_at (o := 0) (j := 0) (by decide) hC.2.2.1)).trans ?_
          refine (yc2 122 rfl rfl (Nat.le_of_ble_eq_true rfl) (Or.inr (by show ztg (zwi _ _) _ = _; rw [ztg_wi]; exact (zWS.tag hC.2.1 (o := 49 + 3 * k) (zwT_4 _ hk).2.2.2.2 (zwT_4 _ hk).1))) rfl rfl (c_lshW hC.2.1 hk hG)).trans ?_
          refine ys17_0 125 rfl rfl (fun h122 => ?_) (fun h122 => ?_)
          · refine (ys4 132 (v := .ref (w + (49 + 3 * k))) rfl rfl rfl rfl).trans ?_
            refine (ys4 133 (v := .ref (r + 0)) rfl rfl rfl rfl).trans ?_
            refine (yg 136 rfl (zFS.tag hC.1.1 (j := 0) (by decide) rfl) (zFS.ni hC.1.1 (j := 0) (by decide) rfl) (by decide) rfl (zrw_at (o := 0) (j := 0) (by decide) hC.2.2.1)).trans ?_
            refine (yc2 139 rfl rfl (Nat.le_of_ble_eq_true rfl) (Or.inr (by show ztg (zwi _ _) _ = _; rw [ztg_wi]; exact (zWS.tag hC.2.1 (o := 49 + 3 * k) (zwT_4 _ hk).2.2.2.2 (zwT_4 _ hk).1))) rfl rfl (c_aca hC.2.1 hk)).trans ?_
            generalize hV7 : vaca V k (P6 0 3) = V7
            have hGV7 : zVG V7 := by rw [← hV7]; exact vaca_G hG hk _
            refine (ys6 142 (y := nI (i + 1)) (L2 := [(4, .int (nI (i + 1))), (3, .int (y)), (0, .ref (r + 0)), (1, .ref (w)), (2, .ref (w + (49 + 3 * k)))]) rfl rfl (nI_1 _) rfl rfl).trans ?_
            refine (ys19 rfl).trans ?_
            rw [show vrsL Q K k y (m + 1) i P V = vrsL Q K k y m (i + 1) P6 V7 from by subst hV7 hP6 hP2 hP1; rw [vrsL]; (try dsimp only); rw [if_pos h70, if_pos h85, if_neg h105, if_pos h122]]; exact l_rst hC hk m (i + 1)  P6 V7 hGV7 (by omega)
          · refine (ys4 126 (v := .ref (r + 0)) rfl rfl rfl rfl).trans ?_
            refine (ys1 128 (x := 7) rfl rfl rfl).trans ?_
            refine (yc2 131 rfl rfl (Nat.le_of_ble_eq_true rfl) (Or.inr (by show ztg (zwi _ _) _ = _; rw [ztg_wi]; exact (zFS.tag hC.1.1 (j := 0) (by decide) rfl))) rfl rfl (c_tell hC)).trans ?_
            generalize hP8 : vte P6 Q 7 = P8
            refine (ys4 132 (v := .ref (w + (49 + 3 * k))) rfl rfl rfl rfl).trans ?_
            refine (ys4 133 (v := .ref (r + 0)) rfl rfl rfl rfl).trans ?_
            refine (yg 136 rfl (zFS.tag hC.1.1 (j := 0) (by decide) rfl) (zFS.ni hC.1.1 (j := 0) (by decide) rfl) (by decide) rfl (zrw_at (o := 0) (j := 0) (by decide) hC.2.2.1)).trans ?_
            refine (yc2 139 rfl rfl (Nat.le_of_ble_eq_true rfl) (Or.inr (by show ztg (zwi _ _) _ = _; rw [ztg_wi]; exact (zWS.tag hC.2.1 (o := 49 + 3 * k) (zwT_4 _ hk).2.2.2.2 (zwT_4 _ hk).1))) rfl rfl (c_aca hC.2.1 hk)).trans ?_
            generalize hV9 : vaca V k (P8 0 3) = V9
            have hGV9 : zVG V9 := by rw [← hV9]; exact vaca_G hG hk _
            refine (ys6 142 (y := nI (i + 1)) (L2 := [(4, .int (nI (i + 1))), (3, .int (y)), (0, .ref (r + 0)), (1, .ref (w)), (2, .ref (w + (49 + 3 * k)))]) rfl rfl (nI_1 _) rfl rfl).trans ?_
            refine (ys19 rfl).trans ?_
            rw [show vrsL Q K k y (m + 1) i P V = vrsL Q K k y m (i + 1) P8 V9 from by subst hV9 hP8 hP6 hP2 hP1; rw [vrsL]; (try dsimp only); rw [if_pos h70, if_pos h85, if_neg h105, if_neg h122]]; exact l_rst hC hk m (i + 1)  P8 V9 hGV9 (by omega)
      · refine (yc3 88 rfl rfl (Nat.le_of_ble_eq_true rfl) (Or.inr (by show ztg (zwi _ _) _ = _; rw [ztg_wi]; exact (zFS.tag hC.1.1 (j := 0) (by decide) rfl))) rfl rfl (c_on02 hC hG.1.2.1.2 h85)).trans ?_
        refine ys17_1 91 rfl rfl (fun h88 => ?_) (fun h88 => absurd (by decide) h88)
        refine (ys1 92 (x := 0) rfl rfl rfl).trans ?_
        refine (ys36 rfl (by decide)).trans ?_
        rw [show vrsL Q K k y (m + 1) i P V = (0, P1, V) from by subst hP1; rw [vrsL]; (try dsimp only); rw [if_pos h70, if_neg h85]]; (first | done | rfl)
    · refine (yc2 73 rfl rfl (Nat.le_of_ble_eq_true rfl) (Or.inr (by show ztg (zwi _ _) _ = _; rw [ztg_wi]; exact (zFS.tag hC.1.1 (j := 0) (by decide) rfl))) rfl rfl (c_ac0 hC (by decide) h70)).trans ?_
      refine ys17_0 76 rfl rfl (fun h73 => ?_) (fun h73 => absurd (by decide) h73)
      refine (ys1 146 (x := 1) rfl rfl rfl).trans ?_
      refine (ys36 rfl (by decide)).trans ?_
      rw [show vrsL Q K k y (m + 1) i P V = (1, P, V) from by rw [vrsL]; (try dsimp only); rw [if_neg h70]]; (first | done | rfl)

def vrst (P : zFn) (V : zV) (Q : zFn) (K : zKn) (k : Nat) : Int32 × zFn × zV :=
  if vko Q K (P 0 0) = 2 then
    let P1 := von2 P Q (vc V 1)
    if (V 4 k 0) < 6 then
      let V2 := vast V k
      let V3 := vaca V2 k (P1 0 3)
      vrsL Q K k (V3 2 (zsf (P1 0 3) 20) 1) 399 1 P1 V3
    else
      let P4 := vte P1 Q 4
      let V5 := vast V k
      let V6 := vaca V5 k (P4 0 3)
      vrsL Q K k (V6 2 (zsf (P4 0 3) 20) 1) 399 1 P4 V6
  else
    (0, P, V)

theorem c_rst {d : Nat} {r w : Nat} {P Q J : zFn} {V : zV} {K : zKn} {μ : zM} (hC : zRC μ r w J Q K) {k : Nat} (hk : k < 12) (hG : zVG V) : zden zcds (d + 8) 38 [.ref (r + 0), .ref (w), .ref (w + (49 + 3 * k))] (zwi μ (zpc (zrl J r P) w V)) = some (0, some (.int ((vrst P V Q K k).1)), 0, 0, zwi μ (zpc (zrl J r ((vrst P V Q K k).2.1)) w ((vrst P V Q K k).2.2))) := by
  refine (zd_in (d := d + 7) (cd := zc38) (nL := 5) (L := [(0, .ref (r + 0)), (1, .ref (w)), (2, .ref (w + (49 + 3 * k)))]) rfl (Nat.le_of_ble_eq_true rfl) rfl).trans ?_
  refine (ys4 1 (v := .ref (r + 0)) rfl rfl rfl rfl).trans ?_
  refine (ys4 2 (v := .ref (r + 0)) rfl rfl rfl rfl).trans ?_
  refine (ygr 5 rfl (zFS.tag hC.1.1 (j := 0) (by decide) rfl) rfl hC.1.2.2.2.1).trans ?_
  refine (ys4 6 (v := .ref (w)) rfl rfl rfl rfl).trans ?_
  refine (yg 9 rfl (zWS.tag hC.2.1 (o := 0) (by decide) rfl) (zWS.ni hC.2.1 (o := 0) (by decide) rfl) (by decide) rfl (Eq.trans (zpc_at (o := 0) (q := 0) (i := 0) rfl (by decide)) (show (V 0 0 1) = (nI (vc V 1)) from hG.1.2.1.1))).trans ?_
  by_cases h9 : vko Q K (P 0 0) = 2
  · refine (yc3 12 rfl rfl (Nat.le_of_ble_eq_true rfl) (Or.inr (by show ztg (zwi _ _) _ = _; rw [ztg_wi]; exact (zFS.tag hC.1.1 (j := 0) (by decide) rfl))) rfl rfl (c_on12 hC hG.1.2.1.2 h9)).trans ?_
    generalize hP1 : von2 P Q (vc V 1) = P1
    refine ys17_1 15 rfl rfl (fun h12 => absurd h12 (by decide)) (fun h12 => ?_)
    refine (ys4 18 (v := .ref (w + (49 + 3 * k))) rfl rfl rfl rfl).trans ?_
    refine (yg 21 rfl (zWS.tag hC.2.1 (o := 49 + 3 * k) (zwT_4 _ hk).2.2.2.2 (zwT_4 _ hk).1) (zWS.ni hC.2.1 (o := 49 + 3 * k) (zwT_4 _ hk).2.2.2.2 (zwT_4 _ hk).2.1) (by decide) rfl (zpc_at (o := 49 + 3 * k) (zpk_4 _ hk) (zwT_4 _ hk).2.2.2.2)).trans ?_
    refine (ys1 23 (x := 6) rfl rfl rfl).trans ?_
    refine ys18_2 26 rfl rfl (fun h23 => ?_) (fun h23 => ?_)
    · refine (ys4 32 (v := .ref (w + (49 + 3 * k))) rfl rfl rfl rfl).trans ?_
      refine (yc1 35 rfl rfl (Nat.le_of_ble_eq_true rfl) (Or.inr (by show ztg (zwi _ _) _ = _; rw [ztg_wi]; exact (zWS.tag hC.2.1 (o := 49 + 3 * k) (zwT_4 _ hk).2.2.2.2 (zwT_4 _ hk).1))) rfl rfl (c_ast hC.2.1 hk)).trans ?_
      generalize hV2 : vast V k = V2
      have hGV2 : zVG V2 := by rw [← hV2]; exact vast_G hG _
      refine (ys4 36 (v := .ref (w + (49 + 3 * k))) rfl rfl rfl rfl).trans ?_
      refine (ys4 37 (v := .ref (r + 0)) rfl rfl rfl rfl).trans ?_
      refine (yg 40 rfl (zFS.tag hC.1.1 (j := 0) (by decide) rfl) (zFS.ni hC.1.1 (j := 0) (by decide) rfl) (by decide) rfl (zrw_at (o := 0) (j := 0) (by decide) hC.2.2.1)).trans ?_
      refine (yc2 43 rfl rfl (Nat.le_of_ble_eq_true rfl) (Or.inr (by show ztg (zwi _ _) _ = _; rw [ztg_wi]; exact (zWS.tag hC.2.1 (o := 49 + 3 * k) (zwT_4 _ hk).2.2.2.2 (zwT_4 _ hk).1))) rfl rfl (c_aca hC.2.1 hk)).trans ?_
      generalize hV3 : vaca V2 k (P1 0 3) = V3
      have hGV3 : zVG V3 := by rw [← hV3]; exact vaca_G hGV2 hk _
      refine (ys4 44 (v := .ref (w)) rfl rfl rfl rfl).trans ?_
      refine (ys4 45 (v := .ref (r + 0)) rfl rfl rfl rfl).trans ?_
      refine (yg 48 rfl (zFS.tag hC.1.1 (j := 0) (by decide) rfl) (zFS.ni hC.1.1 (j := 0) (by decide) rfl) (by decide) rfl (zrw_at (o := 0) (j := 0) (by decide) hC.2.2.1)).trans ?_
      refine (yc2 51 rfl rfl (Nat.le_of_ble_eq_true rfl) (Or.inr (by show ztg (zwi _ _) _ = _; rw [ztg_wi]; exact (zWS.tag hC.2.1 (o := 0) (by decide) rfl))) rfl rfl (c_at2 hC.2.1)).trans ?_
      refine (yg 54 rfl (zWS.tag hC.2.1 (o := 23 + (zsf (P1 0 3) 20)) (zwT_2 _ (zsf_lt (by decide) (by decide))).2.2 (zwT_2 _ (zsf_lt (by decide) (by decide))).1) (zWS.ni hC.2.1 (o := 23 + (zsf (P1 0 3) 20)) (zwT_2 _ (zsf_lt (by decide) (by decide))).2.2 (zwT_2 _ (zsf_lt (by decide) (by decide))).2.1) (by decide) rfl (zpc_at (o := 23 + (zsf (P1 0 3) 20)) (zpk_2 _ (zsf_lt (by decide) (by decide))) (zwT_2 _ (zsf_lt (by decide) (by decide))).2.2)).trans ?_
      refine (ys5 55 (L2 := [(3, .int ((V3 2 (zsf (P1 0 3) 20) 1))), (0, .ref (r + 0)), (1, .ref (w)), (2, .ref (w + (49 + 3 * k)))]) rfl rfl rfl rfl).trans ?_
      refine (ys1 56 (x := nI 1) rfl rfl rfl).trans ?_
      refine (ys5 58 (L2 := [(4, .int (nI 1)), (3, .int ((V3 2 (zsf (P1 0 3) 20) 1))), (0, .ref (r + 0)), (1, .ref (w)), (2, .ref (w + (49 + 3 * k)))]) rfl rfl rfl rfl).trans ?_
      rw [show vrst P V Q K k = vrsL Q K k (V3 2 (zsf (P1 0 3) 20) 1) 399 1 P1 V3 from by subst hV3 hV2 hP1; unfold vrst; (try dsimp only); rw [if_pos h9, if_pos h23]]; exact l_rst hC hk 399 1 _ _ hGV3 (by omega)
    · refine (ys4 27 (v := .ref (r + 0)) rfl rfl rfl rfl).trans ?_
      refine (ys1 28 (x := 4) rfl rfl rfl).trans ?_
      refine (yc2 31 rfl rfl (Nat.le_of_ble_eq_true rfl) (Or.inr (by show ztg (zwi _ _) _ = _; rw [ztg_wi]; exact (zFS.tag hC.1.1 (j := 0) (by decide) rfl))) rfl rfl (c_tell hC)).trans ?_
      generalize hP4 : vte P1 Q 4 = P4
      refine (ys4 32 (v := .ref (w + (49 + 3 * k))) rfl rfl rfl rfl).trans ?_
      refine (yc1 35 rfl rfl (Nat.le_of_ble_eq_true rfl) (Or.inr (by show ztg (zwi _ _) _ = _; rw [ztg_wi]; exact (zWS.tag hC.2.1 (o := 49 + 3 * k) (zwT_4 _ hk).2.2.2.2 (zwT_4 _ hk).1))) rfl rfl (c_ast hC.2.1 hk)).trans ?_
      generalize hV5 : vast V k = V5
      have hGV5 : zVG V5 := by rw [← hV5]; exact vast_G hG _
      refine (ys4 36 (v := .ref (w + (49 + 3 * k))) rfl rfl rfl rfl).trans ?_
      refine (ys4 37 (v := .ref (r + 0)) rfl rfl rfl rfl).trans ?_
      refine (yg 40 rfl (zFS.tag hC.1.1 (j := 0) (by decide) rfl) (zFS.ni hC.1.1 (j := 0) (by decide) rfl) (by decide) rfl (zrw_at (o := 0) (j := 0) (by decide) hC.2.2.1)).trans ?_
      refine (yc2 43 rfl rfl (Nat.le_of_ble_eq_true rfl) (Or.inr (by show ztg (zwi _ _) _ = _; rw [ztg_wi]; exact (zWS.tag hC.2.1 (o := 49 + 3 * k) (zwT_4 _ hk).2.2.2.2 (zwT_4 _ hk).1))) rfl rfl (c_aca hC.2.1 hk)).trans ?_
      generalize hV6 : vaca V5 k (P4 0 3) = V6
      have hGV6 : zVG V6 := by rw [← hV6]; exact vaca_G hGV5 hk _
      refine (ys4 44 (v := .ref (w)) rfl rfl rfl rfl).trans ?_
      refine (ys4 45 (v := .ref (r + 0)) rfl rfl rfl rfl).trans ?_
      refine (yg 48 rfl (zFS.tag hC.1.1 (j := 0) (by decide) rfl) (zFS.ni hC.1.1 (j := 0) (by decide) rfl) (by decide) rfl (zrw_at (o := 0) (j := 0) (by decide) hC.2.2.1)).trans ?_
      refine (yc2 51 rfl rfl (Nat.le_of_ble_eq_true rfl) (Or.inr (by show ztg (zwi _ _) _ = _; rw [ztg_wi]; exact (zWS.tag hC.2.1 (o := 0) (by decide) rfl))) rfl rfl (c_at2 hC.2.1)).trans ?_
      refine (yg 54 rfl (zWS.tag hC.2.1 (o := 23 + (zsf (P4 0 3) 20)) (zwT_2 _ (zsf_lt (by decide) (by decide))).2.2 (zwT_2 _ (zsf_lt (by decide) (by decide))).1) (zWS.ni hC.2.1 (o := 23 + (zsf (P4 0 3) 20)) (zwT_2 _ (zsf_lt (by decide) (by decide))).2.2 (zwT_2 _ (zsf_lt (by decide) (by decide))).2.1) (by decide) rfl (zpc_at (o := 23 + (zsf (P4 0 3) 20)) (zpk_2 _ (zsf_lt (by decide) (by decide))) (zwT_2 _ (zsf_lt (by decide) (by decide))).2.2)).trans ?_
      refine (ys5 55 (L2 := [(3, .int ((V6 2 (zsf (P4 0 3) 20) 1))), (0, .ref (r + 0)), (1, .ref (w)), (2, .ref (w + (49 + 3 * k)))]) rfl rfl rfl rfl).trans ?_
      refine (ys1 56 (x := nI 1) rfl rfl rfl).trans ?_
      refine (ys5 58 (L2 := [(4, .int (nI 1)), (3, .int ((V6 2 (zsf (P4 0 3) 20) 1))), (0, .ref (r + 0)), (1, .ref (w)), (2, .ref (w + (49 + 3 * k)))]) rfl rfl rfl rfl).trans ?_
      rw [show vrst P V Q K k = vrsL Q K k (V6 2 (zsf (P4 0 3) 20) 1) 399 1 P4 V6 from by subst hV6 hV5 hP4 hP1; unfold vrst; (try dsimp only); rw [if_pos h9, if_neg h23]]; exact l_rst hC hk 399 1 _ _ hGV6 (by omega)
  · refine (yc3 12 rfl rfl (Nat.le_of_ble_eq_true rfl) (Or.inr (by show ztg (zwi _ _) _ = _; rw [ztg_wi]; exact (zFS.tag hC.1.1 (j := 0) (by decide) rfl))) rfl rfl (c_on02 hC hG.1.2.1.2 h9)).trans ?_
    refine ys17_1 15 rfl rfl (fun h12 => ?_) (fun h12 => absurd (by decide) h12)
    refine (ys1 16 (x := 0) rfl rfl rfl).trans ?_
    refine (ys36 rfl (by decide)).trans ?_
    rw [show vrst P V Q K k = (0, P, V) from by unfold vrst; (try dsimp only); rw [if_neg h9]]; (first | done | rfl)

theorem vrsL_G (Q : zFn) (K : zKn) {k : Nat} (hk : k < 12) (y : Int32) : ∀ (m i : Nat) (P : zFn) (V : zV), zVG V → zVG (vrsL Q K k y m i P V).2.2
  | 0, i, P, V, hG => by rw [vrsL]; exact hG
  | m + 1, i, P, V, hG => by
    by_cases hc0 : vko Q K (P 0 0) = 19
    · obtain ⟨P1, hP1⟩ : ∃ z_, vat P = z_ := ⟨_, rfl⟩
      by_cases hc2 : vko Q K (P1 0 0) = 2
      · obtain ⟨P2, hP2⟩ : ∃ z_, von2 P1 Q (vc V 1) = z_ := ⟨_, rfl⟩
        by_cases hc4 : (V 2 (zsf (P2 0 3) 20) 1) = y
        · by_cases hc5 : (vlshW V k (P2 0 3)) = 0
          · obtain ⟨V3, hV3⟩ : ∃ z_, vaca V k (P2 0 3) = z_ := ⟨_, rfl⟩
            have hGV3 : zVG V3 := by rw [← hV3]; exact vaca_G hG hk _
            rw [show vrsL Q K k y (m + 1) i P V = vrsL Q K k y m (i + 1) P2 V3 from by subst hV3 hP2 hP1; rw [vrsL]; (try dsimp only); rw [if_pos hc0, if_pos hc2, if_pos hc4, if_pos hc5]]; exact vrsL_G _ _ hk _ _ _ _ _ hGV3
          · obtain ⟨P4, hP4⟩ : ∃ z_, vte P2 Q 7 = z_ := ⟨_, rfl⟩
            obtain ⟨V5, hV5⟩ : ∃ z_, vaca V k (P4 0 3) = z_ := ⟨_, rfl⟩
            have hGV5 : zVG V5 := by rw [← hV5]; exact vaca_G hG hk _
            rw [show vrsL Q K k y (m + 1) i P V = vrsL Q K k y m (i + 1) P4 V5 from by subst hV5 hP4 hP2 hP1; rw [vrsL]; (try dsimp only); rw [if_pos hc0, if_pos hc2, if_pos hc4, if_neg hc5]]; exact vrsL_G _ _ hk _ _ _ _ _ hGV5
        · obtain ⟨P6, hP6⟩ : ∃ z_, vte P2 Q 6 = z_ := ⟨_, rfl⟩
          by_cases hc14 : (vlshW V k (P6 0 3)) = 0
          · obtain ⟨V7, hV7⟩ : ∃ z_, vaca V k (P6 0 3) = z_ := ⟨_, rfl⟩
            have hGV7 : zVG V7 := by rw [← hV7]; exact vaca_G hG hk _
            rw [show vrsL Q K k y (m + 1) i P V = vrsL Q K k y m (i + 1) P6 V7 from by subst hV7 hP6 hP2 hP1; rw [vrsL]; (try dsimp only); rw [if_pos hc0, if_pos hc2, if_neg hc4, if_pos hc14]]; exact vrsL_G _ _ hk _ _ _ _ _ hGV7
          · obtain ⟨P8, hP8⟩ : ∃ z_, vte P6 Q 7 = z_ := ⟨_, rfl⟩
            obtain ⟨V9, hV9⟩ : ∃ z_, vaca V k (P8 0 3) = z_ := ⟨_, rfl⟩
            have hGV9 : zVG V9 := by rw [← hV9]; exact vaca_G hG hk _
            rw [show vrsL Q K k y (m + 1) i P V = vrsL Q K k y m (i + 1) P8 V9 from by subst hV9 hP8 hP6 hP2 hP1; rw [vrsL]; (try dsimp only); rw [if_pos hc0, if_pos hc2, if_neg hc4, if_neg hc14]]; exact vrsL_G _ _ hk _ _ _ _ _ hGV9
      · rw [show vrsL Q K k y (m + 1) i P V = (0, P1, V) from by subst hP1; rw [vrsL]; (try dsimp only); rw [if_pos hc0, if_neg hc2]]; exact hG
    · rw [show vrsL Q K k y (m + 1) i P V = (1, P, V) from by rw [vrsL]; (try dsimp only); rw [if_neg hc0]]; exact hG

theorem vrsL_b (Q : zFn) (K : zKn) (k : Nat) (y : Int32) : ∀ (m i : Nat) (P : zFn) (V : zV), (vrsL Q K k y m i P V).1 = 0 ∨ (vrsL Q K k y m i P V).1 = 1
  | 0, i, P, V => by rw [vrsL]; exact Or.inr rfl
  | m + 1, i, P, V => by
    by_cases hc0 : vko Q K (P 0 0) = 19
    · obtain ⟨P1, hP1⟩ : ∃ z_, vat P = z_ := ⟨_, rfl⟩
      by_cases hc2 : vko Q K (P1 0 0) = 2
      · obtain ⟨P2, hP2⟩ : ∃ z_, von2 P1 Q (vc V 1) = z_ := ⟨_, rfl⟩
        by_cases hc4 : (V 2 (zsf (P2 0 3) 20) 1) = y
        · by_cases hc5 : (vlshW V k (P2 0 3)) = 0
          · obtain ⟨V3, hV3⟩ : ∃ z_, vaca V k (P2 0 3) = z_ := ⟨_, rfl⟩
            rw [show vrsL Q K k y (m + 1) i P V = vrsL Q K k y m (i + 1) P2 V3 from by subst hV3 hP2 hP1; rw [vrsL]; (try dsimp only); rw [if_pos hc0, if_pos hc2, if_pos hc4, if_pos hc5]]; exact vrsL_b _ _ _ _ _ _ _ _
          · obtain ⟨P4, hP4⟩ : ∃ z_, vte P2 Q 7 = z_ := ⟨_, rfl⟩
            obtain ⟨V5, hV5⟩ : ∃ z_, vaca V k (P4 0 3) = z_ := ⟨_, rfl⟩
            rw [show vrsL Q K k y (m + 1) i P V = vrsL Q K k y m (i + 1) P4 V5 from by subst hV5 hP4 hP2 hP1; rw [vrsL]; (try dsimp only); rw [if_pos hc0, if_pos hc2, if_pos hc4, if_neg hc5]]; exact vrsL_b _ _ _ _ _ _ _ _
        · obtain ⟨P6, hP6⟩ : ∃ z_, vte P2 Q 6 = z_ := ⟨_, rfl⟩
          by_cases hc12 : (vlshW V k (P6 0 3)) = 0
          · obtain ⟨V7, hV7⟩ : ∃ z_, vaca V k (P6 0 3) = z_ := ⟨_, rfl⟩
            rw [show vrsL Q K k y (m + 1) i P V = vrsL Q K k y m (i + 1) P6 V7 from by subst hV7 hP6 hP2 hP1; rw [vrsL]; (try dsimp only); rw [if_pos hc0, if_pos hc2, if_neg hc4, if_pos hc12]]; exact vrsL_b _ _ _ _ _ _ _ _
          · obtain ⟨P8, hP8⟩ : ∃ z_, vte P6 Q 7 = z_ := ⟨_, rfl⟩
            obtain ⟨V9, hV9⟩ : ∃ z_, vaca V k (P8 0 3) = z_ := ⟨_, rfl⟩
            rw [show vrsL Q K k y (m + 1) i P V = vrsL Q K k y m (i + 1) P8 V9 from by subst hV9 hP8 hP6 hP2 hP1; rw [vrsL]; (try dsimp only); rw [if_pos hc0, if_pos hc2, if_neg hc4, if_neg hc12]]; exact vrsL_b _ _ _ _ _ _ _ _
      · rw [show vrsL Q K k y (m + 1) i P V = (0, P1, V) from by subst hP1; rw [vrsL]; (try dsimp only); rw [if_pos hc0, if_neg hc2]]; exact Or.inl rfl
    · rw [show vrsL Q K k y (m + 1) i P V = (1, P, V) from by rw [vrsL]; (try dsimp only); rw [if_neg hc0]]; exact Or.inr rfl

theorem vrst_G {V : zV} (hG : zVG V) {k : Nat} (hk : k < 12) (P Q : zFn) (K : zKn) : zVG (vrst P V Q K k).2.2 := by
  by_cases hc0 : vko Q K (P 0 0) = 2
  · obtain ⟨P1, hP1⟩ : ∃ z_, von2 P Q (vc V 1) = z_ := ⟨_, rfl⟩
    by_cases hc2 : (V 4 k 0) < 6
    · obtain ⟨V2, hV2⟩ : ∃ z_, vast V k = z_ := ⟨_, rfl⟩
      have hGV2 : zVG V2 := by rw [← hV2]; exact vast_G hG _
      obtain ⟨V3, hV3⟩ : ∃ z_, vaca V2 k (P1 0 3) = z_ := ⟨_, rfl⟩
      have hGV3 : zVG V3 := by rw [← hV3]; exact vaca_G hGV2 hk _
      rw [show vrst P V Q K k = vrsL Q K k (V3 2 (zsf (P1 0 3) 20) 1) 399 1 P1 V3 from by subst hV3 hV2 hP1; unfold vrst; (try dsimp only); rw [if_pos hc0, if_pos hc2]]; exact vrsL_G _ _ hk _ _ _ _ _ hGV3
    · obtain ⟨P4, hP4⟩ : ∃ z_, vte P1 Q 4 = z_ := ⟨_, rfl⟩
      obtain ⟨V5, hV5⟩ : ∃ z_, vast V k = z_ := ⟨_, rfl⟩
      have hGV5 : zVG V5 := by rw [← hV5]; exact vast_G hG _
      obtain ⟨V6, hV6⟩ : ∃ z_, vaca V5 k (P4 0 3) = z_ := ⟨_, rfl⟩
      have hGV6 : zVG V6 := by rw [← hV6]; exact vaca_G hGV5 hk _
      rw [show vrst P V Q K k = vrsL Q K k (V6 2 (zsf (P4 0 3) 20) 1) 399 1 P4 V6 from by subst hV6 hV5 hP4 hP1; unfold vrst; (try dsimp only); rw [if_pos hc0, if_neg hc2]]; exact vrsL_G _ _ hk _ _ _ _ _ hGV6
  · rw [show vrst P V Q K k = (0, P, V) from by unfold vrst; (try dsimp only); rw [if_neg hc0]]; exact hG

theorem vrst_b (P : zFn) (V : zV) (Q : zFn) (K : zKn) (k : Nat) : (vrst P V Q K k).1 = 0 ∨ (vrst P V Q K k).1 = 1 := by
  by_cases hc0 : vko Q K (P 0 0) = 2
  · obtain ⟨P1, hP1⟩ : ∃ z_, von2 P Q (vc V 1) = z_ := ⟨_, rfl⟩
    by_cases hc2 : (V 4 k 0) < 6
    · obtain ⟨V2, hV2⟩ : ∃ z_, vast V k = z_ := ⟨_, rfl⟩
      obtain ⟨V3, hV3⟩ : ∃ z_, vaca V2 k (P1 0 3) = z_ := ⟨_, rfl⟩
      rw [show vrst P V Q K k = vrsL Q K k (V3 2 (zsf (P1 0 3) 20) 1) 399 1 P1 V3 from by subst hV3 hV2 hP1; unfold vrst; (try dsimp only); rw [if_pos hc0, if_pos hc2]]; exact vrsL_b _ _ _ _ _ _ _ _
    · obtain ⟨P4, hP4⟩ : ∃ z_, vte P1 Q 4 = z_ := ⟨_, rfl⟩
      obtain ⟨V5, hV5⟩ : ∃ z_, vast V k = z_ := ⟨_, rfl⟩
      obtain ⟨V6, hV6⟩ : ∃ z_, vaca V5 k (P4 0 3) = z_ := ⟨_, rfl⟩
      rw [show vrst P V Q K k = vrsL Q K k (V6 2 (zsf (P4 0 3) 20) 1) 399 1 P4 V6 from by subst hV6 hV5 hP4 hP1; unfold vrst; (try dsimp only); rw [if_pos hc0, if_neg hc2]]; exact vrsL_b _ _ _ _ _ _ _ _
  · rw [show vrst P V Q K k = (0, P, V) from by unfold vrst; (try dsimp only); rw [if_neg hc0]]; exact Or.inl rfl

def vrkL (Q : zFn) (K : zKn) (k : Nat) : Nat → Nat → Int32 → zFn → zV → Int32 × zFn × zV
  | 0, i, f, P, V =>
    (f, P, V)
  | m + 1, i, f, P, V =>
    if f = 0 then
      (f, P, V)
    else
      if vko Q K (P 0 0) = 4 then
        let P1 := vat P
        let r2 := vrst P1 V Q K k
        vrkL Q K k m (i + 1) r2.1 r2.2.1 r2.2.2
      else
        (f, P, V)

theorem l_rk {d c sl : Nat} {r w : Nat} {Q J : zFn} {K : zKn} {μ : zM} (hC : zRC μ r w J Q K) {k : Nat} (hk : k < 12) : ∀ (m i : Nat) (f : Int32) (P : zFn) (V : zV), zVG V → (f = 0 ∨ f = 1) → i + m = 400 → zden1 (d + 8) (zden zcds (d + 8)) zc37 (85, [(4, .int (nI i)), (3, .int (f)), (2, .ref (w + (49 + 3 * k))), (0, .ref (r + 0)), (1, .ref (w))], [], c, sl, zwi μ (zpc (zrl J r P) w V)) = some (0, some (.int ((vrkL Q K k m i f P V).1)), c, sl, zwi μ (zpc (zrl J r ((vrkL Q K k m i f P V).2.1)) w ((vrkL Q K k m i f P V).2.2)))
  | 0, i, f, P, V, hG, hf, e => by
    refine (ys4 87 (v := .int (nI i)) rfl rfl rfl rfl).trans ?_
    refine (ys1 90 (x := nI 400) rfl rfl rfl).trans ?_
    refine ys18_3 93 rfl rfl (fun h90 => ?_) (fun h90 => absurd (nI_le (by omega) (by omega)) h90)
    refine (ys4 121 (v := .int (f)) rfl rfl rfl rfl).trans ?_
    refine (ys36 rfl (by exact decide_eq_true hf)).trans ?_
    rw [show vrkL Q K k 0 i f P V = (f, P, V) from by rw [vrkL]; (try dsimp only); first | done | rfl]; (first | done | rfl)
  | m + 1, i, f, P, V, hG, hf, e => by
    refine (ys4 87 (v := .int (nI i)) rfl rfl rfl rfl).trans ?_
    refine (ys1 90 (x := nI 400) rfl rfl rfl).trans ?_
    refine ys18_3 93 rfl rfl (fun h90 => absurd h90 (nI_ge (by omega) (by omega))) (fun h90 => ?_)
    refine (ys4 94 (v := .int (f)) rfl rfl rfl rfl).trans ?_
    refine ys17_0 97 rfl rfl (fun h94 => ?_) (fun h94 => ?_)
    · refine (ys4 121 (v := .int (f)) rfl rfl rfl rfl).trans ?_
      refine (ys36 rfl (by exact decide_eq_true hf)).trans ?_
      rw [show vrkL Q K k (m + 1) i f P V = (f, P, V) from by rw [vrkL]; (try dsimp only); rw [if_pos h94]]; (first | done | rfl)
    · refine (ys4 98 (v := .ref (r + 0)) rfl rfl rfl rfl).trans ?_
      refine (ys25 101 rfl (v := .ref (4)) rfl rfl).trans ?_
      by_cases h101 : vko Q K (P 0 0) = 4
      · refine (yc2 104 rfl rfl (Nat.le_of_ble_eq_true rfl) (Or.inr (by show ztg (zwi _ _) _ = _; rw [ztg_wi]; exact (zFS.tag hC.1.1 (j := 0) (by decide) rfl))) rfl rfl (c_ac1 hC (by decide) h101)).trans ?_
        generalize hP1 : vat P = P1
        refine ys17_0 107 rfl rfl (fun h104 => absurd h104 (by decide)) (fun h104 => ?_)
        refine (ys4 108 (v := .ref (r + 0)) rfl rfl rfl rfl).trans ?_
        refine (ys4 109 (v := .ref (w)) rfl rfl rfl rfl).trans ?_
        refine (ys4 110 (v := .ref (w + (49 + 3 * k))) rfl rfl rfl rfl).trans ?_
        refine (yc3 113 rfl rfl (Nat.le_of_ble_eq_true rfl) (Or.inr (by show ztg (zwi _ _) _ = _; rw [ztg_wi]; exact (zFS.tag hC.1.1 (j := 0) (by decide) rfl))) rfl rfl (c_rst hC hk hG)).trans ?_
        generalize hr2 : vrst P1 V Q K k = r2
        have hGr222 : zVG r2.2.2 := by rw [← hr2]; exact vrst_G hG hk _ _ _
        refine (ys5 114 (L2 := [(3, .int (r2.1)), (4, .int (nI i)), (2, .ref (w + (49 + 3 * k))), (0, .ref (r + 0)), (1, .ref (w))]) rfl rfl rfl rfl).trans ?_
        refine (ys6 117 (y := nI (i + 1)) (L2 := [(4, .int (nI (i + 1))), (3, .int (r2.1)), (2, .ref (w + (49 + 3 * k))), (0, .ref (r + 0)), (1, .ref (w))]) rfl rfl (nI_1 _) rfl rfl).trans ?_
        refine (ys19 rfl).trans ?_
        rw [show vrkL Q K k (m + 1) i f P V = vrkL Q K k m (i + 1) r2.1 r2.2.1 r2.2.2 from by subst hr2 hP1; rw [vrkL]; (try dsimp only); rw [if_neg h94, if_pos h101]]; exact l_rk hC hk m (i + 1) r2.1 r2.2.1 r2.2.2 hGr222 (by rw [← hr2]; exact vrst_b _ _ _ _ _) (by omega)
      · refine (yc2 104 rfl rfl (Nat.le_of_ble_eq_true rfl) (Or.inr (by show ztg (zwi _ _) _ = _; rw [ztg_wi]; exact (zFS.tag hC.1.1 (j := 0) (by decide) rfl))) rfl rfl (c_ac0 hC (by decide) h101)).trans ?_
        refine ys17_0 107 rfl rfl (fun h104 => ?_) (fun h104 => absurd (by decide) h104)
        refine (ys4 121 (v := .int (f)) rfl rfl rfl rfl).trans ?_
        refine (ys36 rfl (by exact decide_eq_true hf)).trans ?_
        rw [show vrkL Q K k (m + 1) i f P V = (f, P, V) from by rw [vrkL]; (try dsimp only); rw [if_neg h94, if_neg h101]]; (first | done | rfl)

def vrk (P : zFn) (V : zV) (Q : zFn) (K : zKn) : Int32 × zFn × zV :=
  if vko Q K (P 0 0) = 2 then
    let P1 := vnn3 P Q (vc V 3)
    let V2 := vaddK V
    let n1 := (min (vc V 3) 11)
    if vko Q K (P1 0 0) = 12 then
      let P3 := vat P1
      if vko Q K (P3 0 0) = 2 then
        let P4 := von1 P3 Q (vc V2 0)
        let V5 := zvu V2 4 n1 1 ((P4 0 3))
        if vko Q K (P4 0 0) = 18 then
          let P6 := vat P4
          let r7 := vrst P6 V5 Q K n1
          if r7.1 = 0 then
            vrkL Q K n1 399 1 0 r7.2.1 r7.2.2
          else
            vrkL Q K n1 399 1 1 r7.2.1 r7.2.2
        else
          vrkL Q K n1 399 1 0 P4 V5
      else
        (0, P3, V2)
    else
      (0, P1, V2)
  else
    (0, P, V)

theorem c_rk {d : Nat} {r w : Nat} {P Q J : zFn} {V : zV} {K : zKn} {μ : zM} (hC : zRC μ r w J Q K) (hG : zVG V) : zden zcds (d + 9) 37 [.ref (r + 0), .ref (w)] (zwi μ (zpc (zrl J r P) w V)) = some (0, some (.int ((vrk P V Q K).1)), 0, 0, zwi μ (zpc (zrl J r ((vrk P V Q K).2.1)) w ((vrk P V Q K).2.2))) := by
  refine (zd_in (d := d + 8) (cd := zc37) (nL := 5) (L := [(0, .ref (r + 0)), (1, .ref (w))]) rfl (Nat.le_of_ble_eq_true rfl) rfl).trans ?_
  refine (ys4 1 (v := .ref (r + 0)) rfl rfl rfl rfl).trans ?_
  refine (ys4 2 (v := .ref (r + 0)) rfl rfl rfl rfl).trans ?_
  refine (ygr 5 rfl (zFS.tag hC.1.1 (j := 0) (by decide) rfl) rfl hC.1.2.2.2.2.1).trans ?_
  refine (ys4 6 (v := .ref (w)) rfl rfl rfl rfl).trans ?_
  refine (yg 9 rfl (zWS.tag hC.2.1 (o := 0) (by decide) rfl) (zWS.ni hC.2.1 (o := 0) (by decide) rfl) (by decide) rfl (Eq.trans (zpc_at (o := 0) (q := 0) (i := 0) rfl (by decide)) (show (V 0 0 3) = (nI (vc V 3)) from hG.1.2.2.2.1))).trans ?_
  by_cases h9 : vko Q K (P 0 0) = 2
  · refine (yc3 12 rfl rfl (Nat.le_of_ble_eq_true rfl) (Or.inr (by show ztg (zwi _ _) _ = _; rw [ztg_wi]; exact (zFS.tag hC.1.1 (j := 0) (by decide) rfl))) rfl rfl (c_nn13 hC hG.1.2.2.2.2 h9)).trans ?_
    generalize hP1 : vnn3 P Q (vc V 3) = P1
    refine ys17_1 15 rfl rfl (fun h12 => absurd h12 (by decide)) (fun h12 => ?_)
    refine (ys4 18 (v := .ref (w)) rfl rfl rfl rfl).trans ?_
    refine (yc1 21 rfl rfl (Nat.le_of_ble_eq_true rfl) (Or.inr (by show ztg (zwi _ _) _ = _; rw [ztg_wi]; exact (zWS.tag hC.2.1 (o := 0) (by decide) rfl))) rfl rfl (c_addKn hC.2.1 hG)).trans ?_
    generalize hV2 : vaddK V = V2
    have hGV2 : zVG V2 := by rw [← hV2]; exact vaddK_G hG
    generalize hn1 : (min (vc V 3) 11) = n1
    have hn1b : n1 < 12 := by rw [← hn1]; exact (by omega)
    refine (ys5 22 (L2 := [(2, .ref (w + (49 + 3 * n1))), (0, .ref (r + 0)), (1, .ref (w))]) rfl rfl rfl rfl).trans ?_
    refine (ys4 23 (v := .ref (r + 0)) rfl rfl rfl rfl).trans ?_
    refine (ys25 26 rfl (v := .ref (12)) rfl rfl).trans ?_
    by_cases h26 : vko Q K (P1 0 0) = 12
    · refine (yc2 29 rfl rfl (Nat.le_of_ble_eq_true rfl) (Or.inr (by show ztg (zwi _ _) _ = _; rw [ztg_wi]; exact (zFS.tag hC.1.1 (j := 0) (by decide) rfl))) rfl rfl (c_ac1 hC (by decide) h26)).trans ?_
      generalize hP3 : vat P1 = P3
      refine ys17_0 32 rfl rfl (fun h29 => absurd h29 (by decide)) (fun h29 => ?_)
      refine (ys4 33 (v := .ref (r + 0)) rfl rfl rfl rfl).trans ?_
      refine (ys4 34 (v := .ref (r + 0)) rfl rfl rfl rfl).trans ?_
      refine (ygr 37 rfl (zFS.tag hC.1.1 (j := 0) (by decide) rfl) rfl hC.1.2.2.1).trans ?_
      refine (ys4 38 (v := .ref (w)) rfl rfl rfl rfl).trans ?_
      refine (yg 41 rfl (zWS.tag hC.2.1 (o := 0) (by decide) rfl) (zWS.ni hC.2.1 (o := 0) (by decide) rfl) (by decide) rfl (Eq.trans (zpc_at (o := 0) (q := 0) (i := 0) rfl (by decide)) (show (V2 0 0 0) = (nI (vc V2 0)) from hGV2.1.1.1))).trans ?_
      by_cases h41 : vko Q K (P3 0 0) = 2
      · refine (yc3 44 rfl rfl (Nat.le_of_ble_eq_true rfl) (Or.inr (by show ztg (zwi _ _) _ = _; rw [ztg_wi]; exact (zFS.tag hC.1.1 (j := 0) (by decide) rfl))) rfl rfl (c_on11 hC hGV2.1.1.2 h41)).trans ?_
        generalize hP4 : von1 P3 Q (vc V2 0) = P4
        refine ys17_1 47 rfl rfl (fun h44 => absurd h44 (by decide)) (fun h44 => ?_)
        refine (ys4 50 (v := .ref (w + (49 + 3 * n1))) rfl rfl rfl rfl).trans ?_
        refine (ys4 51 (v := .ref (r + 0)) rfl rfl rfl rfl).trans ?_
        refine (yg 54 rfl (zFS.tag hC.1.1 (j := 0) (by decide) rfl) (zFS.ni hC.1.1 (j := 0) (by decide) rfl) (by decide) rfl (zrw_at (o := 0) (j := 0) (by decide) hC.2.2.1)).trans ?_
        refine (yq 57 rfl (zWS.tag hC.2.1 (o := 49 + 3 * n1) (zwT_4 _ hn1b).2.2.2.2 (zwT_4 _ hn1b).1) (zWS.k0 hC.2.1 (o := 49 + 3 * n1)) (zWS.ni hC.2.1 (o := 49 + 3 * n1) (zwT_4 _ hn1b).2.2.2.2 (zwT_4 _ hn1b).2.1) (by decide) rfl (zpc_up (o := 49 + 3 * n1) (zpk_4 _ hn1b) (zwT_4 _ hn1b).2.2.2.2)).trans ?_
        generalize hV5 : zvu V2 4 n1 1 ((P4 0 3)) = V5
        have hGV5 : zVG V5 := by rw [← hV5]; exact zVG_u hGV2 (by decide) (by decide)
        refine (ys4 58 (v := .ref (r + 0)) rfl rfl rfl rfl).trans ?_
        refine (ys25 61 rfl (v := .ref (18)) rfl rfl).trans ?_
        by_cases h61 : vko Q K (P4 0 0) = 18
        · refine (yc2 64 rfl rfl (Nat.le_of_ble_eq_true rfl) (Or.inr (by show ztg (zwi _ _) _ = _; rw [ztg_wi]; exact (zFS.tag hC.1.1 (j := 0) (by decide) rfl))) rfl rfl (c_ac1 hC (by decide) h61)).trans ?_
          generalize hP6 : vat P4 = P6
          refine ys17_0 67 rfl rfl (fun h64 => absurd h64 (by decide)) (fun h64 => ?_)
          refine (ys4 68 (v := .ref (r + 0)) rfl rfl rfl rfl).trans ?_
          refine (ys4 69 (v := .ref (w)) rfl rfl rfl rfl).trans ?_
          refine (ys4 70 (v := .ref (w + (49 + 3 * n1))) rfl rfl rfl rfl).trans ?_
          refine (yc3 73 rfl rfl (Nat.le_of_ble_eq_true rfl) (Or.inr (by show ztg (zwi _ _) _ = _; rw [ztg_wi]; exact (zFS.tag hC.1.1 (j := 0) (by decide) rfl))) rfl rfl (c_rst hC hn1b hGV5)).trans ?_
          generalize hr7 : vrst P6 V5 Q K n1 = r7
          have hGr722 : zVG r7.2.2 := by rw [← hr7]; exact vrst_G hGV5 hn1b _ _ _
          refine ys17_0 76 rfl rfl (fun h73 => ?_) (fun h73 => ?_)
          · refine (ys1 81 (x := 0) rfl rfl rfl).trans ?_
            refine (ys5 82 (L2 := [(3, .int (0)), (2, .ref (w + (49 + 3 * n1))), (0, .ref (r + 0)), (1, .ref (w))]) rfl rfl rfl rfl).trans ?_
            refine (ys1 83 (x := nI 1) rfl rfl rfl).trans ?_
            refine (ys5 85 (L2 := [(4, .int (nI 1)), (3, .int (0)), (2, .ref (w + (49 + 3 * n1))), (0, .ref (r + 0)), (1, .ref (w))]) rfl rfl rfl rfl).trans ?_
            rw [show vrk P V Q K = vrkL Q K n1 399 1 0 r7.2.1 r7.2.2 from by subst hr7 hP6 hV5 hP4 hP3 hn1 hV2 hP1; unfold vrk; (try dsimp only); rw [if_pos h9, if_pos h26, if_pos h41, if_pos h61, if_pos h73]]; exact l_rk hC hn1b 399 1 0 _ _ hGr722 (by decide) (by omega)
          · refine (ys1 77 (x := 1) rfl rfl rfl).trans ?_
            refine (ys19 rfl).trans ?_
            refine (ys5 82 (L2 := [(3, .int (1)), (2, .ref (w + (49 + 3 * n1))), (0, .ref (r + 0)), (1, .ref (w))]) rfl rfl rfl rfl).trans ?_
            refine (ys1 83 (x := nI 1) rfl rfl rfl).trans ?_
            refine (ys5 85 (L2 := [(4, .int (nI 1)), (3, .int (1)), (2, .ref (w + (49 + 3 * n1))), (0, .ref (r + 0)), (1, .ref (w))]) rfl rfl rfl rfl).trans ?_
            rw [show vrk P V Q K = vrkL Q K n1 399 1 1 r7.2.1 r7.2.2 from by subst hr7 hP6 hV5 hP4 hP3 hn1 hV2 hP1; unfold vrk; (try dsimp only); rw [if_pos h9, if_pos h26, if_pos h41, if_pos h61, if_neg h73]]; exact l_rk hC hn1b 399 1 1 _ _ hGr722 (by decide) (by omega)
        · refine (yc2 64 rfl rfl (Nat.le_of_ble_eq_true rfl) (Or.inr (by show ztg (zwi _ _) _ = _; rw [ztg_wi]; exact (zFS.tag hC.1.1 (j := 0) (by decide) rfl))) rfl rfl (c_ac0 hC (by decide) h61)).trans ?_
          refine ys17_0 67 rfl rfl (fun h64 => ?_) (fun h64 => absurd (by decide) h64)
          refine (ys1 81 (x := 0) rfl rfl rfl).trans ?_
          refine (ys5 82 (L2 := [(3, .int (0)), (2, .ref (w + (49 + 3 * n1))), (0, .ref (r + 0)), (1, .ref (w))]) rfl rfl rfl rfl).trans ?_
          refine (ys1 83 (x := nI 1) rfl rfl rfl).trans ?_
          refine (ys5 85 (L2 := [(4, .int (nI 1)), (3, .int (0)), (2, .ref (w + (49 + 3 * n1))), (0, .ref (r + 0)), (1, .ref (w))]) rfl rfl rfl rfl).trans ?_
          rw [show vrk P V Q K = vrkL Q K n1 399 1 0 P4 V5 from by subst hV5 hP4 hP3 hn1 hV2 hP1; unfold vrk; (try dsimp only); rw [if_pos h9, if_pos h26, if_pos h41, if_neg h61]]; exact l_rk hC hn1b 399 1 0 _ _ hGV5 (by decide) (by omega)
      · refine (yc3 44 rfl rfl (Nat.le_of_ble_eq_true rfl) (Or.inr (by show ztg (zwi _ _) _ = _; rw [ztg_wi]; exact (zFS.tag hC.1.1 (j := 0) (by decide) rfl))) rfl rfl (c_on01 hC hGV2.1.1.2 h41)).trans ?_
        refine ys17_1 47 rfl rfl (fun h44 => ?_) (fun h44 => absurd (by decide) h44)
        refine (ys1 48 (x := 0) rfl rfl rfl).trans ?_
        refine (ys36 rfl (by decide)).trans ?_
        rw [show vrk P V Q K = (0, P3, V2) from by subst hP3 hn1 hV2 hP1; unfold vrk; (try dsimp only); rw [if_pos h9, if_pos h26, if_neg h41]]; (first | done | rfl)
    · refine (yc2 29 rfl rfl (Nat.le_of_ble_eq_true rfl) (Or.inr (by show ztg (zwi _ _) _ = _; rw [ztg_wi]; exact (zFS.tag hC.1.1 (j := 0) (by decide) rfl))) rfl rfl (c_ac0 hC (by decide) h26)).trans ?_
      refine ys17_0 32 rfl rfl (fun h29 => ?_) (fun h29 => absurd (by decide) h29)
      refine (ys1 48 (x := 0) rfl rfl rfl).trans ?_
      refine (ys36 rfl (by decide)).trans ?_
      rw [show vrk P V Q K = (0, P1, V2) from by subst hn1 hV2 hP1; unfold vrk; (try dsimp only); rw [if_pos h9, if_neg h26]]; (first | done | rfl)
  · refine (yc3 12 rfl rfl (Nat.le_of_ble_eq_true rfl) (Or.inr (by show ztg (zwi _ _) _ = _; rw [ztg_wi]; exact (zFS.tag hC.1.1 (j := 0) (by decide) rfl))) rfl rfl (c_nn03 hC hG.1.2.2.2.2 h9)).trans ?_
    refine ys17_1 15 rfl rfl (fun h12 => ?_) (fun h12 => absurd (by decide) h12)
    refine (ys1 16 (x := 0) rfl rfl rfl).trans ?_
    refine (ys36 rfl (by decide)).trans ?_
    rw [show vrk P V Q K = (0, P, V) from by unfold vrk; (try dsimp only); rw [if_neg h9]]; (first | done | rfl)

theorem vrkL_G (Q : zFn) (K : zKn) {k : Nat} (hk : k < 12) : ∀ (m i : Nat) (f : Int32) (P : zFn) (V : zV), zVG V → zVG (vrkL Q K k m i f P V).2.2
  | 0, i, f, P, V, hG => by rw [vrkL]; repeat' split
                            all_goals exact hG
  | m + 1, i, f, P, V, hG => by
    by_cases hc0 : f = 0
    · rw [show vrkL Q K k (m + 1) i f P V = (f, P, V) from by rw [vrkL]; (try dsimp only); rw [if_pos hc0]]; exact hG
    · by_cases hc2 : vko Q K (P 0 0) = 4
      · obtain ⟨P1, hP1⟩ : ∃ z_, vat P = z_ := ⟨_, rfl⟩
        obtain ⟨r2, hr2⟩ : ∃ z_, vrst P1 V Q K k = z_ := ⟨_, rfl⟩
        have hGr222 : zVG r2.2.2 := by rw [← hr2]; exact vrst_G hG hk _ _ _
        rw [show vrkL Q K k (m + 1) i f P V = vrkL Q K k m (i + 1) r2.1 r2.2.1 r2.2.2 from by subst hr2 hP1; rw [vrkL]; (try dsimp only); rw [if_neg hc0, if_pos hc2]]; exact vrkL_G _ _ hk _ _ _ _ _ hGr222
      · rw [show vrkL Q K k (m + 1) i f P V = (f, P, V) from by rw [vrkL]; (try dsimp only); rw [if_neg hc0, if_neg hc2]]; exact hG

theorem vrk_G {V : zV} (hG : zVG V) (P Q : zFn) (K : zKn) : zVG (vrk P V Q K).2.2 := by
  by_cases hc0 : vko Q K (P 0 0) = 2
  · obtain ⟨P1, hP1⟩ : ∃ z_, vnn3 P Q (vc V 3) = z_ := ⟨_, rfl⟩
    obtain ⟨V2, hV2⟩ : ∃ z_, vaddK V = z_ := ⟨_, rfl⟩
    have hGV2 : zVG V2 := by rw [← hV2]; exact vaddK_G hG
    obtain ⟨n1, hn1⟩ : ∃ z_, (min (vc V 3) 11) = z_ := ⟨_, rfl⟩
    have hn1b : n1 < 12 := by rw [← hn1]; omega
    by_cases hc6 : vko Q K (P1 0 0) = 12
    · obtain ⟨P3, hP3⟩ : ∃ z_, vat P1 = z_ := ⟨_, rfl⟩
      by_cases hc8 : vko Q K (P3 0 0) = 2
      · obtain ⟨P4, hP4⟩ : ∃ z_, von1 P3 Q (vc V2 0) = z_ := ⟨_, rfl⟩
        obtain ⟨V5, hV5⟩ : ∃ z_, zvu V2 4 n1 1 ((P4 0 3)) = z_ := ⟨_, rfl⟩
        have hGV5 : zVG V5 := by rw [← hV5]; exact zVG_u hGV2 (by decide) (by decide)
        by_cases hc12 : vko Q K (P4 0 0) = 18
        · obtain ⟨P6, hP6⟩ : ∃ z_, vat P4 = z_ := ⟨_, rfl⟩
          obtain ⟨r7, hr7⟩ : ∃ z_, vrst P6 V5 Q K n1 = z_ := ⟨_, rfl⟩
          have hGr722 : zVG r7.2.2 := by rw [← hr7]; exact vrst_G hGV5 hn1b _ _ _
          by_cases hc16 : r7.1 = 0
          · rw [show vrk P V Q K = vrkL Q K n1 399 1 0 r7.2.1 r7.2.2 from by subst hr7 hP6 hV5 hP4 hP3 hn1 hV2 hP1; unfold vrk; (try dsimp only); rw [if_pos hc0, if_pos hc6, if_pos hc8, if_pos hc12, if_pos hc16]]; exact vrkL_G _ _ hn1b _ _ _ _ _ hGr722
          · rw [show vrk P V Q K = vrkL Q K n1 399 1 1 r7.2.1 r7.2.2 from by subst hr7 hP6 hV5 hP4 hP3 hn1 hV2 hP1; unfold vrk; (try dsimp only); rw [if_pos hc0, if_pos hc6, if_pos hc8, if_pos hc12, if_neg hc16]]; exact vrkL_G _ _ hn1b _ _ _ _ _ hGr722
        · rw [show vrk P V Q K = vrkL Q K n1 399 1 0 P4 V5 from by subst hV5 hP4 hP3 hn1 hV2 hP1; unfold vrk; (try dsimp only); rw [if_pos hc0, if_pos hc6, if_pos hc8, if_neg hc12]]; exact vrkL_G _ _ hn1b _ _ _ _ _ hGV5
      · rw [show vrk P V Q K = (0, P3, V2) from by subst hP3 hn1 hV2 hP1; unfold vrk; (try dsimp only); rw [if_pos hc0, if_pos hc6, if_neg hc8]]; exact hGV2
    · rw [show vrk P V Q K = (0, P1, V2) from by subst hn1 hV2 hP1; unfold vrk; (try dsimp only); rw [if_pos hc0, if_neg hc6]]; exact hGV2
  · rw [show vrk P V Q K = (0, P, V) from by unfold vrk; (try dsimp only); rw [if_neg hc0]]; exact hG

def vrdT (P : zFn) (V : zV) (Q : zFn) (f : Int32) : Int32 × zFn × zV :=
  if f = 0 then
    let P1 := zup P 0 1 (1)
    let P2 := zup P1 0 2 ((vsta Q (P1 0 0)))
    ((P2 0 1), P2, V)
  else
    ((P 0 1), P, V)

theorem s_rdT {d c sl : Nat} {r w : Nat} {P Q J : zFn} {V : zV} {K : zKn} {μ : zM} (hC : zRC μ r w J Q K) {f : Int32} : zden1 (d + 9) (zden zcds (d + 9)) zc30 (158, [(2, .int (f)), (0, .ref (r + 0)), (1, .ref (w))], [], c, sl, zwi μ (zpc (zrl J r P) w V)) = some (0, some (.int ((vrdT P V Q f).1)), c, sl, zwi μ (zpc (zrl J r ((vrdT P V Q f).2.1)) w ((vrdT P V Q f).2.2))) := by
  refine (ys4 159 (v := .int (f)) rfl rfl rfl rfl).trans ?_
  refine ys17_1 162 rfl rfl (fun h159 => ?_) (fun h159 => ?_)
  · refine (ys4 163 (v := .ref (r + 0)) rfl rfl rfl rfl).trans ?_
    refine (ys1 164 (x := 1) rfl rfl rfl).trans ?_
    refine (yq 167 rfl (zFS.tag hC.1.1 (j := 0) (by decide) rfl) (zFS.k0 hC.1.1 (j := 0)) (zFS.ni hC.1.1 (j := 0) (by decide) rfl) (by decide) rfl (zrw_up (o := 0) (j := 0) (by decide) hC.2.2.1)).trans ?_
    generalize hP1 : zup P 0 1 (1) = P1
    refine (ys4 168 (v := .ref (r + 0)) rfl rfl rfl rfl).trans ?_
    refine (ys4 169 (v := .ref (r + 0)) rfl rfl rfl rfl).trans ?_
    refine (ygr 172 rfl (zFS.tag hC.1.1 (j := 0) (by decide) rfl) rfl hC.1.2.1).trans ?_
    refine (ys4 173 (v := .ref (r + 0)) rfl rfl rfl rfl).trans ?_
    refine (yg 176 rfl (zFS.tag hC.1.1 (j := 0) (by decide) rfl) (zFS.ni hC.1.1 (j := 0) (by decide) rfl) (by decide) rfl (zrw_at (o := 0) (j := 0) (by decide) hC.2.2.1)).trans ?_
    refine (yc2 179 rfl rfl (Nat.le_of_ble_eq_true rfl) (Or.inr (by show ztg (zwi _ _) _ = _; rw [ztg_wi]; exact (zFS.tag hC.1.2.2.2.2.2.1 (j := 0) (by decide) rfl))) rfl rfl (zlt (zrc_eq hC) (c_st hC.1.2.2.2.2.2))).trans ?_
    refine (yq 182 rfl (zFS.tag hC.1.1 (j := 0) (by decide) rfl) (zFS.k0 hC.1.1 (j := 0)) (zFS.ni hC.1.1 (j := 0) (by decide) rfl) (by decide) rfl (zrw_up (o := 0) (j := 0) (by decide) hC.2.2.1)).trans ?_
    generalize hP2 : zup P1 0 2 ((vsta Q (P1 0 0))) = P2
    refine (ys4 183 (v := .ref (r + 0)) rfl rfl rfl rfl).trans ?_
    refine (yg 186 rfl (zFS.tag hC.1.1 (j := 0) (by decide) rfl) (zFS.ni hC.1.1 (j := 0) (by decide) rfl) (by decide) rfl (zrw_at (o := 0) (j := 0) (by decide) hC.2.2.1)).trans ?_
    refine (ys36 rfl rfl).trans ?_
    rw [show vrdT P V Q f = ((P2 0 1), P2, V) from by subst hP2 hP1; unfold vrdT; (try dsimp only); rw [if_pos h159]]; (first | done | rfl)
  · refine (ys4 183 (v := .ref (r + 0)) rfl rfl rfl rfl).trans ?_
    refine (yg 186 rfl (zFS.tag hC.1.1 (j := 0) (by decide) rfl) (zFS.ni hC.1.1 (j := 0) (by decide) rfl) (by decide) rfl (zrw_at (o := 0) (j := 0) (by decide) hC.2.2.1)).trans ?_
    refine (ys36 rfl rfl).trans ?_
    rw [show vrdT P V Q f = ((P 0 1), P, V) from by unfold vrdT; (try dsimp only); rw [if_neg h159]]; (first | done | rfl)

def vrdL (Q : zFn) (K : zKn) : Nat → Nat → Int32 → zFn → zV → Int32 × zFn × zV
  | 0, i, f, P, V =>
    vrdT P V Q f
  | m + 1, i, f, P, V =>
    if f = 0 then
      vrdT P V Q f
    else
      if vko Q K (P 0 0) = 0 then
        vrdT P V Q f
      else
        if vko Q K (P 0 0) = 6 then
          let P1 := vat P
          let r2 := vrl P1 V Q K
          if r2.1 = 0 then
            vrdL Q K m (i + 1) 0 r2.2.1 r2.2.2
          else
            if vko Q K (r2.2.1 0 0) = 5 then
              let P3 := vat r2.2.1
              vrdL Q K m (i + 1) 1 P3 r2.2.2
            else
              vrdL Q K m (i + 1) 0 r2.2.1 r2.2.2
        else
          if vko Q K (P 0 0) = 10 then
            let P4 := vat P
            let r5 := vrp P4 V Q K
            if r5.1 = 0 then
              vrdL Q K m (i + 1) 0 r5.2.1 r5.2.2
            else
              if vko Q K (r5.2.1 0 0) = 5 then
                let P6 := vat r5.2.1
                vrdL Q K m (i + 1) 1 P6 r5.2.2
              else
                vrdL Q K m (i + 1) 0 r5.2.1 r5.2.2
          else
            if vko Q K (P 0 0) = 14 then
              let P7 := vat P
              let r8 := vrh P7 V Q K
              if r8.1 = 0 then
                vrdL Q K m (i + 1) 0 r8.2.1 r8.2.2
              else
                if vko Q K (r8.2.1 0 0) = 5 then
                  let P9 := vat r8.2.1
                  vrdL Q K m (i + 1) 1 P9 r8.2.2
                else
                  vrdL Q K m (i + 1) 0 r8.2.1 r8.2.2
            else
              if vko Q K (P 0 0) = 17 then
                let P10 := vat P
                let r11 := vrk P10 V Q K
                if r11.1 = 0 then
                  vrdL Q K m (i + 1) 0 r11.2.1 r11.2.2
                else
                  if vko Q K (r11.2.1 0 0) = 5 then
                    let P12 := vat r11.2.1
                    vrdL Q K m (i + 1) 1 P12 r11.2.2
                  else
                    vrdL Q K m (i + 1) 0 r11.2.1 r11.2.2
              else
                vrdL Q K m (i + 1) 0 P V

theorem l_rd {d c sl : Nat} {r w : Nat} {Q J : zFn} {K : zKn} {μ : zM} (hC : zRC μ r w J Q K) : ∀ (m i : Nat) (f : Int32) (P : zFn) (V : zV), zVG V → i + m = 400 → zden1 (d + 9) (zden zcds (d + 9)) zc30 (30, [(3, .int (nI i)), (2, .int (f)), (0, .ref (r + 0)), (1, .ref (w))], [], c, sl, zwi μ (zpc (zrl J r P) w V)) = some (0, some (.int ((vrdL Q K m i f P V).1)), c, sl, zwi μ (zpc (zrl J r ((vrdL Q K m i f P V).2.1)) w ((vrdL Q K m i f P V).2.2)))
  | 0, i, f, P, V, hG, e => by
    refine (ys4 31 (v := .int (nI i)) rfl rfl rfl rfl).trans ?_
    refine (ys1 34 (x := nI 400) rfl rfl rfl).trans ?_
    refine ys18_3 37 rfl rfl (fun h34 => ?_) (fun h34 => absurd (nI_le (by omega) (by omega)) h34)
    rw [show vrdL Q K 0 i f P V = vrdT P V Q f from by rw [vrdL]; (try dsimp only); first | done | rfl]; refine zden1_fg (L := [(2, .int (f)), (0, .ref (r + 0)), (1, .ref (w))]) (zfg_cons rfl (zfg_cons rfl (zfg_cons rfl zfg_nil))) ?_; exact s_rdT hC
  | m + 1, i, f, P, V, hG, e => by
    refine (ys4 31 (v := .int (nI i)) rfl rfl rfl rfl).trans ?_
    refine (ys1 34 (x := nI 400) rfl rfl rfl).trans ?_
    refine ys18_3 37 rfl rfl (fun h34 => absurd h34 (nI_ge (by omega) (by omega))) (fun h34 => ?_)
    refine (ys4 38 (v := .int (f)) rfl rfl rfl rfl).trans ?_
    refine ys17_0 41 rfl rfl (fun h38 => ?_) (fun h38 => ?_)
    · rw [show vrdL Q K (m + 1) i f P V = vrdT P V Q f from by rw [vrdL]; (try dsimp only); rw [if_pos h38]]; refine zden1_fg (L := [(2, .int (f)), (0, .ref (r + 0)), (1, .ref (w))]) (zfg_cons rfl (zfg_cons rfl (zfg_cons rfl zfg_nil))) ?_; exact s_rdT hC
    · refine (ys4 42 (v := .ref (r + 0)) rfl rfl rfl rfl).trans ?_
      refine (ys25 45 rfl (v := .ref (0)) rfl rfl).trans ?_
      by_cases h45 : vko Q K (P 0 0) = 0
      · refine (yc2 48 rfl rfl (Nat.le_of_ble_eq_true rfl) (Or.inr (by show ztg (zwi _ _) _ = _; rw [ztg_wi]; exact (zFS.tag hC.1.1 (j := 0) (by decide) rfl))) rfl rfl (c_nx1 hC (by decide) h45)).trans ?_
        refine ys17_1 51 rfl rfl (fun h48 => absurd h48 (by decide)) (fun h48 => ?_)
        rw [show vrdL Q K (m + 1) i f P V = vrdT P V Q f from by rw [vrdL]; (try dsimp only); rw [if_neg h38, if_pos h45]]; refine zden1_fg (L := [(2, .int (f)), (0, .ref (r + 0)), (1, .ref (w))]) (zfg_cons rfl (zfg_cons rfl (zfg_cons rfl zfg_nil))) ?_; exact s_rdT hC
      · refine (yc2 48 rfl rfl (Nat.le_of_ble_eq_true rfl) (Or.inr (by show ztg (zwi _ _) _ = _; rw [ztg_wi]; exact (zFS.tag hC.1.1 (j := 0) (by decide) rfl))) rfl rfl (c_nx0 hC (by decide) h45)).trans ?_
        refine ys17_1 51 rfl rfl (fun h48 => ?_) (fun h48 => absurd (by decide) h48)
        refine (ys4 52 (v := .ref (r + 0)) rfl rfl rfl rfl).trans ?_
        refine (ys25 55 rfl (v := .ref (6)) rfl rfl).trans ?_
        by_cases h55 : vko Q K (P 0 0) = 6
        · refine (yc2 58 rfl rfl (Nat.le_of_ble_eq_true rfl) (Or.inr (by show ztg (zwi _ _) _ = _; rw [ztg_wi]; exact (zFS.tag hC.1.1 (j := 0) (by decide) rfl))) rfl rfl (c_ac1 hC (by decide) h55)).trans ?_
          generalize hP1 : vat P = P1
          refine ys17_0 61 rfl rfl (fun h58 => absurd h58 (by decide)) (fun h58 => ?_)
          refine (ys4 62 (v := .ref (r + 0)) rfl rfl rfl rfl).trans ?_
          refine (ys4 63 (v := .ref (w)) rfl rfl rfl rfl).trans ?_
          refine (yc2 66 rfl rfl (Nat.le_of_ble_eq_true rfl) (Or.inr (by show ztg (zwi _ _) _ = _; rw [ztg_wi]; exact (zFS.tag hC.1.1 (j := 0) (by decide) rfl))) rfl rfl (c_rl hC hG)).trans ?_
          generalize hr2 : vrl P1 V Q K = r2
          have hGr222 : zVG r2.2.2 := by rw [← hr2]; exact vrl_G hG _ _ _
          refine (ys5 67 (L2 := [(2, .int (r2.1)), (3, .int (nI i)), (0, .ref (r + 0)), (1, .ref (w))]) rfl rfl rfl rfl).trans ?_
          refine (ys19 rfl).trans ?_
          refine (ys4 133 (v := .int (r2.1)) rfl rfl rfl rfl).trans ?_
          refine ys17_0 136 rfl rfl (fun h133 => ?_) (fun h133 => ?_)
          · refine (ys1 151 (x := 0) rfl rfl rfl).trans ?_
            refine (ys5 152 (L2 := [(2, .int (0)), (3, .int (nI i)), (0, .ref (r + 0)), (1, .ref (w))]) rfl rfl rfl rfl).trans ?_
            refine (ys6 155 (y := nI (i + 1)) (L2 := [(3, .int (nI (i + 1))), (2, .int (0)), (0, .ref (r + 0)), (1, .ref (w))]) rfl rfl (nI_1 _) rfl rfl).trans ?_
            refine (ys19 rfl).trans ?_
            rw [show vrdL Q K (m + 1) i f P V = vrdL Q K m (i + 1) 0 r2.2.1 r2.2.2 from by subst hr2 hP1; rw [vrdL]; (try dsimp only); rw [if_neg h38, if_neg h45, if_pos h55, if_pos h133]]; exact l_rd hC m (i + 1) 0 r2.2.1 r2.2.2 hGr222 (by omega)
          · refine (ys4 137 (v := .ref (r + 0)) rfl rfl rfl rfl).trans ?_
            refine (ys25 140 rfl (v := .ref (5)) rfl rfl).trans ?_
            by_cases h140 : vko Q K (r2.2.1 0 0) = 5
            · refine (yc2 143 rfl rfl (Nat.le_of_ble_eq_true rfl) (Or.inr (by show ztg (zwi _ _) _ = _; rw [ztg_wi]; exact (zFS.tag hC.1.1 (j := 0) (by decide) rfl))) rfl rfl (c_ac1 hC (by decide) h140)).trans ?_
              generalize hP3 : vat r2.2.1 = P3
              refine ys17_0 146 rfl rfl (fun h143 => absurd h143 (by decide)) (fun h143 => ?_)
              refine (ys1 147 (x := 1) rfl rfl rfl).trans ?_
              refine (ys19 rfl).trans ?_
              refine (ys5 152 (L2 := [(2, .int (1)), (3, .int (nI i)), (0, .ref (r + 0)), (1, .ref (w))]) rfl rfl rfl rfl).trans ?_
              refine (ys6 155 (y := nI (i + 1)) (L2 := [(3, .int (nI (i + 1))), (2, .int (1)), (0, .ref (r + 0)), (1, .ref (w))]) rfl rfl (nI_1 _) rfl rfl).trans ?_
              refine (ys19 rfl).trans ?_
              rw [show vrdL Q K (m + 1) i f P V = vrdL Q K m (i + 1) 1 P3 r2.2.2 from by subst hP3 hr2 hP1; rw [vrdL]; (try dsimp only); rw [if_neg h38, if_neg h45, if_pos h55, if_neg h133, if_pos h140]]; exact l_rd hC m (i + 1) 1 P3 r2.2.2 hGr222 (by omega)
            · refine (yc2 143 rfl rfl (Nat.le_of_ble_eq_true rfl) (Or.inr (by show ztg (zwi _ _) _ = _; rw [ztg_wi]; exact (zFS.tag hC.1.1 (j := 0) (by decide) rfl))) rfl rfl (c_ac0 hC (by decide) h140)).trans ?_
              refine ys17_0 146 rfl rfl (fun h143 => ?_) (fun h143 => absurd (by decide) h143)
              refine (ys1 151 (x := 0) rfl rfl rfl).trans ?_
              refine (ys5 152 (L2 := [(2, .int (0)), (3, .int (nI i)), (0, .ref (r + 0)), (1, .ref (w))]) rfl rfl rfl rfl).trans ?_
              refine (ys6 155 (y := nI (i + 1)) (L2 := [(3, .int (nI (i + 1))), (2, .int (0)), (0, .ref (r + 0)), (1, .ref (w))]) rfl rfl (nI_1 _) rfl rfl).trans ?_
              refine (ys19 rfl).trans ?_
              rw [show vrdL Q K (m + 1) i f P V = vrdL Q K m (i + 1) 0 r2.2.1 r2.2.2 from by subst hr2 hP1; rw [vrdL]; (try dsimp only); rw [if_neg h38, if_neg h45, if_pos h55, if_neg h133, if_neg h140]]; exact l_rd hC m (i + 1) 0 r2.2.1 r2.2.2 hGr222 (by omega)
        · refine (yc2 58 rfl rfl (Nat.le_of_ble_eq_true rfl) (Or.inr (by show ztg (zwi _ _) _ = _; rw [ztg_wi]; exact (zFS.tag hC.1.1 (j := 0) (by decide) rfl))) rfl rfl (c_ac0 hC (by decide) h55)).trans ?_
          refine ys17_0 61 rfl rfl (fun h58 => ?_) (fun h58 => absurd (by decide) h58)
          refine (ys4 71 (v := .ref (r + 0)) rfl rfl rfl rfl).trans ?_
          refine (ys25 74 rfl (v := .ref (10)) rfl rfl).trans ?_
          by_cases h74 : vko Q K (P 0 0) = 10
          · refine (yc2 77 rfl rfl (Nat.le_of_ble_eq_true rfl) (Or.inr (by show ztg (zwi _ _) _ = _; rw [ztg_wi]; exact (zFS.tag hC.1.1 (j := 0) (by decide) rfl))) rfl rfl (c_ac1 hC (by decide) h74)).trans ?_
            generalize hP4 : vat P = P4
            refine ys17_0 80 rfl rfl (fun h77 => absurd h77 (by decide)) (fun h77 => ?_)
            refine (ys4 81 (v := .ref (r + 0)) rfl rfl rfl rfl).trans ?_
            refine (ys4 82 (v := .ref (w)) rfl rfl rfl rfl).trans ?_
            refine (yc2 85 rfl rfl (Nat.le_of_ble_eq_true rfl) (Or.inr (by show ztg (zwi _ _) _ = _; rw [ztg_wi]; exact (zFS.tag hC.1.1 (j := 0) (by decide) rfl))) rfl rfl (c_rp hC hG)).trans ?_
            generalize hr5 : vrp P4 V Q K = r5
            have hGr522 : zVG r5.2.2 := by rw [← hr5]; exact vrp_G hG _ _ _
            refine (ys5 86 (L2 := [(2, .int (r5.1)), (3, .int (nI i)), (0, .ref (r + 0)), (1, .ref (w))]) rfl rfl rfl rfl).trans ?_
            refine (ys19 rfl).trans ?_
            refine (ys4 133 (v := .int (r5.1)) rfl rfl rfl rfl).trans ?_
            refine ys17_0 136 rfl rfl (fun h133 => ?_) (fun h133 => ?_)
            · refine (ys1 151 (x := 0) rfl rfl rfl).trans ?_
              refine (ys5 152 (L2 := [(2, .int (0)), (3, .int (nI i)), (0, .ref (r + 0)), (1, .ref (w))]) rfl rfl rfl rfl).trans ?_
              refine (ys6 155 (y := nI (i + 1)) (L2 := [(3, .int (nI (i + 1))), (2, .int (0)), (0, .ref (r + 0)), (1, .ref (w))]) rfl rfl (nI_1 _) rfl rfl).trans ?_
              refine (ys19 rfl).trans ?_
              rw [show vrdL Q K (m + 1) i f P V = vrdL Q K m (i + 1) 0 r5.2.1 r5.2.2 from by subst hr5 hP4; rw [vrdL]; (try dsimp only); rw [if_neg h38, if_neg h45, if_neg h55, if_pos h74, if_pos h133]]; exact l_rd hC m (i + 1) 0 r5.2.1 r5.2.2 hGr522 (by omega)
            · refine (ys4 137 (v := .ref (r + 0)) rfl rfl rfl rfl).trans ?_
              refine (ys25 140 rfl (v := .ref (5)) rfl rfl).trans ?_
              by_cases h140 : vko Q K (r5.2.1 0 0) = 5
              · refine (yc2 143 rfl rfl (Nat.le_of_ble_eq_true rfl) (Or.inr (by show ztg (zwi _ _) _ = _; rw [ztg_wi]; exact (zFS.tag hC.1.1 (j := 0) (by decide) rfl))) rfl rfl (c_ac1 hC (by decide) h140)).trans ?_
                generalize hP6 : vat r5.2.1 = P6
                refine ys17_0 146 rfl rfl (fun h143 => absurd h143 (by decide)) (fun h143 => ?_)
                refine (ys1 147 (x := 1) rfl rfl rfl).trans ?_
                refine (ys19 rfl).trans ?_
                refine (ys5 152 (L2 := [(2, .int (1)), (3, .int (nI i)), (0, .ref (r + 0)), (1, .ref (w))]) rfl rfl rfl rfl).trans ?_
                refine (ys6 155 (y := nI (i + 1)) (L2 := [(3, .int (nI (i + 1))), (2, .int (1)), (0, .ref (r + 0)), (1, .ref (w))]) rfl rfl (nI_1 _) rfl rfl).trans ?_
                refine (ys19 rfl).trans ?_
                rw [show vrdL Q K (m + 1) i f P V = vrdL Q K m (i + 1) 1 P6 r5.2.2 from by subst hP6 hr5 hP4; rw [vrdL]; (try dsimp only); rw [if_neg h38, if_neg h45, if_neg h55, if_pos h74, if_neg h133, if_pos h140]]; exact l_rd hC m (i + 1) 1 P6 r5.2.2 hGr522 (by omega)
              · refine (yc2 143 rfl rfl (Nat.le_of_ble_eq_true rfl) (Or.inr (by show ztg (zwi _ _) _ = _; rw [ztg_wi]; exact (zFS.tag hC.1.1 (j := 0) (by decide) rfl))) rfl rfl (c_ac0 hC (by decide) h140)).trans ?_
                refine ys17_0 146 rfl rfl (fun h143 => ?_) (fun h143 => absurd (by decide) h143)
                refine (ys1 151 (x := 0) rfl rfl rfl).trans ?_
                refine (ys5 152 (L2 := [(2, .int (0)), (3, .int (nI i)), (0, .ref (r + 0)), (1, .ref (w))]) rfl rfl rfl rfl).trans ?_
                refine (ys6 155 (y := nI (i + 1)) (L2 := [(3, .int (nI (i + 1))), (2, .int (0)), (0, .ref (r + 0)), (1, .ref (w))]) rfl rfl (nI_1 _) rfl rfl).trans ?_
                refine (ys19 rfl).trans ?_
                rw [show vrdL Q K (m + 1) i f P V = vrdL Q K m (i + 1) 0 r5.2.1 r5.2.2 from by subst hr5 hP4; rw [vrdL]; (try dsimp only); rw [if_neg h38, if_neg h45, if_neg h55, if_pos h74, if_neg h133, if_neg h140]]; exact l_rd hC m (i + 1) 0 r5.2.1 r5.2.2 hGr522 (by omega)
          · refine (yc2 77 rfl rfl (Nat.le_of_ble_eq_true rfl) (Or.inr (by show ztg (zwi _ _) _ = _; rw [ztg_wi]; exact (zFS.tag hC.1.1 (j := 0) (by decide) rfl))) rfl rfl (c_ac0 hC (by decide) h74)).trans ?_
            refine ys17_0 80 rfl rfl (fun h77 => ?_) (fun h77 => absurd (by decide) h77)
            refine (ys4 90 (v := .ref (r + 0)) rfl rfl rfl rfl).trans ?_
            refine (ys25 93 rfl (v := .ref (14)) rfl rfl).trans ?_
            by_cases h93 : vko Q K (P 0 0) = 14
            · refine (yc2 96 rfl rfl (Nat.le_of_ble_eq_true rfl) (Or.inr (by show ztg (zwi _ _) _ = _; rw [ztg_wi]; exact (zFS.tag hC.1.1 (j := 0) (by decide) rfl))) rfl rfl (c_ac1 hC (by decide) h93)).trans ?_
              generalize hP7 : vat P = P7
              refine ys17_0 99 rfl rfl (fun h96 => absurd h96 (by decide)) (fun h96 => ?_)
              refine (ys4 100 (v := .ref (r + 0)) rfl rfl rfl rfl).trans ?_
              refine (ys4 101 (v := .ref (w)) rfl rfl rfl rfl).trans ?_
              refine (yc2 104 rfl rfl (Nat.le_of_ble_eq_true rfl) (Or.inr (by show ztg (zwi _ _) _ = _; rw [ztg_wi]; exact (zFS.tag hC.1.1 (j := 0) (by decide) rfl))) rfl rfl (c_rh hC hG)).trans ?_
              generalize hr8 : vrh P7 V Q K = r8
              have hGr822 : zVG r8.2.2 := by rw [← hr8]; exact vrh_G hG _ _ _
              refine (ys5 105 (L2 := [(2, .int (r8.1)), (3, .int (nI i)), (0, .ref (r + 0)), (1, .ref (w))]) rfl rfl rfl rfl).trans ?_
              refine (ys19 rfl).trans ?_
              refine (ys4 133 (v := .int (r8.1)) rfl rfl rfl rfl).trans ?_
              refine ys17_0 136 rfl rfl (fun h133 => ?_) (fun h133 => ?_)
              · refine (ys1 151 (x := 0) rfl rfl rfl).trans ?_
                refine (ys5 152 (L2 := [(2, .int (0)), (3, .int (nI i)), (0, .ref (r + 0)), (1, .ref (w))]) rfl rfl rfl rfl).trans ?_
                refine (ys6 155 (y := nI (i + 1)) (L2 := [(3, .int (nI (i + 1))), (2, .int (0)), (0, .ref (r + 0)), (1, .ref (w))]) rfl rfl (nI_1 _) rfl rfl).trans ?_
                refine (ys19 rfl).trans ?_
                rw [show vrdL Q K (m + 1) i f P V = vrdL Q K m (i + 1) 0 r8.2.1 r8.2.2 from by subst hr8 hP7; rw [vrdL]; (try dsimp only); rw [if_neg h38, if_neg h45, if_neg h55, if_neg h74, if_pos h93, if_pos h133]]; exact l_rd hC m (i + 1) 0 r8.2.1 r8.2.2 hGr822 (by omega)
              · refine (ys4 137 (v := .ref (r + 0)) rfl rfl rfl rfl).trans ?_
                refine (ys25 140 rfl (v := .ref (5)) rfl rfl).trans ?_
                by_cases h140 : vko Q K (r8.2.1 0 0) = 5
                · refine (yc2 143 rfl rfl (Nat.le_of_ble_eq_true rfl) (Or.inr (by show ztg (zwi _ _) _ = _; rw [ztg_wi]; exact (zFS.tag hC.1.1 (j := 0) (by decide) rfl))) rfl rfl (c_ac1 hC (by decide) h140)).trans ?_
                  generalize hP9 : vat r8.2.1 = P9
                  refine ys17_0 146 rfl rfl (fun h143 => absurd h143 (by decide)) (fun h143 => ?_)
                  refine (ys1 147 (x := 1) rfl rfl rfl).trans ?_
                  refine (ys19 rfl).trans ?_
                  refine (ys5 152 (L2 := [(2, .int (1)), (3, .int (nI i)), (0, .ref (r + 0)), (1, .ref (w))]) rfl rfl rfl rfl).trans ?_
                  refine (ys6 155 (y := nI (i + 1)) (L2 := [(3, .int (nI (i + 1))), (2, .int (1)), (0, .ref (r + 0)), (1, .ref (w))]) rfl rfl (nI_1 _) rfl rfl).trans ?_
                  refine (ys19 rfl).trans ?_
                  rw [show vrdL Q K (m + 1) i f P V = vrdL Q K m (i + 1) 1 P9 r8.2.2 from by subst hP9 hr8 hP7; rw [vrdL]; (try dsimp only); rw [if_neg h38, if_neg h45, if_neg h55, if_neg h74, if_pos h93, if_neg h133, if_pos h140]]; exact l_rd hC m (i + 1) 1 P9 r8.2.2 hGr822 (by omega)
                · refine (yc2 143 rfl rfl (Nat.le_of_ble_eq_true rfl) (Or.inr (by show ztg (zwi _ _) _ = _; rw [ztg_wi]; exact (zFS.tag hC.1.1 (j := 0) (by decide) rfl))) rfl rfl (c_ac0 hC (by decide) h140)).trans ?_
                  refine ys17_0 146 rfl rfl (fun h143 => ?_) (fun h143 => absurd (by decide) h143)
                  refine (ys1 151 (x := 0) rfl rfl rfl).trans ?_
                  refine (ys5 152 (L2 := [(2, .int (0)), (3, .int (nI i)), (0, .ref (r + 0)), (1, .ref (w))]) rfl rfl rfl rfl).trans ?_
                  refine (ys6 155 (y := nI (i + 1)) (L2 := [(3, .int (nI (i + 1))), (2, .int (0)), (0, .ref (r + 0)), (1, .ref (w))]) rfl rfl (nI_1 _) rfl rfl).trans ?_
                  refine (ys19 rfl).trans ?_
                  rw [show vrdL Q K (m + 1) i f P V = vrdL Q K m (i + 1) 0 r8.2.1 r8.2.2 from by subst hr8 hP7; rw [vrdL]; (try dsimp only); rw [if_neg h38, if_neg h45, if_neg h55, if_neg h74, if_pos h93, if_neg h133, if_neg h140]]; exact l_rd hC m (i + 1) 0 r8.2.1 r8.2.2 hGr822 (by omega)
            · refine (yc2 96 rfl rfl (Nat.le_of_ble_eq_true rfl) (Or.inr (by show ztg (zwi _ _) _ = _; rw [ztg_wi]; exact (zFS.tag hC.1.1 (j := 0) (by decide) rfl))) rfl rfl (c_ac0 hC (by decide) h93)).trans ?_
              refine ys17_0 99 rfl rfl (fun h96 => ?_) (fun h96 => absurd (by decide) h96)
              refine (ys4 109 (v := .ref (r + 0)) rfl rfl rfl rfl).trans ?_
              refine (ys25 112 rfl (v := .ref (17)) rfl rfl).trans ?_
              by_cases h112 : vko Q K (P 0 0) = 17
              · refine (yc2 115 rfl rfl (Nat.le_of_ble_eq_true rfl) (Or.inr (by show ztg (zwi _ _) _ = _; rw [ztg_wi]; exact (zFS.tag hC.1.1 (j := 0) (by decide) rfl))) rfl rfl (c_ac1 hC (by decide) h112)).trans ?_
                generalize hP10 : vat P = P10
                refine ys17_0 118 rfl rfl (fun h115 => absurd h115 (by decide)) (fun h115 => ?_)
                refine (ys4 119 (v := .ref (r + 0)) rfl rfl rfl rfl).trans ?_
                refine (ys4 120 (v := .ref (w)) rfl rfl rfl rfl).trans ?_
                refine (yc2 123 rfl rfl (Nat.le_of_ble_eq_true rfl) (Or.inr (by show ztg (zwi _ _) _ = _; rw [ztg_wi]; exact (zFS.tag hC.1.1 (j := 0) (by decide) rfl))) rfl rfl (c_rk hC hG)).trans ?_
                generalize hr11 : vrk P10 V Q K = r11
                have hGr1122 : zVG r11.2.2 := by rw [← hr11]; exact vrk_G hG _ _ _
                refine ys17_0 126 rfl rfl (fun h123 => ?_) (fun h123 => ?_)
                · refine (ys1 131 (x := 0) rfl rfl rfl).trans ?_
                  refine (ys5 132 (L2 := [(2, .int (0)), (3, .int (nI i)), (0, .ref (r + 0)), (1, .ref (w))]) rfl rfl rfl rfl).trans ?_
                  refine (ys4 133 (v := .int (0)) rfl rfl rfl rfl).trans ?_
                  refine ys17_0 136 rfl rfl (fun h133 => ?_) (fun h133 => absurd (by decide) h133)
                  refine (ys1 151 (x := 0) rfl rfl rfl).trans ?_
                  refine (ys5 152 (L2 := [(2, .int (0)), (3, .int (nI i)), (0, .ref (r + 0)), (1, .ref (w))]) rfl rfl rfl rfl).trans ?_
                  refine (ys6 155 (y := nI (i + 1)) (L2 := [(3, .int (nI (i + 1))), (2, .int (0)), (0, .ref (r + 0)), (1, .ref (w))]) rfl rfl (nI_1 _) rfl rfl).trans ?_
                  refine (ys19 rfl).trans ?_
                  rw [show vrdL Q K (m + 1) i f P V = vrdL Q K m (i + 1) 0 r11.2.1 r11.2.2 from by subst hr11 hP10; rw [vrdL]; (try dsimp only); rw [if_neg h38, if_neg h45, if_neg h55, if_neg h74, if_neg h93, if_pos h112, if_pos h123]]; exact l_rd hC m (i + 1) 0 r11.2.1 r11.2.2 hGr1122 (by omega)
                · refine (ys1 127 (x := 1) rfl rfl rfl).trans ?_
                  refine (ys19 rfl).trans ?_
                  refine (ys5 132 (L2 := [(2, .int (1)), (3, .int (nI i)), (0, .ref (r + 0)), (1, .ref (w))]) rfl rfl rfl rfl).trans ?_
                  refine (ys4 133 (v := .int (1)) rfl rfl rfl rfl).trans ?_
                  refine ys17_0 136 rfl rfl (fun h133 => absurd h133 (by decide)) (fun h133 => ?_)
                  refine (ys4 137 (v := .ref (r + 0)) rfl rfl rfl rfl).trans ?_
                  refine (ys25 140 rfl (v := .ref (5)) rfl rfl).trans ?_
                  by_cases h140 : vko Q K (r11.2.1 0 0) = 5
                  · refine (yc2 143 rfl rfl (Nat.le_of_ble_eq_true rfl) (Or.inr (by show ztg (zwi _ _) _ = _; rw [ztg_wi]; exact (zFS.tag hC.1.1 (j := 0) (by decide) rfl))) rfl rfl (c_ac1 hC (by decide) h140)).trans ?_
                    generalize hP12 : vat r11.2.1 = P12
                    refine ys17_0 146 rfl rfl (fun h143 => absurd h143 (by decide)) (fun h143 => ?_)
                    refine (ys1 147 (x := 1) rfl rfl rfl).trans ?_
                    refine (ys19 rfl).trans ?_
                    refine (ys5 152 (L2 := [(2, .int (1)), (3, .int (nI i)), (0, .ref (r + 0)), (1, .ref (w))]) rfl rfl rfl rfl).trans ?_
                    refine (ys6 155 (y := nI (i + 1)) (L2 := [(3, .int (nI (i + 1))), (2, .int (1)), (0, .ref (r + 0)), (1, .ref (w))]) rfl rfl (nI_1 _) rfl rfl).trans ?_
                    refine (ys19 rfl).trans ?_
                    rw [show vrdL Q K (m + 1) i f P V = vrdL Q K m (i + 1) 1 P12 r11.2.2 from by subst hP12 hr11 hP10; rw [vrdL]; (try dsimp only); rw [if_neg h38, if_neg h45, if_neg h55, if_neg h74, if_neg h93, if_pos h112, if_neg h123, if_pos h140]]; exact l_rd hC m (i + 1) 1 P12 r11.2.2 hGr1122 (by omega)
                  · refine (yc2 143 rfl rfl (Nat.le_of_ble_eq_true rfl) (Or.inr (by show ztg (zwi _ _) _ = _; rw [ztg_wi]; exact (zFS.tag hC.1.1 (j := 0) (by decide) rfl))) rfl rfl (c_ac0 hC (by decide) h140)).trans ?_
                    refine ys17_0 146 rfl rfl (fun h143 => ?_) (fun h143 => absurd (by decide) h143)
                    refine (ys1 151 (x := 0) rfl rfl rfl).trans ?_
                    refine (ys5 152 (L2 := [(2, .int (0)), (3, .int (nI i)), (0, .ref (r + 0)), (1, .ref (w))]) rfl rfl rfl rfl).trans ?_
                    refine (ys6 155 (y := nI (i + 1)) (L2 := [(3, .int (nI (i + 1))), (2, .int (0)), (0, .ref (r + 0)), (1, .ref (w))]) rfl rfl (nI_1 _) rfl rfl).trans ?_
                    refine (ys19 rfl).trans ?_
                    rw [show vrdL Q K (m + 1) i f P V = vrdL Q K m (i + 1) 0 r11.2.1 r11.2.2 from by subst hr11 hP10; rw [vrdL]; (try dsimp only); rw [if_neg h38, if_neg h45, if_neg h55, if_neg h74, if_neg h93, if_pos h112, if_neg h123, if_neg h140]]; exact l_rd hC m (i + 1) 0 r11.2.1 r11.2.2 hGr1122 (by omega)
              · refine (yc2 115 rfl rfl (Nat.le_of_ble_eq_true rfl) (Or.inr (by show ztg (zwi _ _) _ = _; rw [ztg_wi]; exact (zFS.tag hC.1.1 (j := 0) (by decide) rfl))) rfl rfl (c_ac0 hC (by decide) h112)).trans ?_
                refine ys17_0 118 rfl rfl (fun h115 => ?_) (fun h115 => absurd (by decide) h115)
                refine (ys1 131 (x := 0) rfl rfl rfl).trans ?_
                refine (ys5 132 (L2 := [(2, .int (0)), (3, .int (nI i)), (0, .ref (r + 0)), (1, .ref (w))]) rfl rfl rfl rfl).trans ?_
                refine (ys4 133 (v := .int (0)) rfl rfl rfl rfl).trans ?_
                refine ys17_0 136 rfl rfl (fun h133 => ?_) (fun h133 => absurd (by decide) h133)
                refine (ys1 151 (x := 0) rfl rfl rfl).trans ?_
                refine (ys5 152 (L2 := [(2, .int (0)), (3, .int (nI i)), (0, .ref (r + 0)), (1, .ref (w))]) rfl rfl rfl rfl).trans ?_
                refine (ys6 155 (y := nI (i + 1)) (L2 := [(3, .int (nI (i + 1))), (2, .int (0)), (0, .ref (r + 0)), (1, .ref (w))]) rfl rfl (nI_1 _) rfl rfl).trans ?_
                refine (ys19 rfl).trans ?_
                rw [show vrdL Q K (m + 1) i f P V = vrdL Q K m (i + 1) 0 P V from by rw [vrdL]; (try dsimp only); rw [if_neg h38, if_neg h45, if_neg h55, if_neg h74, if_neg h93, if_neg h112]]; exact l_rd hC m (i + 1) 0 P V hG (by omega)

theorem vclW_G {V : zV} (h : zSZ V) : zVG (vclW V) := by
  have e : ∀ f, f < 4 → vclW V 0 0 f = nI 0 := fun f hf => by
    match f, hf with
    | 0, _ => simp [vclW, zvu]; rfl
    | 1, _ => simp [vclW, zvu]; rfl
    | 2, _ => simp [vclW, zvu]; rfl
    | 3, _ => simp [vclW, zvu]; rfl
  refine ⟨zcn_of (e 0 (by decide)) (by decide) (e 1 (by decide)) (by decide) (e 2 (by decide)) (by decide) (e 3 (by decide)) (by decide), zSZ_cg h (fun k j => ?_)⟩
  simp [vclW, zvu]

def vrd (P : zFn) (V : zV) (Q : zFn) (K : zKn) : Int32 × zFn × zV :=
  let V1 := vclW V
  let P2 := zup P 0 0 (0)
  let P3 := zup P2 0 1 (0)
  let P4 := zup P3 0 2 ((-1))
  vrdL Q K 400 0 1 P4 V1

theorem s_rd {d c sl : Nat} {r w : Nat} {P Q J : zFn} {V : zV} {K : zKn} {μ : zM} (hC : zRC μ r w J Q K) (hSZ : zSZ V) : zden1 (d + 9) (zden zcds (d + 9)) zc30 (7, [(0, .ref (r + 0)), (1, .ref (w))], [], c, sl, zwi μ (zpc (zrl J r P) w V)) = some (0, some (.int ((vrd P V Q K).1)), c, sl, zwi μ (zpc (zrl J r ((vrd P V Q K).2.1)) w ((vrd P V Q K).2.2))) := by
  refine (ys4 8 (v := .ref (w)) rfl rfl rfl rfl).trans ?_
  refine (yc1 11 rfl rfl (Nat.le_of_ble_eq_true rfl) (Or.inr (by show ztg (zwi _ _) _ = _; rw [ztg_wi]; exact (zWS.tag hC.2.1 (o := 0) (by decide) rfl))) rfl rfl (c_clW hC.2.1)).trans ?_
  generalize hV1 : vclW V = V1
  have hGV1 : zVG V1 := by rw [← hV1]; exact vclW_G hSZ
  refine (ys4 12 (v := .ref (r + 0)) rfl rfl rfl rfl).trans ?_
  refine (ys1 13 (x := 0) rfl rfl rfl).trans ?_
  refine (yq 16 rfl (zFS.tag hC.1.1 (j := 0) (by decide) rfl) (zFS.k0 hC.1.1 (j := 0)) (zFS.ni hC.1.1 (j := 0) (by decide) rfl) (by decide) rfl (zrw_up (o := 0) (j := 0) (by decide) hC.2.2.1)).trans ?_
  generalize hP2 : zup P 0 0 (0) = P2
  refine (ys4 17 (v := .ref (r + 0)) rfl rfl rfl rfl).trans ?_
  refine (ys1 18 (x := 0) rfl rfl rfl).trans ?_
  refine (yq 21 rfl (zFS.tag hC.1.1 (j := 0) (by decide) rfl) (zFS.k0 hC.1.1 (j := 0)) (zFS.ni hC.1.1 (j := 0) (by decide) rfl) (by decide) rfl (zrw_up (o := 0) (j := 0) (by decide) hC.2.2.1)).trans ?_
  generalize hP3 : zup P2 0 1 (0) = P3
  refine (ys4 22 (v := .ref (r + 0)) rfl rfl rfl rfl).trans ?_
  refine (ys1 23 (x := (-1)) rfl rfl rfl).trans ?_
  refine (yq 26 rfl (zFS.tag hC.1.1 (j := 0) (by decide) rfl) (zFS.k0 hC.1.1 (j := 0)) (zFS.ni hC.1.1 (j := 0) (by decide) rfl) (by decide) rfl (zrw_up (o := 0) (j := 0) (by decide) hC.2.2.1)).trans ?_
  generalize hP4 : zup P3 0 2 ((-1)) = P4
  refine (ys1 27 (x := 1) rfl rfl rfl).trans ?_
  refine (ys5 28 (L2 := [(2, .int (1)), (0, .ref (r + 0)), (1, .ref (w))]) rfl rfl rfl rfl).trans ?_
  refine (ys1 29 (x := nI 0) rfl rfl rfl).trans ?_
  refine (ys5 30 (L2 := [(3, .int (nI 0)), (2, .int (1)), (0, .ref (r + 0)), (1, .ref (w))]) rfl rfl rfl rfl).trans ?_
  rw [show vrd P V Q K = vrdL Q K 400 0 1 P4 V1 from by subst hP4 hP3 hP2 hV1; unfold vrd; rfl]; exact l_rd hC 400 0 1 _ _ hGV1 (by omega)

