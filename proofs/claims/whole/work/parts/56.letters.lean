/-! LETTERS SENT -/
def vslL : Nat → Nat → zV → zV
  | 0, _, V => V
  | m + 1, i, V => if varr V i = 0 then vslL m (i + 1) (vsdL i (nI i) (vN V i) 0 V) else vslL m (i + 1) V
theorem zSm_slL : ∀ (m i : Nat) (V : zV), zSm V (vslL m i V)
  | 0, _, V => zSm.rf V
  | m + 1, i, V => by
    rw [vslL]
    split
    · exact (zSm_sdL _ _ _ _ _).tr (zSm_slL m (i + 1) _)
    · exact zSm_slL m (i + 1) V

theorem l_sl {d c sl : Nat} {w : Nat} {J : Nat → Nat → Int32} {μ : zM} (hW : zWS μ w) {nl np nh nk : Nat} : ∀ (m i : Nat) (V : zV), zWF V nl np nh nk → i + m = nk → zden1 (d + 4) (zden zcds (d + 4)) zc93 (2, [(1, .int (nI i)), (0, .ref (w))], [], c, sl, zwi μ (zpc J w V)) = some (0, none, c, sl, zwi μ (zpc J w (vslL m i V)))
  | 0, i, V, hF, h => by
    have hn := hF.2.2.2.2.2.2.2.1
    refine (ys4 3 (v := .int (nI i)) rfl rfl rfl rfl).trans ?_
    refine (ys4 4 (v := .ref (w)) rfl rfl rfl rfl).trans ?_
    refine (yg 7 rfl (zWS.tag hW (o := 0) (by decide) rfl) (zWS.ni hW (o := 0) (by decide) rfl) (by decide) rfl (zpc_at (o := 0) (q := 0) (i := 0) rfl (by decide))).trans ?_
    refine ys18_3 10 rfl rfl (fun h7 => ?_) (fun h7 => absurd (by rw [hF.2.2.2.2.2.2.1]; exact nI_le (by omega) (by omega)) h7)
    refine (ys36v rfl rfl).trans ?_
    rfl
  | m + 1, i, V, hF, h => by
    have hn := hF.2.2.2.2.2.2.2.1
    have hi : i < 12 := by omega
    rw [vslL]
    refine (ys4 3 (v := .int (nI i)) rfl rfl rfl rfl).trans ?_
    refine (ys4 4 (v := .ref (w)) rfl rfl rfl rfl).trans ?_
    refine (yg 7 rfl (zWS.tag hW (o := 0) (by decide) rfl) (zWS.ni hW (o := 0) (by decide) rfl) (by decide) rfl (zpc_at (o := 0) (q := 0) (i := 0) rfl (by decide))).trans ?_
    refine ys18_3 10 rfl rfl (fun h7 => absurd h7 (by rw [hF.2.2.2.2.2.2.1]; exact nI_ge (by omega) (by omega))) (fun h7 => ?_)
    refine (ys4 11 (v := .ref (w)) rfl rfl rfl rfl).trans ?_
    refine (ys4 12 (v := .int (nI i)) rfl rfl rfl rfl).trans ?_
    refine (yc2 15 rfl rfl (Nat.le_of_ble_eq_true rfl) (Or.inr (by show ztg (zwi _ _) _ = _; rw [ztg_wi]; exact (zWS.tag hW (o := 0) (by decide) rfl))) rfl rfl (c_at4n hW hi)).trans ?_
    refine (yc1 18 rfl rfl (Nat.le_of_ble_eq_true rfl) (Or.inr (by show ztg (zwi _ _) _ = _; rw [ztg_wi]; exact (zWS.tag hW (o := 49 + 3 * i) (zwT_4 _ hi).2.2.2.2 (zwT_4 _ hi).1))) rfl rfl (c_arr hW hi)).trans ?_
    refine ys17_1 21 rfl rfl (fun h18 => ?_) (fun h18 => ?_)
    · refine (ys4 22 (v := .ref (w)) rfl rfl rfl rfl).trans ?_
      refine (ys4 23 (v := .int (nI i)) rfl rfl rfl rfl).trans ?_
      refine (yc2 26 rfl rfl (Nat.le_of_ble_eq_true rfl) (Or.inr (by show ztg (zwi _ _) _ = _; rw [ztg_wi]; exact (zWS.tag hW (o := 0) (by decide) rfl))) rfl rfl (c_sd hW hi (zWF_vN hF (by omega)).2 (zWF_vN hF (by omega)).1)).trans ?_
      generalize hV1 : vsdL i (nI i) (vN V i) 0 V = V1
      refine (ys6 29 (y := nI (i + 1)) (L2 := [(1, .int (nI (i + 1))), (0, .ref (w))]) rfl rfl (nI_1 _) rfl rfl).trans ?_
      refine (ys19 rfl).trans ?_
      subst hV1; rw [if_pos h18]; exact l_sl hW m (i + 1) _ (hF.sm (zSm_sdL _ _ _ _ _)) (by omega)
    · refine (ys6 29 (y := nI (i + 1)) (L2 := [(1, .int (nI (i + 1))), (0, .ref (w))]) rfl rfl (nI_1 _) rfl rfl).trans ?_
      refine (ys19 rfl).trans ?_
      rw [if_neg h18]; exact l_sl hW m (i + 1) _ (hF) (by omega)

theorem c_sl {d : Nat} {w : Nat} {V : zV} {J : Nat → Nat → Int32} {μ : zM} (hW : zWS μ w) {nl np nh nk : Nat} (hF : zWF V nl np nh nk) : zden zcds (d + 5) 93 [.ref (w)] (zwi μ (zpc J w V)) = some (0, none, 0, 0, zwi μ (zpc J w (vslL nk 0 V))) := by
  refine (zd_in (d := d + 4) (cd := zc93) (nL := 2) (L := [(0, .ref (w))]) rfl (Nat.le_of_ble_eq_true rfl) rfl).trans ?_
  refine (ys1 1 (x := nI 0) rfl rfl rfl).trans ?_
  refine (ys5 2 (L2 := [(1, .int (nI 0)), (0, .ref (w))]) rfl rfl rfl rfl).trans ?_
  exact l_sl hW nk 0 V hF (by omega)

