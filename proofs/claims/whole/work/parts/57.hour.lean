/-! AN HOUR PASSES -/
def vmvL : Nat → Nat → zV → zV
  | 0, _, V => V
  | m + 1, i, V => vmvL m (i + 1) (vmove V i)
def vflL : Nat → Nat → zV → zV
  | 0, _, V => V
  | m + 1, i, V => if V 2 i 0 = 1 then vflL m (i + 1) (vfly V i) else vflL m (i + 1) V
def vhuL (n : Nat) : Nat → Nat → zV → zV
  | 0, _, V => V
  | m + 1, i, V => vhuL n m (i + 1) (vhunt V i n)
def vpass (V : zV) (nl np nh nk : Nat) : zV :=
  let V4 := vhuL np nh 0 (vflL np 0 (vslL nk 0 (vmvL nl 0 V)))
  zvu V4 0 0 4 (V4 0 0 4 + 1)
theorem zSm_mvL : ∀ (m i : Nat) (V : zV), zSm V (vmvL m i V)
  | 0, _, V => zSm.rf V
  | m + 1, i, V => (zSm_move V i).tr (zSm_mvL m (i + 1) _)
theorem zSm_flL : ∀ (m i : Nat) (V : zV), zSm V (vflL m i V)
  | 0, _, V => zSm.rf V
  | m + 1, i, V => by
    rw [vflL]
    split
    · exact (zSm_fly V i).tr (zSm_flL m (i + 1) _)
    · exact zSm_flL m (i + 1) V
theorem zSm_huL (n : Nat) : ∀ (m i : Nat) (V : zV), zSm V (vhuL n m i V)
  | 0, _, V => zSm.rf V
  | m + 1, i, V => (zSm_hunt V i n).tr (zSm_huL n m (i + 1) _)
theorem zSm_pass (V : zV) (nl np nh nk : Nat) : zSm V (vpass V nl np nh nk) :=
  zSm.up ((zSm_mvL nl 0 V).tr ((zSm_slL nk 0 _).tr ((zSm_flL np 0 _).tr (zSm_huL np nh 0 _)))) (by decide) (by decide)

theorem l_mv {d c sl : Nat} {w : Nat} {J : Nat → Nat → Int32} {μ : zM} (hW : zWS μ w) {nl np nh nk : Nat} : ∀ (m i : Nat) (V : zV), zWF V nl np nh nk → i + m = nl → zden1 (d + 5) (zden zcds (d + 5)) zc92 (2, [(1, .int (nI i)), (0, .ref (w))], [], c, sl, zwi μ (zpc J w V)) = zden1 (d + 5) (zden zcds (d + 5)) zc92 (24, [(1, .int (nI nl)), (0, .ref (w))], [], c, sl, zwi μ (zpc J w (vmvL m i V)))
  | 0, i, V, hF, h => by
    have hn := hF.2.1
    have e : i = nl := by omega
    subst e
    refine (ys4 3 (v := .int (nI i)) rfl rfl rfl rfl).trans ?_
    refine (ys4 4 (v := .ref (w)) rfl rfl rfl rfl).trans ?_
    refine (yg 7 rfl (zWS.tag hW (o := 0) (by decide) rfl) (zWS.ni hW (o := 0) (by decide) rfl) (by decide) rfl (zpc_at (o := 0) (q := 0) (i := 0) rfl (by decide))).trans ?_
    refine ys18_3 10 rfl rfl (fun h7 => ?_) (fun h7 => absurd (by rw [hF.1]; exact nI_le (by omega) (by omega)) h7)
    rfl
  | m + 1, i, V, hF, h => by
    have hn := hF.2.1
    have hi : i < 6 := by omega
    rw [vmvL]
    refine (ys4 3 (v := .int (nI i)) rfl rfl rfl rfl).trans ?_
    refine (ys4 4 (v := .ref (w)) rfl rfl rfl rfl).trans ?_
    refine (yg 7 rfl (zWS.tag hW (o := 0) (by decide) rfl) (zWS.ni hW (o := 0) (by decide) rfl) (by decide) rfl (zpc_at (o := 0) (q := 0) (i := 0) rfl (by decide))).trans ?_
    refine ys18_3 10 rfl rfl (fun h7 => absurd h7 (by rw [hF.1]; exact nI_ge (by omega) (by omega))) (fun h7 => ?_)
    refine (ys4 11 (v := .ref (w)) rfl rfl rfl rfl).trans ?_
    refine (ys4 12 (v := .int (nI i)) rfl rfl rfl rfl).trans ?_
    refine (yc2 15 rfl rfl (Nat.le_of_ble_eq_true rfl) (Or.inr (by show ztg (zwi _ _) _ = _; rw [ztg_wi]; exact (zWS.tag hW (o := 0) (by decide) rfl))) rfl rfl (c_at1n hW hi)).trans ?_
    refine (yc1 18 rfl rfl (Nat.le_of_ble_eq_true rfl) (Or.inr (by show ztg (zwi _ _) _ = _; rw [ztg_wi]; exact (zWS.tag hW (o := 5 + 3 * i) (zwT_1 _ hi).2.2.2.2 (zwT_1 _ hi).1))) rfl rfl (c_move hW hi)).trans ?_
    generalize hV1 : vmove V i = V1
    refine (ys6 21 (y := nI (i + 1)) (L2 := [(1, .int (nI (i + 1))), (0, .ref (w))]) rfl rfl (nI_1 _) rfl rfl).trans ?_
    refine (ys19 rfl).trans ?_
    subst hV1; exact l_mv hW m (i + 1) _ (hF.sm (zSm_move _ _)) (by omega)

theorem l_fl {d c sl : Nat} {w : Nat} {J : Nat → Nat → Int32} {μ : zM} (hW : zWS μ w) {nl np nh nk : Nat} : ∀ (m i : Nat) (V : zV), zWF V nl np nh nk → i + m = np → zden1 (d + 5) (zden zcds (d + 5)) zc92 (30, [(1, .int (nI i)), (0, .ref (w))], [], c, sl, zwi μ (zpc J w V)) = zden1 (d + 5) (zden zcds (d + 5)) zc92 (65, [(1, .int (nI np)), (0, .ref (w))], [], c, sl, zwi μ (zpc J w (vflL m i V)))
  | 0, i, V, hF, h => by
    have hn := hF.2.2.2.1
    have e : i = np := by omega
    subst e
    refine (ys4 31 (v := .int (nI i)) rfl rfl rfl rfl).trans ?_
    refine (ys4 32 (v := .ref (w)) rfl rfl rfl rfl).trans ?_
    refine (yg 35 rfl (zWS.tag hW (o := 0) (by decide) rfl) (zWS.ni hW (o := 0) (by decide) rfl) (by decide) rfl (zpc_at (o := 0) (q := 0) (i := 0) rfl (by decide))).trans ?_
    refine ys18_3 38 rfl rfl (fun h35 => ?_) (fun h35 => absurd (by rw [hF.2.2.1]; exact nI_le (by omega) (by omega)) h35)
    rfl
  | m + 1, i, V, hF, h => by
    have hn := hF.2.2.2.1
    have hi : i < 20 := by omega
    rw [vflL]
    refine (ys4 31 (v := .int (nI i)) rfl rfl rfl rfl).trans ?_
    refine (ys4 32 (v := .ref (w)) rfl rfl rfl rfl).trans ?_
    refine (yg 35 rfl (zWS.tag hW (o := 0) (by decide) rfl) (zWS.ni hW (o := 0) (by decide) rfl) (by decide) rfl (zpc_at (o := 0) (q := 0) (i := 0) rfl (by decide))).trans ?_
    refine ys18_3 38 rfl rfl (fun h35 => absurd h35 (by rw [hF.2.2.1]; exact nI_ge (by omega) (by omega))) (fun h35 => ?_)
    refine (ys4 39 (v := .ref (w)) rfl rfl rfl rfl).trans ?_
    refine (ys4 40 (v := .int (nI i)) rfl rfl rfl rfl).trans ?_
    refine (yc2 43 rfl rfl (Nat.le_of_ble_eq_true rfl) (Or.inr (by show ztg (zwi _ _) _ = _; rw [ztg_wi]; exact (zWS.tag hW (o := 0) (by decide) rfl))) rfl rfl (c_at2n hW hi)).trans ?_
    refine (yg 46 rfl (zWS.tag hW (o := 23 + i) (zwT_2 _ hi).2.2 (zwT_2 _ hi).1) (zWS.ni hW (o := 23 + i) (zwT_2 _ hi).2.2 (zwT_2 _ hi).2.1) (by decide) rfl (zpc_at (o := 23 + i) (zpk_2 _ hi) (zwT_2 _ hi).2.2)).trans ?_
    refine (ys1 47 (x := 1) rfl rfl rfl).trans ?_
    refine ys18_1 50 rfl rfl (fun h47 => ?_) (fun h47 => ?_)
    · refine (ys4 51 (v := .ref (w)) rfl rfl rfl rfl).trans ?_
      refine (ys4 52 (v := .ref (w)) rfl rfl rfl rfl).trans ?_
      refine (ys4 53 (v := .int (nI i)) rfl rfl rfl rfl).trans ?_
      refine (yc2 56 rfl rfl (Nat.le_of_ble_eq_true rfl) (Or.inr (by show ztg (zwi _ _) _ = _; rw [ztg_wi]; exact (zWS.tag hW (o := 0) (by decide) rfl))) rfl rfl (c_at2n hW hi)).trans ?_
      refine (yc2 59 rfl rfl (Nat.le_of_ble_eq_true rfl) (Or.inr (by show ztg (zwi _ _) _ = _; rw [ztg_wi]; exact (zWS.tag hW (o := 0) (by decide) rfl))) rfl rfl (c_fly hW hi)).trans ?_
      generalize hV1 : vfly V i = V1
      refine (ys6 62 (y := nI (i + 1)) (L2 := [(1, .int (nI (i + 1))), (0, .ref (w))]) rfl rfl (nI_1 _) rfl rfl).trans ?_
      refine (ys19 rfl).trans ?_
      subst hV1; rw [if_pos h47]; exact l_fl hW m (i + 1) _ (hF.sm (zSm_fly _ _)) (by omega)
    · refine (ys6 62 (y := nI (i + 1)) (L2 := [(1, .int (nI (i + 1))), (0, .ref (w))]) rfl rfl (nI_1 _) rfl rfl).trans ?_
      refine (ys19 rfl).trans ?_
      rw [if_neg h47]; exact l_fl hW m (i + 1) _ (hF) (by omega)

theorem l_hu {d c sl : Nat} {w : Nat} {J : Nat → Nat → Int32} {μ : zM} (hW : zWS μ w) {nl np nh nk : Nat} : ∀ (m i : Nat) (V : zV), zWF V nl np nh nk → i + m = nh → zden1 (d + 5) (zden zcds (d + 5)) zc92 (67, [(1, .int (nI i)), (0, .ref (w))], [], c, sl, zwi μ (zpc J w V)) = zden1 (d + 5) (zden zcds (d + 5)) zc92 (90, [(1, .int (nI nh)), (0, .ref (w))], [], c, sl, zwi μ (zpc J w (vhuL np m i V)))
  | 0, i, V, hF, h => by
    have hn := hF.2.2.2.2.2.1
    have e : i = nh := by omega
    subst e
    refine (ys4 68 (v := .int (nI i)) rfl rfl rfl rfl).trans ?_
    refine (ys4 69 (v := .ref (w)) rfl rfl rfl rfl).trans ?_
    refine (yg 72 rfl (zWS.tag hW (o := 0) (by decide) rfl) (zWS.ni hW (o := 0) (by decide) rfl) (by decide) rfl (zpc_at (o := 0) (q := 0) (i := 0) rfl (by decide))).trans ?_
    refine ys18_3 75 rfl rfl (fun h72 => ?_) (fun h72 => absurd (by rw [hF.2.2.2.2.1]; exact nI_le (by omega) (by omega)) h72)
    rfl
  | m + 1, i, V, hF, h => by
    have hn := hF.2.2.2.2.2.1
    have hi : i < 6 := by omega
    rw [vhuL]
    refine (ys4 68 (v := .int (nI i)) rfl rfl rfl rfl).trans ?_
    refine (ys4 69 (v := .ref (w)) rfl rfl rfl rfl).trans ?_
    refine (yg 72 rfl (zWS.tag hW (o := 0) (by decide) rfl) (zWS.ni hW (o := 0) (by decide) rfl) (by decide) rfl (zpc_at (o := 0) (q := 0) (i := 0) rfl (by decide))).trans ?_
    refine ys18_3 75 rfl rfl (fun h72 => absurd h72 (by rw [hF.2.2.2.2.1]; exact nI_ge (by omega) (by omega))) (fun h72 => ?_)
    refine (ys4 76 (v := .ref (w)) rfl rfl rfl rfl).trans ?_
    refine (ys4 77 (v := .ref (w)) rfl rfl rfl rfl).trans ?_
    refine (ys4 78 (v := .int (nI i)) rfl rfl rfl rfl).trans ?_
    refine (yc2 81 rfl rfl (Nat.le_of_ble_eq_true rfl) (Or.inr (by show ztg (zwi _ _) _ = _; rw [ztg_wi]; exact (zWS.tag hW (o := 0) (by decide) rfl))) rfl rfl (c_at3n hW hi)).trans ?_
    refine (yc2 84 rfl rfl (Nat.le_of_ble_eq_true rfl) (Or.inr (by show ztg (zwi _ _) _ = _; rw [ztg_wi]; exact (zWS.tag hW (o := 0) (by decide) rfl))) rfl rfl (c_hunt hW hi hF.2.2.1 hF.2.2.2.1)).trans ?_
    generalize hV1 : vhunt V i np = V1
    refine (ys6 87 (y := nI (i + 1)) (L2 := [(1, .int (nI (i + 1))), (0, .ref (w))]) rfl rfl (nI_1 _) rfl rfl).trans ?_
    refine (ys19 rfl).trans ?_
    subst hV1; exact l_hu hW m (i + 1) _ (hF.sm (zSm_hunt _ _ _)) (by omega)

theorem c_pass {d : Nat} {w : Nat} {V : zV} {J : Nat → Nat → Int32} {μ : zM} (hW : zWS μ w) {nl np nh nk : Nat} (hF : zWF V nl np nh nk) : zden zcds (d + 6) 92 [.ref w] (zwi μ (zpc J w V)) = some (0, none, 0, 0, zwi μ (zpc J w (vpass V nl np nh nk))) := by
  refine (zd_in (d := d + 5) (cd := zc92) (nL := 2) (L := [(0, .ref w)]) rfl (Nat.le_of_ble_eq_true rfl) rfl).trans ?_
  refine (ys1 1 (x := nI 0) rfl rfl rfl).trans ?_
  refine (ys5 2 (L2 := [(1, .int (nI 0)), (0, .ref (w))]) rfl rfl rfl rfl).trans ?_
  refine (l_mv hW nl 0 V hF (by omega)).trans ?_
  have F1 := hF.sm (zSm_mvL nl 0 V)
  generalize hV1 : vmvL nl 0 V = V1 at F1 ⊢
  refine (ys4 25 (v := .ref (w)) rfl rfl rfl rfl).trans ?_
  refine (yc1 28 rfl rfl (Nat.le_of_ble_eq_true rfl) (Or.inr (by show ztg (zwi _ _) _ = _; rw [ztg_wi]; exact (zWS.tag hW (o := 0) (by decide) rfl))) rfl rfl (c_sl hW F1)).trans ?_
  have F2 := F1.sm (zSm_slL nk 0 V1)
  generalize hV2 : vslL nk 0 V1 = V2 at F2 ⊢
  refine (ys1 29 (x := nI 0) rfl rfl rfl).trans ?_
  refine (ys5 30 (L2 := [(1, .int (nI 0)), (0, .ref (w))]) rfl rfl rfl rfl).trans ?_
  refine (l_fl hW np 0 V2 F2 (by omega)).trans ?_
  have F3 := F2.sm (zSm_flL np 0 V2)
  generalize hV3 : vflL np 0 V2 = V3 at F3 ⊢
  refine (ys1 66 (x := nI 0) rfl rfl rfl).trans ?_
  refine (ys5 67 (L2 := [(1, .int (nI 0)), (0, .ref (w))]) rfl rfl rfl rfl).trans ?_
  refine (l_hu hW nh 0 V3 F3 (by omega)).trans ?_
  generalize hV4 : vhuL np nh 0 V3 = V4
  refine (ys4 91 (v := .ref (w)) rfl rfl rfl rfl).trans ?_
  refine (ys14 92 rfl (Nat.le_of_ble_eq_true rfl) rfl).trans ?_
  refine (yg 95 rfl (zWS.tag hW (o := 0) (by decide) rfl) (zWS.ni hW (o := 0) (by decide) rfl) (by decide) rfl (zpc_at (o := 0) (q := 0) (i := 0) rfl (by decide))).trans ?_
  refine (ys1 96 (x := 1) rfl rfl rfl).trans ?_
  refine (ys7_0 97 rfl rfl).trans ?_
  refine (yq 100 rfl (zWS.tag hW (o := 0) (by decide) rfl) (zWS.k0 hW (o := 0)) (zWS.ni hW (o := 0) (by decide) rfl) (by decide) rfl (zpc_up (o := 0) (q := 0) (i := 0) rfl (by decide))).trans ?_
  generalize hV5 : zvu V4 0 0 4 (((V4 0 0 4) + 1)) = V5
  refine (ys36v rfl rfl).trans ?_
  subst hV5 hV4 hV3 hV2 hV1; rfl
