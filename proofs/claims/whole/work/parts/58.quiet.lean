/-! WHETHER ALL IS QUIET; WHETHER A LETTER IS LOST -/
def vq2 (V : zV) : Nat → Nat → Int32
  | 0, _ => 1
  | m + 1, i => if varr V i = 0 then if vcgoL V i (vN V i) 0 = 0 then vq2 V m (i + 1) else 0 else vq2 V m (i + 1)
def vq1 (V : zV) (nk : Nat) : Nat → Nat → Int32
  | 0, _ => vq2 V nk 0
  | m + 1, i => if V 2 i 0 = 1 then 0 else vq1 V nk m (i + 1)
def vlost (V : zV) (k np : Nat) : Int32 :=
  if varr V k = 0 then if vhdL V (nI k) (V 4 k 2) np 0 = 0 then if vcgoL V k (vN V k) 0 = 0 then 1 else 0 else 0 else 0

theorem l_q2 {d c sl : Nat} {w : Nat} {V : zV} {J : Nat → Nat → Int32} {μ : zM} (hW : zWS μ w) {nl np nh nk : Nat} (hF : zWF V nl np nh nk) : ∀ (m i : Nat), i + m = nk → zden1 (d + 4) (zden zcds (d + 4)) zc88 (32, [(1, .int (nI i)), (0, .ref (w))], [], c, sl, zwi μ (zpc J w V)) = some (0, some (.int (vq2 V m i)), c, sl, zwi μ (zpc J w V))
  | 0, i, h => by
    have hn := hF.2.2.2.2.2.2.2.1
    rw [vq2]
    refine (ys4 33 (v := .int (nI i)) rfl rfl rfl rfl).trans ?_
    refine (ys4 34 (v := .ref (w)) rfl rfl rfl rfl).trans ?_
    refine (yg 37 rfl (zWS.tag hW (o := 0) (by decide) rfl) (zWS.ni hW (o := 0) (by decide) rfl) (by decide) rfl (zpc_at (o := 0) (q := 0) (i := 0) rfl (by decide))).trans ?_
    refine ys18_3 40 rfl rfl (fun h37 => ?_) (fun h37 => absurd (by rw [hF.2.2.2.2.2.2.1]; exact nI_le (by omega) (by omega)) h37)
    refine (ys1 70 (x := 1) rfl rfl rfl).trans ?_
    refine (ys36 rfl (by decide)).trans ?_
    rfl
  | m + 1, i, h => by
    have hn := hF.2.2.2.2.2.2.2.1
    have hi : i < 12 := by omega
    rw [vq2]
    refine (ys4 33 (v := .int (nI i)) rfl rfl rfl rfl).trans ?_
    refine (ys4 34 (v := .ref (w)) rfl rfl rfl rfl).trans ?_
    refine (yg 37 rfl (zWS.tag hW (o := 0) (by decide) rfl) (zWS.ni hW (o := 0) (by decide) rfl) (by decide) rfl (zpc_at (o := 0) (q := 0) (i := 0) rfl (by decide))).trans ?_
    refine ys18_3 40 rfl rfl (fun h37 => absurd h37 (by rw [hF.2.2.2.2.2.2.1]; exact nI_ge (by omega) (by omega))) (fun h37 => ?_)
    refine (ys4 41 (v := .ref (w)) rfl rfl rfl rfl).trans ?_
    refine (ys4 42 (v := .int (nI i)) rfl rfl rfl rfl).trans ?_
    refine (yc2 45 rfl rfl (Nat.le_of_ble_eq_true rfl) (Or.inr (by show ztg (zwi _ _) _ = _; rw [ztg_wi]; exact (zWS.tag hW (o := 0) (by decide) rfl))) rfl rfl (c_at4n hW hi)).trans ?_
    refine (ys5 46 (L2 := [(2, .ref (w + (49 + 3 * i))), (1, .int (nI i)), (0, .ref (w))]) rfl rfl rfl rfl).trans ?_
    refine (ys4 47 (v := .ref (w + (49 + 3 * i))) rfl rfl rfl rfl).trans ?_
    refine (yc1 50 rfl rfl (Nat.le_of_ble_eq_true rfl) (Or.inr (by show ztg (zwi _ _) _ = _; rw [ztg_wi]; exact (zWS.tag hW (o := 49 + 3 * i) (zwT_4 _ hi).2.2.2.2 (zwT_4 _ hi).1))) rfl rfl (c_arr hW hi)).trans ?_
    refine ys17_1 53 rfl rfl (fun h50 => ?_) (fun h50 => ?_)
    · refine (ys4 54 (v := .ref (w)) rfl rfl rfl rfl).trans ?_
      refine (ys4 55 (v := .ref (w + (49 + 3 * i))) rfl rfl rfl rfl).trans ?_
      refine (yc2 58 rfl rfl (Nat.le_of_ble_eq_true rfl) (Or.inr (by show ztg (zwi _ _) _ = _; rw [ztg_wi]; exact (zWS.tag hW (o := 0) (by decide) rfl))) rfl rfl (c_cgo hW hi (zWF_vN hF (by omega)).2 (zWF_vN hF (by omega)).1)).trans ?_
      refine ys17_0 61 rfl rfl (fun h58 => ?_) (fun h58 => ?_)
      · refine (ys6 66 (y := nI (i + 1)) (L2 := [(1, .int (nI (i + 1))), (2, .ref (w + (49 + 3 * i))), (0, .ref (w))]) rfl rfl (nI_1 _) rfl rfl).trans ?_
        refine (ys19 rfl).trans ?_
        refine zden1_fg (L := [(1, .int (nI (i + 1))), (0, .ref (w))]) (zfg_cons rfl (zfg_cons rfl zfg_nil)) ?_; rw [if_pos h50, if_pos h58]; exact l_q2 hW hF m (i + 1) (by omega)
      · refine (ys1 62 (x := 0) rfl rfl rfl).trans ?_
        refine (ys36 rfl (by decide)).trans ?_
        rw [if_pos h50, if_neg h58]; rfl
    · refine (ys6 66 (y := nI (i + 1)) (L2 := [(1, .int (nI (i + 1))), (2, .ref (w + (49 + 3 * i))), (0, .ref (w))]) rfl rfl (nI_1 _) rfl rfl).trans ?_
      refine (ys19 rfl).trans ?_
      refine zden1_fg (L := [(1, .int (nI (i + 1))), (0, .ref (w))]) (zfg_cons rfl (zfg_cons rfl zfg_nil)) ?_; rw [if_neg h50]; exact l_q2 hW hF m (i + 1) (by omega)

theorem l_q1 {d c sl : Nat} {w : Nat} {V : zV} {J : Nat → Nat → Int32} {μ : zM} (hW : zWS μ w) {nl np nh nk : Nat} (hF : zWF V nl np nh nk) : ∀ (m i : Nat), i + m = np → zden1 (d + 4) (zden zcds (d + 4)) zc88 (2, [(1, .int (nI i)), (0, .ref (w))], [], c, sl, zwi μ (zpc J w V)) = some (0, some (.int (vq1 V nk m i)), c, sl, zwi μ (zpc J w V))
  | 0, i, h => by
    have hn := hF.2.2.2.1
    rw [vq1]
    refine (ys4 3 (v := .int (nI i)) rfl rfl rfl rfl).trans ?_
    refine (ys4 4 (v := .ref (w)) rfl rfl rfl rfl).trans ?_
    refine (yg 7 rfl (zWS.tag hW (o := 0) (by decide) rfl) (zWS.ni hW (o := 0) (by decide) rfl) (by decide) rfl (zpc_at (o := 0) (q := 0) (i := 0) rfl (by decide))).trans ?_
    refine ys18_3 10 rfl rfl (fun h7 => ?_) (fun h7 => absurd (by rw [hF.2.2.1]; exact nI_le (by omega) (by omega)) h7)
    refine (ys1 31 (x := nI 0) rfl rfl rfl).trans ?_
    refine (ys5 32 (L2 := [(1, .int (nI 0)), (0, .ref (w))]) rfl rfl rfl rfl).trans ?_
    exact l_q2 hW hF nk 0 (by omega)
  | m + 1, i, h => by
    have hn := hF.2.2.2.1
    have hi : i < 20 := by omega
    rw [vq1]
    refine (ys4 3 (v := .int (nI i)) rfl rfl rfl rfl).trans ?_
    refine (ys4 4 (v := .ref (w)) rfl rfl rfl rfl).trans ?_
    refine (yg 7 rfl (zWS.tag hW (o := 0) (by decide) rfl) (zWS.ni hW (o := 0) (by decide) rfl) (by decide) rfl (zpc_at (o := 0) (q := 0) (i := 0) rfl (by decide))).trans ?_
    refine ys18_3 10 rfl rfl (fun h7 => absurd h7 (by rw [hF.2.2.1]; exact nI_ge (by omega) (by omega))) (fun h7 => ?_)
    refine (ys4 11 (v := .ref (w)) rfl rfl rfl rfl).trans ?_
    refine (ys4 12 (v := .int (nI i)) rfl rfl rfl rfl).trans ?_
    refine (yc2 15 rfl rfl (Nat.le_of_ble_eq_true rfl) (Or.inr (by show ztg (zwi _ _) _ = _; rw [ztg_wi]; exact (zWS.tag hW (o := 0) (by decide) rfl))) rfl rfl (c_at2n hW hi)).trans ?_
    refine (yg 18 rfl (zWS.tag hW (o := 23 + i) (zwT_2 _ hi).2.2 (zwT_2 _ hi).1) (zWS.ni hW (o := 23 + i) (zwT_2 _ hi).2.2 (zwT_2 _ hi).2.1) (by decide) rfl (zpc_at (o := 23 + i) (zpk_2 _ hi) (zwT_2 _ hi).2.2)).trans ?_
    refine (ys1 19 (x := 1) rfl rfl rfl).trans ?_
    refine ys18_1 22 rfl rfl (fun h19 => ?_) (fun h19 => ?_)
    · refine (ys1 23 (x := 0) rfl rfl rfl).trans ?_
      refine (ys36 rfl (by decide)).trans ?_
      rw [if_pos h19]; rfl
    · refine (ys6 27 (y := nI (i + 1)) (L2 := [(1, .int (nI (i + 1))), (0, .ref (w))]) rfl rfl (nI_1 _) rfl rfl).trans ?_
      refine (ys19 rfl).trans ?_
      rw [if_neg h19]; exact l_q1 hW hF m (i + 1) (by omega)

theorem c_quiet {d : Nat} {w : Nat} {V : zV} {J : Nat → Nat → Int32} {μ : zM} (hW : zWS μ w) {nl np nh nk : Nat} (hF : zWF V nl np nh nk) : zden zcds (d + 5) 88 [.ref (w)] (zwi μ (zpc J w V)) = some (0, some (.int (vq1 V nk np 0)), 0, 0, zwi μ (zpc J w V)) := by
  refine (zd_in (d := d + 4) (cd := zc88) (nL := 3) (L := [(0, .ref (w))]) rfl (Nat.le_of_ble_eq_true rfl) rfl).trans ?_
  refine (ys1 1 (x := nI 0) rfl rfl rfl).trans ?_
  refine (ys5 2 (L2 := [(1, .int (nI 0)), (0, .ref (w))]) rfl rfl rfl rfl).trans ?_
  exact l_q1 hW hF np 0 (by omega)

theorem c_lost {d : Nat} {w : Nat} {V : zV} {J : Nat → Nat → Int32} {μ : zM} (hW : zWS μ w) {nl np nh nk : Nat} (hF : zWF V nl np nh nk) {k : Nat} (hk : k < 12) (hkk : k < nk) : zden zcds (d + 5) 84 [.ref (w), .int (nI k)] (zwi μ (zpc J w V)) = some (0, some (.int (vlost V k np)), 0, 0, zwi μ (zpc J w V)) := by
  refine (zd_in (d := d + 4) (cd := zc84) (nL := 3) (L := [(0, .ref (w)), (1, .int (nI k))]) rfl (Nat.le_of_ble_eq_true rfl) rfl).trans ?_
  refine (ys4 1 (v := .ref (w)) rfl rfl rfl rfl).trans ?_
  refine (ys4 2 (v := .int (nI k)) rfl rfl rfl rfl).trans ?_
  refine (yc2 5 rfl rfl (Nat.le_of_ble_eq_true rfl) (Or.inr (by show ztg (zwi _ _) _ = _; rw [ztg_wi]; exact (zWS.tag hW (o := 0) (by decide) rfl))) rfl rfl (c_at4n hW hk)).trans ?_
  refine (ys5 6 (L2 := [(2, .ref (w + (49 + 3 * k))), (0, .ref (w)), (1, .int (nI k))]) rfl rfl rfl rfl).trans ?_
  refine (ys4 7 (v := .ref (w + (49 + 3 * k))) rfl rfl rfl rfl).trans ?_
  refine (yc1 10 rfl rfl (Nat.le_of_ble_eq_true rfl) (Or.inr (by show ztg (zwi _ _) _ = _; rw [ztg_wi]; exact (zWS.tag hW (o := 49 + 3 * k) (zwT_4 _ hk).2.2.2.2 (zwT_4 _ hk).1))) rfl rfl (c_arr hW hk)).trans ?_
  refine ys17_1 13 rfl rfl (fun h10 => ?_) (fun h10 => ?_)
  · refine (ys4 14 (v := .ref (w)) rfl rfl rfl rfl).trans ?_
    refine (ys4 15 (v := .int (nI k)) rfl rfl rfl rfl).trans ?_
    refine (yc2 18 rfl rfl (Nat.le_of_ble_eq_true rfl) (Or.inr (by show ztg (zwi _ _) _ = _; rw [ztg_wi]; exact (zWS.tag hW (o := 0) (by decide) rfl))) rfl rfl (c_hd hW hk hF.2.2.1 hF.2.2.2.1)).trans ?_
    refine ys17_1 21 rfl rfl (fun h18 => ?_) (fun h18 => ?_)
    · refine (ys4 22 (v := .ref (w)) rfl rfl rfl rfl).trans ?_
      refine (ys4 23 (v := .ref (w + (49 + 3 * k))) rfl rfl rfl rfl).trans ?_
      refine (yc2 26 rfl rfl (Nat.le_of_ble_eq_true rfl) (Or.inr (by show ztg (zwi _ _) _ = _; rw [ztg_wi]; exact (zWS.tag hW (o := 0) (by decide) rfl))) rfl rfl (c_cgo hW hk (zWF_vN hF (by omega)).2 (zWF_vN hF (by omega)).1)).trans ?_
      refine ys17_1 29 rfl rfl (fun h26 => ?_) (fun h26 => ?_)
      · refine (ys1 30 (x := 1) rfl rfl rfl).trans ?_
        refine (ys19 rfl).trans ?_
        refine (ys36 rfl (by decide)).trans ?_
        unfold vlost; (try dsimp only); rw [if_pos h10, if_pos h18, if_pos h26]; (first | done | rfl)
      · refine (ys1 34 (x := 0) rfl rfl rfl).trans ?_
        refine (ys36 rfl (by decide)).trans ?_
        unfold vlost; (try dsimp only); rw [if_pos h10, if_pos h18, if_neg h26]; (first | done | rfl)
    · refine (ys1 34 (x := 0) rfl rfl rfl).trans ?_
      refine (ys36 rfl (by decide)).trans ?_
      unfold vlost; (try dsimp only); rw [if_pos h10, if_neg h18]; (first | done | rfl)
  · refine (ys1 34 (x := 0) rfl rfl rfl).trans ?_
    refine (ys36 rfl (by decide)).trans ?_
    unfold vlost; (try dsimp only); rw [if_neg h10]; (first | done | rfl)

