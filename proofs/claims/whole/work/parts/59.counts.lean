/-! COUNTS -/
def zcnt (f : Nat → Bool) : Nat → Nat → Int32 → Int32
  | 0, _, a => a
  | m + 1, i, a => zcnt f m (i + 1) (if f i = true then a + 1 else a)
theorem vpth_cnt (V : zV) (x : Int32) : ∀ (m i : Nat) (a : Int32), vpthL V x m i a = zcnt (fun i => if V 2 i 0 = x then true else false) m i a
  | 0, _, _ => rfl
  | m + 1, i, a => by
    rw [vpthL, zcnt]
    split
    · exact vpth_cnt V x m (i + 1) _
    · exact vpth_cnt V x m (i + 1) _

theorem l_pic {d c sl : Nat} {w : Nat} {V : zV} {J : Nat → Nat → Int32} {μ : zM} (hW : zWS μ w) {nl np nh nk : Nat} (hF : zWF V nl np nh nk) {x : Int32} : ∀ (m i : Nat) (a : Int32), i + m = np → zden1 (d + 3) (zden zcds (d + 3)) zc78 (4, [(3, .int (nI i)), (2, .int (a)), (0, .ref (w)), (1, .int (x))], [], c, sl, zwi μ (zpc J w V)) = some (0, some (.int (zcnt (fun i => if vcag V i x = 0 then false else true) m i a)), c, sl, zwi μ (zpc J w V))
  | 0, i, a, h => by
    have hn := hF.2.2.2.1
    rw [zcnt]
    refine (ys4 5 (v := .int (nI i)) rfl rfl rfl rfl).trans ?_
    refine (ys4 6 (v := .ref (w)) rfl rfl rfl rfl).trans ?_
    refine (yg 9 rfl (zWS.tag hW (o := 0) (by decide) rfl) (zWS.ni hW (o := 0) (by decide) rfl) (by decide) rfl (zpc_at (o := 0) (q := 0) (i := 0) rfl (by decide))).trans ?_
    refine ys18_3 12 rfl rfl (fun h9 => ?_) (fun h9 => absurd (by rw [hF.2.2.1]; exact nI_le (by omega) (by omega)) h9)
    refine (ys4 34 (v := .int (a)) rfl rfl rfl rfl).trans ?_
    refine (ys36 rfl rfl).trans ?_
    rfl
  | m + 1, i, a, h => by
    have hn := hF.2.2.2.1
    have hi : i < 20 := by omega
    rw [zcnt]
    refine (ys4 5 (v := .int (nI i)) rfl rfl rfl rfl).trans ?_
    refine (ys4 6 (v := .ref (w)) rfl rfl rfl rfl).trans ?_
    refine (yg 9 rfl (zWS.tag hW (o := 0) (by decide) rfl) (zWS.ni hW (o := 0) (by decide) rfl) (by decide) rfl (zpc_at (o := 0) (q := 0) (i := 0) rfl (by decide))).trans ?_
    refine ys18_3 12 rfl rfl (fun h9 => absurd h9 (by rw [hF.2.2.1]; exact nI_ge (by omega) (by omega))) (fun h9 => ?_)
    refine (ys4 13 (v := .ref (w)) rfl rfl rfl rfl).trans ?_
    refine (ys4 14 (v := .int (nI i)) rfl rfl rfl rfl).trans ?_
    refine (yc2 17 rfl rfl (Nat.le_of_ble_eq_true rfl) (Or.inr (by show ztg (zwi _ _) _ = _; rw [ztg_wi]; exact (zWS.tag hW (o := 0) (by decide) rfl))) rfl rfl (c_at2n hW hi)).trans ?_
    refine (ys4 18 (v := .int (x)) rfl rfl rfl rfl).trans ?_
    refine (yc2 21 rfl rfl (Nat.le_of_ble_eq_true rfl) (Or.inr (by show ztg (zwi _ _) _ = _; rw [ztg_wi]; exact (zWS.tag hW (o := 23 + i) (zwT_2 _ hi).2.2 (zwT_2 _ hi).1))) rfl rfl (c_cag hW hi)).trans ?_
    refine ys17_0 24 rfl rfl (fun h21 => ?_) (fun h21 => ?_)
    · refine (ys6 30 (y := nI (i + 1)) (L2 := [(3, .int (nI (i + 1))), (2, .int (a)), (0, .ref (w)), (1, .int (x))]) rfl rfl (nI_1 _) rfl rfl).trans ?_
      refine (ys19 rfl).trans ?_
      refine zden1_fg (L := [(3, .int (nI (i + 1))), (2, .int (a)), (0, .ref (w)), (1, .int (x))]) (zfg_cons rfl (zfg_cons rfl (zfg_cons rfl (zfg_cons rfl zfg_nil)))) ?_; rw [if_pos h21]; refine (l_pic hW hF m (i + 1) _ (by omega)).trans ?_; rfl
    · refine (ys6 27 (y := a + 1) (L2 := [(2, .int (a + 1)), (3, .int (nI i)), (0, .ref (w)), (1, .int (x))]) rfl rfl rfl rfl rfl).trans ?_
      refine (ys6 30 (y := nI (i + 1)) (L2 := [(3, .int (nI (i + 1))), (2, .int (a + 1)), (0, .ref (w)), (1, .int (x))]) rfl rfl (nI_1 _) rfl rfl).trans ?_
      refine (ys19 rfl).trans ?_
      refine zden1_fg (L := [(3, .int (nI (i + 1))), (2, .int (a + 1)), (0, .ref (w)), (1, .int (x))]) (zfg_cons rfl (zfg_cons rfl (zfg_cons rfl (zfg_cons rfl zfg_nil)))) ?_; rw [if_neg h21]; refine (l_pic hW hF m (i + 1) _ (by omega)).trans ?_; rfl

theorem c_pic {d : Nat} {w : Nat} {V : zV} {J : Nat → Nat → Int32} {μ : zM} (hW : zWS μ w) {nl np nh nk : Nat} (hF : zWF V nl np nh nk) {x : Int32}  : zden zcds (d + 4) 78 [.ref (w), .int (x)] (zwi μ (zpc J w V)) = some (0, some (.int (zcnt (fun i => if vcag V i x = 0 then false else true) np 0 0)), 0, 0, zwi μ (zpc J w V)) := by
  refine (zd_in (d := d + 3) (cd := zc78) (nL := 4) (L := [(0, .ref (w)), (1, .int (x))]) rfl (Nat.le_of_ble_eq_true rfl) rfl).trans ?_
  refine (ys1 1 (x := 0) rfl rfl rfl).trans ?_
  refine (ys5 2 (L2 := [(2, .int (0)), (0, .ref (w)), (1, .int (x))]) rfl rfl rfl rfl).trans ?_
  refine (ys1 3 (x := nI 0) rfl rfl rfl).trans ?_
  refine (ys5 4 (L2 := [(3, .int (nI 0)), (2, .int (0)), (0, .ref (w)), (1, .int (x))]) rfl rfl rfl rfl).trans ?_
  exact l_pic hW hF np 0 0 (by omega)

theorem l_hpf {d c sl : Nat} {w : Nat} {V : zV} {J : Nat → Nat → Int32} {μ : zM} (hW : zWS μ w) {nl np nh nk : Nat} (hF : zWF V nl np nh nk) {x : Int32} : ∀ (m i : Nat) (a : Int32), i + m = np → zden1 (d + 2) (zden zcds (d + 2)) zc79 (4, [(3, .int (nI i)), (2, .int (a)), (0, .ref (w)), (1, .int (x))], [], c, sl, zwi μ (zpc J w V)) = some (0, some (.int (zcnt (fun i => if V 2 i 0 = 1 then if V 2 i 1 = x then true else false else false) m i a)), c, sl, zwi μ (zpc J w V))
  | 0, i, a, h => by
    have hn := hF.2.2.2.1
    rw [zcnt]
    refine (ys4 5 (v := .int (nI i)) rfl rfl rfl rfl).trans ?_
    refine (ys4 6 (v := .ref (w)) rfl rfl rfl rfl).trans ?_
    refine (yg 9 rfl (zWS.tag hW (o := 0) (by decide) rfl) (zWS.ni hW (o := 0) (by decide) rfl) (by decide) rfl (zpc_at (o := 0) (q := 0) (i := 0) rfl (by decide))).trans ?_
    refine ys18_3 12 rfl rfl (fun h9 => ?_) (fun h9 => absurd (by rw [hF.2.2.1]; exact nI_le (by omega) (by omega)) h9)
    refine (ys4 47 (v := .int (a)) rfl rfl rfl rfl).trans ?_
    refine (ys36 rfl rfl).trans ?_
    rfl
  | m + 1, i, a, h => by
    have hn := hF.2.2.2.1
    have hi : i < 20 := by omega
    rw [zcnt]
    refine (ys4 5 (v := .int (nI i)) rfl rfl rfl rfl).trans ?_
    refine (ys4 6 (v := .ref (w)) rfl rfl rfl rfl).trans ?_
    refine (yg 9 rfl (zWS.tag hW (o := 0) (by decide) rfl) (zWS.ni hW (o := 0) (by decide) rfl) (by decide) rfl (zpc_at (o := 0) (q := 0) (i := 0) rfl (by decide))).trans ?_
    refine ys18_3 12 rfl rfl (fun h9 => absurd h9 (by rw [hF.2.2.1]; exact nI_ge (by omega) (by omega))) (fun h9 => ?_)
    refine (ys4 13 (v := .ref (w)) rfl rfl rfl rfl).trans ?_
    refine (ys4 14 (v := .int (nI i)) rfl rfl rfl rfl).trans ?_
    refine (yc2 17 rfl rfl (Nat.le_of_ble_eq_true rfl) (Or.inr (by show ztg (zwi _ _) _ = _; rw [ztg_wi]; exact (zWS.tag hW (o := 0) (by decide) rfl))) rfl rfl (c_at2n hW hi)).trans ?_
    refine (ys5 19 (L2 := [(4, .ref (w + (23 + i))), (3, .int (nI i)), (2, .int (a)), (0, .ref (w)), (1, .int (x))]) rfl rfl rfl rfl).trans ?_
    refine (ys4 21 (v := .ref (w + (23 + i))) rfl rfl rfl rfl).trans ?_
    refine (yg 24 rfl (zWS.tag hW (o := 23 + i) (zwT_2 _ hi).2.2 (zwT_2 _ hi).1) (zWS.ni hW (o := 23 + i) (zwT_2 _ hi).2.2 (zwT_2 _ hi).2.1) (by decide) rfl (zpc_at (o := 23 + i) (zpk_2 _ hi) (zwT_2 _ hi).2.2)).trans ?_
    refine (ys1 25 (x := 1) rfl rfl rfl).trans ?_
    refine ys18_1 28 rfl rfl (fun h25 => ?_) (fun h25 => ?_)
    · refine (ys4 30 (v := .ref (w + (23 + i))) rfl rfl rfl rfl).trans ?_
      refine (yg 33 rfl (zWS.tag hW (o := 23 + i) (zwT_2 _ hi).2.2 (zwT_2 _ hi).1) (zWS.ni hW (o := 23 + i) (zwT_2 _ hi).2.2 (zwT_2 _ hi).2.1) (by decide) rfl (zpc_at (o := 23 + i) (zpk_2 _ hi) (zwT_2 _ hi).2.2)).trans ?_
      refine (ys4 34 (v := .int (x)) rfl rfl rfl rfl).trans ?_
      refine ys18_1 37 rfl rfl (fun h34 => ?_) (fun h34 => ?_)
      · refine (ys6 40 (y := a + 1) (L2 := [(2, .int (a + 1)), (4, .ref (w + (23 + i))), (3, .int (nI i)), (0, .ref (w)), (1, .int (x))]) rfl rfl rfl rfl rfl).trans ?_
        refine (ys6 43 (y := nI (i + 1)) (L2 := [(3, .int (nI (i + 1))), (2, .int (a + 1)), (4, .ref (w + (23 + i))), (0, .ref (w)), (1, .int (x))]) rfl rfl (nI_1 _) rfl rfl).trans ?_
        refine (ys19 rfl).trans ?_
        refine zden1_fg (L := [(3, .int (nI (i + 1))), (2, .int (a + 1)), (0, .ref (w)), (1, .int (x))]) (zfg_cons rfl (zfg_cons rfl (zfg_cons rfl (zfg_cons rfl zfg_nil)))) ?_; rw [if_pos h25, if_pos h34]; refine (l_hpf hW hF m (i + 1) _ (by omega)).trans ?_; rfl
      · refine (ys6 43 (y := nI (i + 1)) (L2 := [(3, .int (nI (i + 1))), (4, .ref (w + (23 + i))), (2, .int (a)), (0, .ref (w)), (1, .int (x))]) rfl rfl (nI_1 _) rfl rfl).trans ?_
        refine (ys19 rfl).trans ?_
        refine zden1_fg (L := [(3, .int (nI (i + 1))), (2, .int (a)), (0, .ref (w)), (1, .int (x))]) (zfg_cons rfl (zfg_cons rfl (zfg_cons rfl (zfg_cons rfl zfg_nil)))) ?_; rw [if_pos h25, if_neg h34]; refine (l_hpf hW hF m (i + 1) _ (by omega)).trans ?_; rfl
    · refine (ys6 43 (y := nI (i + 1)) (L2 := [(3, .int (nI (i + 1))), (4, .ref (w + (23 + i))), (2, .int (a)), (0, .ref (w)), (1, .int (x))]) rfl rfl (nI_1 _) rfl rfl).trans ?_
      refine (ys19 rfl).trans ?_
      refine zden1_fg (L := [(3, .int (nI (i + 1))), (2, .int (a)), (0, .ref (w)), (1, .int (x))]) (zfg_cons rfl (zfg_cons rfl (zfg_cons rfl (zfg_cons rfl zfg_nil)))) ?_; rw [if_neg h25]; refine (l_hpf hW hF m (i + 1) _ (by omega)).trans ?_; rfl

theorem c_hpf {d : Nat} {w : Nat} {V : zV} {J : Nat → Nat → Int32} {μ : zM} (hW : zWS μ w) {nl np nh nk : Nat} (hF : zWF V nl np nh nk) {x : Int32}  : zden zcds (d + 3) 79 [.ref (w), .int (x)] (zwi μ (zpc J w V)) = some (0, some (.int (zcnt (fun i => if V 2 i 0 = 1 then if V 2 i 1 = x then true else false else false) np 0 0)), 0, 0, zwi μ (zpc J w V)) := by
  refine (zd_in (d := d + 2) (cd := zc79) (nL := 5) (L := [(0, .ref (w)), (1, .int (x))]) rfl (Nat.le_of_ble_eq_true rfl) rfl).trans ?_
  refine (ys1 1 (x := 0) rfl rfl rfl).trans ?_
  refine (ys5 2 (L2 := [(2, .int (0)), (0, .ref (w)), (1, .int (x))]) rfl rfl rfl rfl).trans ?_
  refine (ys1 3 (x := nI 0) rfl rfl rfl).trans ?_
  refine (ys5 4 (L2 := [(3, .int (nI 0)), (2, .int (0)), (0, .ref (w)), (1, .int (x))]) rfl rfl rfl rfl).trans ?_
  exact l_hpf hW hF np 0 0 (by omega)

theorem l_lin {d c sl : Nat} {w : Nat} {V : zV} {J : Nat → Nat → Int32} {μ : zM} (hW : zWS μ w) {nl np nh nk : Nat} (hF : zWF V nl np nh nk) {x : Int32} : ∀ (m i : Nat) (a : Int32), i + m = nk → zden1 (d + 2) (zden zcds (d + 2)) zc80 (4, [(3, .int (nI i)), (2, .int (a)), (0, .ref (w)), (1, .int (x))], [], c, sl, zwi μ (zpc J w V)) = some (0, some (.int (zcnt (fun i => if V 4 i 1 = x then true else false) m i a)), c, sl, zwi μ (zpc J w V))
  | 0, i, a, h => by
    have hn := hF.2.2.2.2.2.2.2.1
    rw [zcnt]
    refine (ys4 5 (v := .int (nI i)) rfl rfl rfl rfl).trans ?_
    refine (ys4 6 (v := .ref (w)) rfl rfl rfl rfl).trans ?_
    refine (yg 9 rfl (zWS.tag hW (o := 0) (by decide) rfl) (zWS.ni hW (o := 0) (by decide) rfl) (by decide) rfl (zpc_at (o := 0) (q := 0) (i := 0) rfl (by decide))).trans ?_
    refine ys18_3 12 rfl rfl (fun h9 => ?_) (fun h9 => absurd (by rw [hF.2.2.2.2.2.2.1]; exact nI_le (by omega) (by omega)) h9)
    refine (ys4 34 (v := .int (a)) rfl rfl rfl rfl).trans ?_
    refine (ys36 rfl rfl).trans ?_
    rfl
  | m + 1, i, a, h => by
    have hn := hF.2.2.2.2.2.2.2.1
    have hi : i < 12 := by omega
    rw [zcnt]
    refine (ys4 5 (v := .int (nI i)) rfl rfl rfl rfl).trans ?_
    refine (ys4 6 (v := .ref (w)) rfl rfl rfl rfl).trans ?_
    refine (yg 9 rfl (zWS.tag hW (o := 0) (by decide) rfl) (zWS.ni hW (o := 0) (by decide) rfl) (by decide) rfl (zpc_at (o := 0) (q := 0) (i := 0) rfl (by decide))).trans ?_
    refine ys18_3 12 rfl rfl (fun h9 => absurd h9 (by rw [hF.2.2.2.2.2.2.1]; exact nI_ge (by omega) (by omega))) (fun h9 => ?_)
    refine (ys4 13 (v := .ref (w)) rfl rfl rfl rfl).trans ?_
    refine (ys4 14 (v := .int (nI i)) rfl rfl rfl rfl).trans ?_
    refine (yc2 17 rfl rfl (Nat.le_of_ble_eq_true rfl) (Or.inr (by show ztg (zwi _ _) _ = _; rw [ztg_wi]; exact (zWS.tag hW (o := 0) (by decide) rfl))) rfl rfl (c_at4n hW hi)).trans ?_
    refine (yg 20 rfl (zWS.tag hW (o := 49 + 3 * i) (zwT_4 _ hi).2.2.2.2 (zwT_4 _ hi).1) (zWS.ni hW (o := 49 + 3 * i) (zwT_4 _ hi).2.2.2.2 (zwT_4 _ hi).2.1) (by decide) rfl (zpc_at (o := 49 + 3 * i) (zpk_4 _ hi) (zwT_4 _ hi).2.2.2.2)).trans ?_
    refine (ys4 21 (v := .int (x)) rfl rfl rfl rfl).trans ?_
    refine ys18_1 24 rfl rfl (fun h21 => ?_) (fun h21 => ?_)
    · refine (ys6 27 (y := a + 1) (L2 := [(2, .int (a + 1)), (3, .int (nI i)), (0, .ref (w)), (1, .int (x))]) rfl rfl rfl rfl rfl).trans ?_
      refine (ys6 30 (y := nI (i + 1)) (L2 := [(3, .int (nI (i + 1))), (2, .int (a + 1)), (0, .ref (w)), (1, .int (x))]) rfl rfl (nI_1 _) rfl rfl).trans ?_
      refine (ys19 rfl).trans ?_
      refine zden1_fg (L := [(3, .int (nI (i + 1))), (2, .int (a + 1)), (0, .ref (w)), (1, .int (x))]) (zfg_cons rfl (zfg_cons rfl (zfg_cons rfl (zfg_cons rfl zfg_nil)))) ?_; rw [if_pos h21]; refine (l_lin hW hF m (i + 1) _ (by omega)).trans ?_; rfl
    · refine (ys6 30 (y := nI (i + 1)) (L2 := [(3, .int (nI (i + 1))), (2, .int (a)), (0, .ref (w)), (1, .int (x))]) rfl rfl (nI_1 _) rfl rfl).trans ?_
      refine (ys19 rfl).trans ?_
      refine zden1_fg (L := [(3, .int (nI (i + 1))), (2, .int (a)), (0, .ref (w)), (1, .int (x))]) (zfg_cons rfl (zfg_cons rfl (zfg_cons rfl (zfg_cons rfl zfg_nil)))) ?_; rw [if_neg h21]; refine (l_lin hW hF m (i + 1) _ (by omega)).trans ?_; rfl

theorem c_lin {d : Nat} {w : Nat} {V : zV} {J : Nat → Nat → Int32} {μ : zM} (hW : zWS μ w) {nl np nh nk : Nat} (hF : zWF V nl np nh nk) {x : Int32}  : zden zcds (d + 3) 80 [.ref (w), .int (x)] (zwi μ (zpc J w V)) = some (0, some (.int (zcnt (fun i => if V 4 i 1 = x then true else false) nk 0 0)), 0, 0, zwi μ (zpc J w V)) := by
  refine (zd_in (d := d + 2) (cd := zc80) (nL := 4) (L := [(0, .ref (w)), (1, .int (x))]) rfl (Nat.le_of_ble_eq_true rfl) rfl).trans ?_
  refine (ys1 1 (x := 0) rfl rfl rfl).trans ?_
  refine (ys5 2 (L2 := [(2, .int (0)), (0, .ref (w)), (1, .int (x))]) rfl rfl rfl rfl).trans ?_
  refine (ys1 3 (x := nI 0) rfl rfl rfl).trans ?_
  refine (ys5 4 (L2 := [(3, .int (nI 0)), (2, .int (0)), (0, .ref (w)), (1, .int (x))]) rfl rfl rfl rfl).trans ?_
  exact l_lin hW hF nk 0 0 (by omega)

theorem l_al {d c sl : Nat} {w : Nat} {V : zV} {J : Nat → Nat → Int32} {μ : zM} (hW : zWS μ w) {nl np nh nk : Nat} (hF : zWF V nl np nh nk) : ∀ (m i : Nat) (a : Int32), i + m = nk → zden1 (d + 2) (zden zcds (d + 2)) zc81 (4, [(2, .int (nI i)), (1, .int (a)), (0, .ref (w))], [], c, sl, zwi μ (zpc J w V)) = some (0, some (.int (zcnt (fun i => if varr V i = 0 then false else true) m i a)), c, sl, zwi μ (zpc J w V))
  | 0, i, a, h => by
    have hn := hF.2.2.2.2.2.2.2.1
    rw [zcnt]
    refine (ys4 5 (v := .int (nI i)) rfl rfl rfl rfl).trans ?_
    refine (ys4 6 (v := .ref (w)) rfl rfl rfl rfl).trans ?_
    refine (yg 9 rfl (zWS.tag hW (o := 0) (by decide) rfl) (zWS.ni hW (o := 0) (by decide) rfl) (by decide) rfl (zpc_at (o := 0) (q := 0) (i := 0) rfl (by decide))).trans ?_
    refine ys18_3 12 rfl rfl (fun h9 => ?_) (fun h9 => absurd (by rw [hF.2.2.2.2.2.2.1]; exact nI_le (by omega) (by omega)) h9)
    refine (ys4 33 (v := .int (a)) rfl rfl rfl rfl).trans ?_
    refine (ys36 rfl rfl).trans ?_
    rfl
  | m + 1, i, a, h => by
    have hn := hF.2.2.2.2.2.2.2.1
    have hi : i < 12 := by omega
    rw [zcnt]
    refine (ys4 5 (v := .int (nI i)) rfl rfl rfl rfl).trans ?_
    refine (ys4 6 (v := .ref (w)) rfl rfl rfl rfl).trans ?_
    refine (yg 9 rfl (zWS.tag hW (o := 0) (by decide) rfl) (zWS.ni hW (o := 0) (by decide) rfl) (by decide) rfl (zpc_at (o := 0) (q := 0) (i := 0) rfl (by decide))).trans ?_
    refine ys18_3 12 rfl rfl (fun h9 => absurd h9 (by rw [hF.2.2.2.2.2.2.1]; exact nI_ge (by omega) (by omega))) (fun h9 => ?_)
    refine (ys4 13 (v := .ref (w)) rfl rfl rfl rfl).trans ?_
    refine (ys4 14 (v := .int (nI i)) rfl rfl rfl rfl).trans ?_
    refine (yc2 17 rfl rfl (Nat.le_of_ble_eq_true rfl) (Or.inr (by show ztg (zwi _ _) _ = _; rw [ztg_wi]; exact (zWS.tag hW (o := 0) (by decide) rfl))) rfl rfl (c_at4n hW hi)).trans ?_
    refine (yc1 20 rfl rfl (Nat.le_of_ble_eq_true rfl) (Or.inr (by show ztg (zwi _ _) _ = _; rw [ztg_wi]; exact (zWS.tag hW (o := 49 + 3 * i) (zwT_4 _ hi).2.2.2.2 (zwT_4 _ hi).1))) rfl rfl (c_arr hW hi)).trans ?_
    refine ys17_0 23 rfl rfl (fun h20 => ?_) (fun h20 => ?_)
    · refine (ys6 29 (y := nI (i + 1)) (L2 := [(2, .int (nI (i + 1))), (1, .int (a)), (0, .ref (w))]) rfl rfl (nI_1 _) rfl rfl).trans ?_
      refine (ys19 rfl).trans ?_
      refine zden1_fg (L := [(2, .int (nI (i + 1))), (1, .int (a)), (0, .ref (w))]) (zfg_cons rfl (zfg_cons rfl (zfg_cons rfl zfg_nil))) ?_; rw [if_pos h20]; refine (l_al hW hF m (i + 1) _ (by omega)).trans ?_; rfl
    · refine (ys6 26 (y := a + 1) (L2 := [(1, .int (a + 1)), (2, .int (nI i)), (0, .ref (w))]) rfl rfl rfl rfl rfl).trans ?_
      refine (ys6 29 (y := nI (i + 1)) (L2 := [(2, .int (nI (i + 1))), (1, .int (a + 1)), (0, .ref (w))]) rfl rfl (nI_1 _) rfl rfl).trans ?_
      refine (ys19 rfl).trans ?_
      refine zden1_fg (L := [(2, .int (nI (i + 1))), (1, .int (a + 1)), (0, .ref (w))]) (zfg_cons rfl (zfg_cons rfl (zfg_cons rfl zfg_nil))) ?_; rw [if_neg h20]; refine (l_al hW hF m (i + 1) _ (by omega)).trans ?_; rfl

theorem c_al {d : Nat} {w : Nat} {V : zV} {J : Nat → Nat → Int32} {μ : zM} (hW : zWS μ w) {nl np nh nk : Nat} (hF : zWF V nl np nh nk)  : zden zcds (d + 3) 81 [.ref (w)] (zwi μ (zpc J w V)) = some (0, some (.int (zcnt (fun i => if varr V i = 0 then false else true) nk 0 0)), 0, 0, zwi μ (zpc J w V)) := by
  refine (zd_in (d := d + 2) (cd := zc81) (nL := 3) (L := [(0, .ref (w))]) rfl (Nat.le_of_ble_eq_true rfl) rfl).trans ?_
  refine (ys1 1 (x := 0) rfl rfl rfl).trans ?_
  refine (ys5 2 (L2 := [(1, .int (0)), (0, .ref (w))]) rfl rfl rfl rfl).trans ?_
  refine (ys1 3 (x := nI 0) rfl rfl rfl).trans ?_
  refine (ys5 4 (L2 := [(2, .int (nI 0)), (1, .int (0)), (0, .ref (w))]) rfl rfl rfl rfl).trans ?_
  exact l_al hW hF nk 0 0 (by omega)

theorem l_ll {d c sl : Nat} {w : Nat} {V : zV} {J : Nat → Nat → Int32} {μ : zM} (hW : zWS μ w) {nl np nh nk : Nat} (hF : zWF V nl np nh nk) : ∀ (m i : Nat) (a : Int32), i + m = nk → zden1 (d + 5) (zden zcds (d + 5)) zc82 (4, [(2, .int (nI i)), (1, .int (a)), (0, .ref (w))], [], c, sl, zwi μ (zpc J w V)) = some (0, some (.int (zcnt (fun i => if vlost V i np = 0 then false else true) m i a)), c, sl, zwi μ (zpc J w V))
  | 0, i, a, h => by
    have hn := hF.2.2.2.2.2.2.2.1
    rw [zcnt]
    refine (ys4 5 (v := .int (nI i)) rfl rfl rfl rfl).trans ?_
    refine (ys4 6 (v := .ref (w)) rfl rfl rfl rfl).trans ?_
    refine (yg 9 rfl (zWS.tag hW (o := 0) (by decide) rfl) (zWS.ni hW (o := 0) (by decide) rfl) (by decide) rfl (zpc_at (o := 0) (q := 0) (i := 0) rfl (by decide))).trans ?_
    refine ys18_3 12 rfl rfl (fun h9 => ?_) (fun h9 => absurd (by rw [hF.2.2.2.2.2.2.1]; exact nI_le (by omega) (by omega)) h9)
    refine (ys4 30 (v := .int (a)) rfl rfl rfl rfl).trans ?_
    refine (ys36 rfl rfl).trans ?_
    rfl
  | m + 1, i, a, h => by
    have hn := hF.2.2.2.2.2.2.2.1
    have hi : i < 12 := by omega
    rw [zcnt]
    refine (ys4 5 (v := .int (nI i)) rfl rfl rfl rfl).trans ?_
    refine (ys4 6 (v := .ref (w)) rfl rfl rfl rfl).trans ?_
    refine (yg 9 rfl (zWS.tag hW (o := 0) (by decide) rfl) (zWS.ni hW (o := 0) (by decide) rfl) (by decide) rfl (zpc_at (o := 0) (q := 0) (i := 0) rfl (by decide))).trans ?_
    refine ys18_3 12 rfl rfl (fun h9 => absurd h9 (by rw [hF.2.2.2.2.2.2.1]; exact nI_ge (by omega) (by omega))) (fun h9 => ?_)
    refine (ys4 13 (v := .ref (w)) rfl rfl rfl rfl).trans ?_
    refine (ys4 14 (v := .int (nI i)) rfl rfl rfl rfl).trans ?_
    refine (yc2 17 rfl rfl (Nat.le_of_ble_eq_true rfl) (Or.inr (by show ztg (zwi _ _) _ = _; rw [ztg_wi]; exact (zWS.tag hW (o := 0) (by decide) rfl))) rfl rfl (c_lost hW hF hi (by omega))).trans ?_
    refine ys17_0 20 rfl rfl (fun h17 => ?_) (fun h17 => ?_)
    · refine (ys6 26 (y := nI (i + 1)) (L2 := [(2, .int (nI (i + 1))), (1, .int (a)), (0, .ref (w))]) rfl rfl (nI_1 _) rfl rfl).trans ?_
      refine (ys19 rfl).trans ?_
      refine zden1_fg (L := [(2, .int (nI (i + 1))), (1, .int (a)), (0, .ref (w))]) (zfg_cons rfl (zfg_cons rfl (zfg_cons rfl zfg_nil))) ?_; rw [if_pos h17]; refine (l_ll hW hF m (i + 1) _ (by omega)).trans ?_; rfl
    · refine (ys6 23 (y := a + 1) (L2 := [(1, .int (a + 1)), (2, .int (nI i)), (0, .ref (w))]) rfl rfl rfl rfl rfl).trans ?_
      refine (ys6 26 (y := nI (i + 1)) (L2 := [(2, .int (nI (i + 1))), (1, .int (a + 1)), (0, .ref (w))]) rfl rfl (nI_1 _) rfl rfl).trans ?_
      refine (ys19 rfl).trans ?_
      refine zden1_fg (L := [(2, .int (nI (i + 1))), (1, .int (a + 1)), (0, .ref (w))]) (zfg_cons rfl (zfg_cons rfl (zfg_cons rfl zfg_nil))) ?_; rw [if_neg h17]; refine (l_ll hW hF m (i + 1) _ (by omega)).trans ?_; rfl

theorem c_ll {d : Nat} {w : Nat} {V : zV} {J : Nat → Nat → Int32} {μ : zM} (hW : zWS μ w) {nl np nh nk : Nat} (hF : zWF V nl np nh nk)  : zden zcds (d + 6) 82 [.ref (w)] (zwi μ (zpc J w V)) = some (0, some (.int (zcnt (fun i => if vlost V i np = 0 then false else true) nk 0 0)), 0, 0, zwi μ (zpc J w V)) := by
  refine (zd_in (d := d + 5) (cd := zc82) (nL := 3) (L := [(0, .ref (w))]) rfl (Nat.le_of_ble_eq_true rfl) rfl).trans ?_
  refine (ys1 1 (x := 0) rfl rfl rfl).trans ?_
  refine (ys5 2 (L2 := [(1, .int (0)), (0, .ref (w))]) rfl rfl rfl rfl).trans ?_
  refine (ys1 3 (x := nI 0) rfl rfl rfl).trans ?_
  refine (ys5 4 (L2 := [(2, .int (nI 0)), (1, .int (0)), (0, .ref (w))]) rfl rfl rfl rfl).trans ?_
  exact l_ll hW hF nk 0 0 (by omega)

theorem l_dtf {d c sl : Nat} {w : Nat} {V : zV} {J : Nat → Nat → Int32} {μ : zM} (hW : zWS μ w) {nl np nh nk : Nat} (hF : zWF V nl np nh nk) {x : Int32} : ∀ (m i : Nat) (a : Int32), i + m = np → zden1 (d + 2) (zden zcds (d + 2)) zc83 (4, [(3, .int (nI i)), (2, .int (a)), (0, .ref (w)), (1, .int (x))], [], c, sl, zwi μ (zpc J w V)) = some (0, some (.int (zcnt (fun i => if V 2 i 0 = 1 then if V 2 i 10 = x then true else false else false) m i a)), c, sl, zwi μ (zpc J w V))
  | 0, i, a, h => by
    have hn := hF.2.2.2.1
    rw [zcnt]
    refine (ys4 5 (v := .int (nI i)) rfl rfl rfl rfl).trans ?_
    refine (ys4 6 (v := .ref (w)) rfl rfl rfl rfl).trans ?_
    refine (yg 9 rfl (zWS.tag hW (o := 0) (by decide) rfl) (zWS.ni hW (o := 0) (by decide) rfl) (by decide) rfl (zpc_at (o := 0) (q := 0) (i := 0) rfl (by decide))).trans ?_
    refine ys18_3 12 rfl rfl (fun h9 => ?_) (fun h9 => absurd (by rw [hF.2.2.1]; exact nI_le (by omega) (by omega)) h9)
    refine (ys4 47 (v := .int (a)) rfl rfl rfl rfl).trans ?_
    refine (ys36 rfl rfl).trans ?_
    rfl
  | m + 1, i, a, h => by
    have hn := hF.2.2.2.1
    have hi : i < 20 := by omega
    rw [zcnt]
    refine (ys4 5 (v := .int (nI i)) rfl rfl rfl rfl).trans ?_
    refine (ys4 6 (v := .ref (w)) rfl rfl rfl rfl).trans ?_
    refine (yg 9 rfl (zWS.tag hW (o := 0) (by decide) rfl) (zWS.ni hW (o := 0) (by decide) rfl) (by decide) rfl (zpc_at (o := 0) (q := 0) (i := 0) rfl (by decide))).trans ?_
    refine ys18_3 12 rfl rfl (fun h9 => absurd h9 (by rw [hF.2.2.1]; exact nI_ge (by omega) (by omega))) (fun h9 => ?_)
    refine (ys4 13 (v := .ref (w)) rfl rfl rfl rfl).trans ?_
    refine (ys4 14 (v := .int (nI i)) rfl rfl rfl rfl).trans ?_
    refine (yc2 17 rfl rfl (Nat.le_of_ble_eq_true rfl) (Or.inr (by show ztg (zwi _ _) _ = _; rw [ztg_wi]; exact (zWS.tag hW (o := 0) (by decide) rfl))) rfl rfl (c_at2n hW hi)).trans ?_
    refine (ys5 19 (L2 := [(4, .ref (w + (23 + i))), (3, .int (nI i)), (2, .int (a)), (0, .ref (w)), (1, .int (x))]) rfl rfl rfl rfl).trans ?_
    refine (ys4 21 (v := .ref (w + (23 + i))) rfl rfl rfl rfl).trans ?_
    refine (yg 24 rfl (zWS.tag hW (o := 23 + i) (zwT_2 _ hi).2.2 (zwT_2 _ hi).1) (zWS.ni hW (o := 23 + i) (zwT_2 _ hi).2.2 (zwT_2 _ hi).2.1) (by decide) rfl (zpc_at (o := 23 + i) (zpk_2 _ hi) (zwT_2 _ hi).2.2)).trans ?_
    refine (ys1 25 (x := 1) rfl rfl rfl).trans ?_
    refine ys18_1 28 rfl rfl (fun h25 => ?_) (fun h25 => ?_)
    · refine (ys4 30 (v := .ref (w + (23 + i))) rfl rfl rfl rfl).trans ?_
      refine (yg 33 rfl (zWS.tag hW (o := 23 + i) (zwT_2 _ hi).2.2 (zwT_2 _ hi).1) (zWS.ni hW (o := 23 + i) (zwT_2 _ hi).2.2 (zwT_2 _ hi).2.1) (by decide) rfl (zpc_at (o := 23 + i) (zpk_2 _ hi) (zwT_2 _ hi).2.2)).trans ?_
      refine (ys4 34 (v := .int (x)) rfl rfl rfl rfl).trans ?_
      refine ys18_1 37 rfl rfl (fun h34 => ?_) (fun h34 => ?_)
      · refine (ys6 40 (y := a + 1) (L2 := [(2, .int (a + 1)), (4, .ref (w + (23 + i))), (3, .int (nI i)), (0, .ref (w)), (1, .int (x))]) rfl rfl rfl rfl rfl).trans ?_
        refine (ys6 43 (y := nI (i + 1)) (L2 := [(3, .int (nI (i + 1))), (2, .int (a + 1)), (4, .ref (w + (23 + i))), (0, .ref (w)), (1, .int (x))]) rfl rfl (nI_1 _) rfl rfl).trans ?_
        refine (ys19 rfl).trans ?_
        refine zden1_fg (L := [(3, .int (nI (i + 1))), (2, .int (a + 1)), (0, .ref (w)), (1, .int (x))]) (zfg_cons rfl (zfg_cons rfl (zfg_cons rfl (zfg_cons rfl zfg_nil)))) ?_; rw [if_pos h25, if_pos h34]; refine (l_dtf hW hF m (i + 1) _ (by omega)).trans ?_; rfl
      · refine (ys6 43 (y := nI (i + 1)) (L2 := [(3, .int (nI (i + 1))), (4, .ref (w + (23 + i))), (2, .int (a)), (0, .ref (w)), (1, .int (x))]) rfl rfl (nI_1 _) rfl rfl).trans ?_
        refine (ys19 rfl).trans ?_
        refine zden1_fg (L := [(3, .int (nI (i + 1))), (2, .int (a)), (0, .ref (w)), (1, .int (x))]) (zfg_cons rfl (zfg_cons rfl (zfg_cons rfl (zfg_cons rfl zfg_nil)))) ?_; rw [if_pos h25, if_neg h34]; refine (l_dtf hW hF m (i + 1) _ (by omega)).trans ?_; rfl
    · refine (ys6 43 (y := nI (i + 1)) (L2 := [(3, .int (nI (i + 1))), (4, .ref (w + (23 + i))), (2, .int (a)), (0, .ref (w)), (1, .int (x))]) rfl rfl (nI_1 _) rfl rfl).trans ?_
      refine (ys19 rfl).trans ?_
      refine zden1_fg (L := [(3, .int (nI (i + 1))), (2, .int (a)), (0, .ref (w)), (1, .int (x))]) (zfg_cons rfl (zfg_cons rfl (zfg_cons rfl (zfg_cons rfl zfg_nil)))) ?_; rw [if_neg h25]; refine (l_dtf hW hF m (i + 1) _ (by omega)).trans ?_; rfl

theorem c_dtf {d : Nat} {w : Nat} {V : zV} {J : Nat → Nat → Int32} {μ : zM} (hW : zWS μ w) {nl np nh nk : Nat} (hF : zWF V nl np nh nk) {x : Int32}  : zden zcds (d + 3) 83 [.ref (w), .int (x)] (zwi μ (zpc J w V)) = some (0, some (.int (zcnt (fun i => if V 2 i 0 = 1 then if V 2 i 10 = x then true else false else false) np 0 0)), 0, 0, zwi μ (zpc J w V)) := by
  refine (zd_in (d := d + 2) (cd := zc83) (nL := 5) (L := [(0, .ref (w)), (1, .int (x))]) rfl (Nat.le_of_ble_eq_true rfl) rfl).trans ?_
  refine (ys1 1 (x := 0) rfl rfl rfl).trans ?_
  refine (ys5 2 (L2 := [(2, .int (0)), (0, .ref (w)), (1, .int (x))]) rfl rfl rfl rfl).trans ?_
  refine (ys1 3 (x := nI 0) rfl rfl rfl).trans ?_
  refine (ys5 4 (L2 := [(3, .int (nI 0)), (2, .int (0)), (0, .ref (w)), (1, .int (x))]) rfl rfl rfl rfl).trans ?_
  exact l_dtf hW hF np 0 0 (by omega)

