/-! WHETHER A DOUBLE OF A LETTER'S STAGE FLIES -/
def vhdL (V : zV) (x y : Int32) : Nat → Nat → Int32
  | 0, _ => 0
  | m + 1, i => if V 2 i 0 = 1 then if V 2 i 10 = x then if V 2 i 11 = y then 1 else vhdL V x y m (i + 1) else vhdL V x y m (i + 1) else vhdL V x y m (i + 1)

theorem l_hd {d c sl : Nat} {w : Nat} {V : zV} {J : Nat → Nat → Int32} {μ : zM} (hW : zWS μ w) {x y : Int32} {n : Nat} (hc : V 0 0 1 = nI n) (hn : n ≤ 20) : ∀ (m i : Nat), i + m = n → zden1 (d + 2) (zden zcds (d + 2)) zc85 (11, [(3, .int (nI i)), (2, .int (y)), (0, .ref (w)), (1, .int (x))], [], c, sl, zwi μ (zpc J w V)) = some (0, some (.int (vhdL V x y m i)), c, sl, zwi μ (zpc J w V))
  | 0, i, h => by
    rw [vhdL]
    refine (ys4 12 (v := .int (nI i)) rfl rfl rfl rfl).trans ?_
    refine (ys4 13 (v := .ref (w)) rfl rfl rfl rfl).trans ?_
    refine (yg 16 rfl (zWS.tag hW (o := 0) (by decide) rfl) (zWS.ni hW (o := 0) (by decide) rfl) (by decide) rfl (zpc_at (o := 0) (q := 0) (i := 0) rfl (by decide))).trans ?_
    refine ys18_3 19 rfl rfl (fun h16 => ?_) (fun h16 => absurd (by rw [hc]; exact nI_le (by omega) (by omega)) h16)
    refine (ys1 62 (x := 0) rfl rfl rfl).trans ?_
    refine (ys36 rfl (by decide)).trans ?_
    rfl
  | m + 1, i, h => by
    have hi : i < 20 := by omega
    rw [vhdL]
    refine (ys4 12 (v := .int (nI i)) rfl rfl rfl rfl).trans ?_
    refine (ys4 13 (v := .ref (w)) rfl rfl rfl rfl).trans ?_
    refine (yg 16 rfl (zWS.tag hW (o := 0) (by decide) rfl) (zWS.ni hW (o := 0) (by decide) rfl) (by decide) rfl (zpc_at (o := 0) (q := 0) (i := 0) rfl (by decide))).trans ?_
    refine ys18_3 19 rfl rfl (fun h16 => absurd h16 (by rw [hc]; exact nI_ge (by omega) (by omega))) (fun h16 => ?_)
    refine (ys4 20 (v := .ref (w)) rfl rfl rfl rfl).trans ?_
    refine (ys4 21 (v := .int (nI i)) rfl rfl rfl rfl).trans ?_
    refine (yc2 24 rfl rfl (Nat.le_of_ble_eq_true rfl) (Or.inr (by show ztg (zwi _ _) _ = _; rw [ztg_wi]; exact (zWS.tag hW (o := 0) (by decide) rfl))) rfl rfl (c_at2n hW hi)).trans ?_
    refine (ys5 26 (L2 := [(4, .ref (w + (23 + i))), (3, .int (nI i)), (2, .int (y)), (0, .ref (w)), (1, .int (x))]) rfl rfl rfl rfl).trans ?_
    refine (ys4 28 (v := .ref (w + (23 + i))) rfl rfl rfl rfl).trans ?_
    refine (yg 31 rfl (zWS.tag hW (o := 23 + i) (zwT_2 _ hi).2.2 (zwT_2 _ hi).1) (zWS.ni hW (o := 23 + i) (zwT_2 _ hi).2.2 (zwT_2 _ hi).2.1) (by decide) rfl (zpc_at (o := 23 + i) (zpk_2 _ hi) (zwT_2 _ hi).2.2)).trans ?_
    refine (ys1 32 (x := 1) rfl rfl rfl).trans ?_
    refine ys18_1 35 rfl rfl (fun h32 => ?_) (fun h32 => ?_)
    · refine (ys4 37 (v := .ref (w + (23 + i))) rfl rfl rfl rfl).trans ?_
      refine (yg 40 rfl (zWS.tag hW (o := 23 + i) (zwT_2 _ hi).2.2 (zwT_2 _ hi).1) (zWS.ni hW (o := 23 + i) (zwT_2 _ hi).2.2 (zwT_2 _ hi).2.1) (by decide) rfl (zpc_at (o := 23 + i) (zpk_2 _ hi) (zwT_2 _ hi).2.2)).trans ?_
      refine (ys4 41 (v := .int (x)) rfl rfl rfl rfl).trans ?_
      refine ys18_1 44 rfl rfl (fun h41 => ?_) (fun h41 => ?_)
      · refine (ys4 46 (v := .ref (w + (23 + i))) rfl rfl rfl rfl).trans ?_
        refine (yg 49 rfl (zWS.tag hW (o := 23 + i) (zwT_2 _ hi).2.2 (zwT_2 _ hi).1) (zWS.ni hW (o := 23 + i) (zwT_2 _ hi).2.2 (zwT_2 _ hi).2.1) (by decide) rfl (zpc_at (o := 23 + i) (zpk_2 _ hi) (zwT_2 _ hi).2.2)).trans ?_
        refine (ys4 50 (v := .int (y)) rfl rfl rfl rfl).trans ?_
        refine ys18_1 53 rfl rfl (fun h50 => ?_) (fun h50 => ?_)
        · refine (ys1 54 (x := 1) rfl rfl rfl).trans ?_
          refine (ys36 rfl (by decide)).trans ?_
          rw [if_pos h32, if_pos h41, if_pos h50]; rfl
        · refine (ys6 58 (y := nI (i + 1)) (L2 := [(3, .int (nI (i + 1))), (4, .ref (w + (23 + i))), (2, .int (y)), (0, .ref (w)), (1, .int (x))]) rfl rfl (nI_1 _) rfl rfl).trans ?_
          refine (ys19 rfl).trans ?_
          refine zden1_fg (L := [(3, .int (nI (i + 1))), (2, .int (y)), (0, .ref (w)), (1, .int (x))]) (zfg_cons rfl (zfg_cons rfl (zfg_cons rfl (zfg_cons rfl zfg_nil)))) ?_; rw [if_pos h32, if_pos h41, if_neg h50]; exact l_hd hW hc hn m (i + 1) (by omega)
      · refine (ys6 58 (y := nI (i + 1)) (L2 := [(3, .int (nI (i + 1))), (4, .ref (w + (23 + i))), (2, .int (y)), (0, .ref (w)), (1, .int (x))]) rfl rfl (nI_1 _) rfl rfl).trans ?_
        refine (ys19 rfl).trans ?_
        refine zden1_fg (L := [(3, .int (nI (i + 1))), (2, .int (y)), (0, .ref (w)), (1, .int (x))]) (zfg_cons rfl (zfg_cons rfl (zfg_cons rfl (zfg_cons rfl zfg_nil)))) ?_; rw [if_pos h32, if_neg h41]; exact l_hd hW hc hn m (i + 1) (by omega)
    · refine (ys6 58 (y := nI (i + 1)) (L2 := [(3, .int (nI (i + 1))), (4, .ref (w + (23 + i))), (2, .int (y)), (0, .ref (w)), (1, .int (x))]) rfl rfl (nI_1 _) rfl rfl).trans ?_
      refine (ys19 rfl).trans ?_
      refine zden1_fg (L := [(3, .int (nI (i + 1))), (2, .int (y)), (0, .ref (w)), (1, .int (x))]) (zfg_cons rfl (zfg_cons rfl (zfg_cons rfl (zfg_cons rfl zfg_nil)))) ?_; rw [if_neg h32]; exact l_hd hW hc hn m (i + 1) (by omega)

theorem c_hd {d : Nat} {w : Nat} {V : zV} {J : Nat → Nat → Int32} {μ : zM} (hW : zWS μ w) {k : Nat} (hk : k < 12) {n : Nat} (hc : V 0 0 1 = nI n) (hn : n ≤ 20) : zden zcds (d + 3) 85 [.ref (w), .int (nI k)] (zwi μ (zpc J w V)) = some (0, some (.int (vhdL V (nI k) (V 4 k 2) n 0)), 0, 0, zwi μ (zpc J w V)) := by
  refine (zd_in (d := d + 2) (cd := zc85) (nL := 5) (L := [(0, .ref (w)), (1, .int (nI k))]) rfl (Nat.le_of_ble_eq_true rfl) rfl).trans ?_
  refine (ys4 1 (v := .ref (w)) rfl rfl rfl rfl).trans ?_
  refine (ys4 2 (v := .int (nI k)) rfl rfl rfl rfl).trans ?_
  refine (yc2 5 rfl rfl (Nat.le_of_ble_eq_true rfl) (Or.inr (by show ztg (zwi _ _) _ = _; rw [ztg_wi]; exact (zWS.tag hW (o := 0) (by decide) rfl))) rfl rfl (c_at4n hW hk)).trans ?_
  refine (yg 8 rfl (zWS.tag hW (o := 49 + 3 * k) (zwT_4 _ hk).2.2.2.2 (zwT_4 _ hk).1) (zWS.ni hW (o := 49 + 3 * k) (zwT_4 _ hk).2.2.2.2 (zwT_4 _ hk).2.1) (by decide) rfl (zpc_at (o := 49 + 3 * k) (zpk_4 _ hk) (zwT_4 _ hk).2.2.2.2)).trans ?_
  refine (ys5 9 (L2 := [(2, .int ((V 4 k 2))), (0, .ref (w)), (1, .int (nI k))]) rfl rfl rfl rfl).trans ?_
  refine (ys1 10 (x := nI 0) rfl rfl rfl).trans ?_
  refine (ys5 11 (L2 := [(3, .int (nI 0)), (2, .int ((V 4 k 2))), (0, .ref (w)), (1, .int (nI k))]) rfl rfl rfl rfl).trans ?_
  exact l_hd hW hc hn n 0 (by omega)

