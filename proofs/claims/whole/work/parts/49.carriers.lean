/-! LOOPS OVER A LETTER'S CARRIERS -/
def vcgoL (V : zV) (k : Nat) : Nat → Nat → Int32
  | 0, _ => 0
  | m + 1, i => if vcso V k (vcar V k (V 4 k 2) (nI i)) = 0 then vcgoL V k m (i + 1) else 1

theorem c_sizeN {d : Nat} {w : Nat} {V : zV} {J : Nat → Nat → Int32} {μ : zM} (hW : zWS μ w) {k : Nat} (hk : k < 12) {x : Int32} {n : Nat} (hs : vsize V k x = nI n) : zden zcds (d + 1) 120 [.ref (w + (49 + 3 * k)), .int x] (zwi μ (zpc J w V)) = some (0, some (.int (nI n)), 0, 0, zwi μ (zpc J w V)) := by
  rw [← hs]
  exact c_size hW hk

theorem l_cgo {d c sl : Nat} {w : Nat} {V : zV} {J : Nat → Nat → Int32} {μ : zM} (hW : zWS μ w) {k : Nat} (hk : k < 12) {n : Nat} (hn : n ≤ 20) : ∀ (m i : Nat), i + m = n → zden1 (d + 3) (zden zcds (d + 3)) zc86 (11, [(3, .int (nI i)), (2, .int (nI n)), (0, .ref (w)), (1, .ref (w + (49 + 3 * k)))], [], c, sl, zwi μ (zpc J w V)) = some (0, some (.int (vcgoL V k m i)), c, sl, zwi μ (zpc J w V))
  | 0, i, h => by
    refine (ys4 12 (v := .int (nI i)) rfl rfl rfl rfl).trans ?_
    refine (ys4 13 (v := .int (nI n)) rfl rfl rfl rfl).trans ?_
    refine ys18_3 16 rfl rfl (fun h13 => ?_) (fun h13 => absurd (nI_le (by omega) (by omega)) h13)
    refine (ys1 42 (x := 0) rfl rfl rfl).trans ?_
    refine (ys36 rfl (by decide)).trans ?_
    rfl
  | m + 1, i, h => by
    rw [vcgoL]
    refine (ys4 12 (v := .int (nI i)) rfl rfl rfl rfl).trans ?_
    refine (ys4 13 (v := .int (nI n)) rfl rfl rfl rfl).trans ?_
    refine ys18_3 16 rfl rfl (fun h13 => absurd h13 (nI_ge (by omega) (by omega))) (fun h13 => ?_)
    refine (ys4 17 (v := .ref (w)) rfl rfl rfl rfl).trans ?_
    refine (ys4 18 (v := .ref (w + (49 + 3 * k))) rfl rfl rfl rfl).trans ?_
    refine (ys4 19 (v := .ref (w + (49 + 3 * k))) rfl rfl rfl rfl).trans ?_
    refine (ys4 20 (v := .ref (w + (49 + 3 * k))) rfl rfl rfl rfl).trans ?_
    refine (yg 23 rfl (zWS.tag hW (o := 49 + 3 * k) (zwT_4 _ hk).2.2.2.2 (zwT_4 _ hk).1) (zWS.ni hW (o := 49 + 3 * k) (zwT_4 _ hk).2.2.2.2 (zwT_4 _ hk).2.1) (by decide) rfl (zpc_at (o := 49 + 3 * k) (zpk_4 _ hk) (zwT_4 _ hk).2.2.2.2)).trans ?_
    refine (ys4 24 (v := .int (nI i)) rfl rfl rfl rfl).trans ?_
    refine (yc3 27 rfl rfl (Nat.le_of_ble_eq_true rfl) (Or.inr (by show ztg (zwi _ _) _ = _; rw [ztg_wi]; exact (zWS.tag hW (o := 49 + 3 * k) (zwT_4 _ hk).2.2.2.2 (zwT_4 _ hk).1))) rfl rfl (c_car hW hk)).trans ?_
    refine (yc3 30 rfl rfl (Nat.le_of_ble_eq_true rfl) (Or.inr (by show ztg (zwi _ _) _ = _; rw [ztg_wi]; exact (zWS.tag hW (o := 0) (by decide) rfl))) rfl rfl (c_cso hW hk)).trans ?_
    refine ys17_0 33 rfl rfl (fun h30 => ?_) (fun h30 => ?_)
    · refine (ys6 38 (y := nI (i + 1)) (L2 := [(3, .int (nI (i + 1))), (2, .int (nI n)), (0, .ref (w)), (1, .ref (w + (49 + 3 * k)))]) rfl rfl (nI_1 _) rfl rfl).trans ?_
      refine (ys19 rfl).trans ?_
      rw [if_pos h30]; exact l_cgo hW hk hn m (i + 1) (by omega)
    · refine (ys1 34 (x := 1) rfl rfl rfl).trans ?_
      refine (ys36 rfl (by decide)).trans ?_
      rw [if_neg h30]; rfl

theorem c_cgo {d : Nat} {w : Nat} {V : zV} {J : Nat → Nat → Int32} {μ : zM} (hW : zWS μ w) {k : Nat} (hk : k < 12) {n : Nat} (hn : n ≤ 20) (hs : vsize V k (V 4 k 2) = nI n) : zden zcds (d + 4) 86 [.ref (w), .ref (w + (49 + 3 * k))] (zwi μ (zpc J w V)) = some (0, some (.int (vcgoL V k n 0)), 0, 0, zwi μ (zpc J w V)) := by
  refine (zd_in (d := d + 3) (cd := zc86) (nL := 4) (L := [(0, .ref (w)), (1, .ref (w + (49 + 3 * k)))]) rfl (Nat.le_of_ble_eq_true rfl) rfl).trans ?_
  refine (ys4 1 (v := .ref (w + (49 + 3 * k))) rfl rfl rfl rfl).trans ?_
  refine (ys4 2 (v := .ref (w + (49 + 3 * k))) rfl rfl rfl rfl).trans ?_
  refine (yg 5 rfl (zWS.tag hW (o := 49 + 3 * k) (zwT_4 _ hk).2.2.2.2 (zwT_4 _ hk).1) (zWS.ni hW (o := 49 + 3 * k) (zwT_4 _ hk).2.2.2.2 (zwT_4 _ hk).2.1) (by decide) rfl (zpc_at (o := 49 + 3 * k) (zpk_4 _ hk) (zwT_4 _ hk).2.2.2.2)).trans ?_
  refine (yc2 8 rfl rfl (Nat.le_of_ble_eq_true rfl) (Or.inr (by show ztg (zwi _ _) _ = _; rw [ztg_wi]; exact (zWS.tag hW (o := 49 + 3 * k) (zwT_4 _ hk).2.2.2.2 (zwT_4 _ hk).1))) rfl rfl (c_sizeN hW hk hs)).trans ?_
  refine (ys5 9 (L2 := [(2, .int (nI n)), (0, .ref (w)), (1, .ref (w + (49 + 3 * k)))]) rfl rfl rfl rfl).trans ?_
  refine (ys1 10 (x := nI 0) rfl rfl rfl).trans ?_
  refine (ys5 11 (L2 := [(3, .int (nI 0)), (2, .int (nI n)), (0, .ref (w)), (1, .ref (w + (49 + 3 * k)))]) rfl rfl rfl rfl).trans ?_
  exact l_cgo hW hk hn n 0 (by omega)

