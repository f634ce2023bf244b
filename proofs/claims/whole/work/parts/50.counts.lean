/-! THINGS BY THEIR NUMBER; COUNTS -/
theorem c_at1n {d w i : Nat} {J : Nat → Nat → Int32} {μ : zM} (hW : zWS μ w) (hi : i < 6) : zden zcds (d + 2) 69 [.ref w, .int (nI i)] (zwi μ J) = some (0, some (.ref (w + (5 + 3 * i))), 0, 0, zwi μ J) := by
  have h := c_at1 (d := d) (J := J) (x := nI i) hW
  rw [zsf_nI hi (by decide)] at h
  exact h
theorem c_at2n {d w i : Nat} {J : Nat → Nat → Int32} {μ : zM} (hW : zWS μ w) (hi : i < 20) : zden zcds (d + 2) 70 [.ref w, .int (nI i)] (zwi μ J) = some (0, some (.ref (w + (23 + i))), 0, 0, zwi μ J) := by
  have h := c_at2 (d := d) (J := J) (x := nI i) hW
  rw [zsf_nI hi (by decide)] at h
  exact h
theorem c_at3n {d w i : Nat} {J : Nat → Nat → Int32} {μ : zM} (hW : zWS μ w) (hi : i < 6) : zden zcds (d + 2) 71 [.ref w, .int (nI i)] (zwi μ J) = some (0, some (.ref (w + (43 + i))), 0, 0, zwi μ J) := by
  have h := c_at3 (d := d) (J := J) (x := nI i) hW
  rw [zsf_nI hi (by decide)] at h
  exact h
theorem c_at4n {d w i : Nat} {J : Nat → Nat → Int32} {μ : zM} (hW : zWS μ w) (hi : i < 12) : zden zcds (d + 2) 72 [.ref w, .int (nI i)] (zwi μ J) = some (0, some (.ref (w + (49 + 3 * i))), 0, 0, zwi μ J) := by
  have h := c_at4 (d := d) (J := J) (x := nI i) hW
  rw [zsf_nI hi (by decide)] at h
  exact h
def vpthL (V : zV) (x : Int32) : Nat → Nat → Int32 → Int32
  | 0, _, a => a
  | m + 1, i, a => if V 2 i 0 = x then vpthL V x m (i + 1) (a + 1) else vpthL V x m (i + 1) a

theorem l_pth {d c sl : Nat} {w : Nat} {V : zV} {J : Nat → Nat → Int32} {μ : zM} (hW : zWS μ w) {x : Int32} {n : Nat} (hc : V 0 0 1 = nI n) (hn : n ≤ 20) : ∀ (m i : Nat) (a : Int32), i + m = n → zden1 (d + 2) (zden zcds (d + 2)) zc77 (4, [(3, .int (nI i)), (2, .int (a)), (0, .ref (w)), (1, .int (x))], [], c, sl, zwi μ (zpc J w V)) = some (0, some (.int (vpthL V x m i a)), c, sl, zwi μ (zpc J w V))
  | 0, i, a, h => by
    refine (ys4 5 (v := .int (nI i)) rfl rfl rfl rfl).trans ?_
    refine (ys4 6 (v := .ref (w)) rfl rfl rfl rfl).trans ?_
    refine (yg 9 rfl (zWS.tag hW (o := 0) (by decide) rfl) (zWS.ni hW (o := 0) (by decide) rfl) (by decide) rfl (zpc_at (o := 0) (q := 0) (i := 0) rfl (by decide))).trans ?_
    refine ys18_3 12 rfl rfl (fun h9 => ?_) (fun h9 => absurd (by rw [hc]; exact nI_le (by omega) (by omega)) h9)
    refine (ys4 34 (v := .int (a)) rfl rfl rfl rfl).trans ?_
    refine (ys36 rfl rfl).trans ?_
    rfl
  | m + 1, i, a, h => by
    have hi : i < 20 := by omega
    rw [vpthL]
    refine (ys4 5 (v := .int (nI i)) rfl rfl rfl rfl).trans ?_
    refine (ys4 6 (v := .ref (w)) rfl rfl rfl rfl).trans ?_
    refine (yg 9 rfl (zWS.tag hW (o := 0) (by decide) rfl) (zWS.ni hW (o := 0) (by decide) rfl) (by decide) rfl (zpc_at (o := 0) (q := 0) (i := 0) rfl (by decide))).trans ?_
    refine ys18_3 12 rfl rfl (fun h9 => absurd h9 (by rw [hc]; exact nI_ge (by omega) (by omega))) (fun h9 => ?_)
    refine (ys4 13 (v := .ref (w)) rfl rfl rfl rfl).trans ?_
    refine (ys4 14 (v := .int (nI i)) rfl rfl rfl rfl).trans ?_
    refine (yc2 17 rfl rfl (Nat.le_of_ble_eq_true rfl) (Or.inr (by show ztg (zwi _ _) _ = _; rw [ztg_wi]; exact (zWS.tag hW (o := 0) (by decide) rfl))) rfl rfl (c_at2n hW hi)).trans ?_
    refine (yg 20 rfl (zWS.tag hW (o := 23 + i) (zwT_2 _ hi).2.2 (zwT_2 _ hi).1) (zWS.ni hW (o := 23 + i) (zwT_2 _ hi).2.2 (zwT_2 _ hi).2.1) (by decide) rfl (zpc_at (o := 23 + i) (zpk_2 _ hi) (zwT_2 _ hi).2.2)).trans ?_
    refine (ys4 21 (v := .int (x)) rfl rfl rfl rfl).trans ?_
    refine ys18_1 24 rfl rfl (fun h21 => ?_) (fun h21 => ?_)
    · refine (ys6 27 (y := a + 1) (L2 := [(2, .int (a + 1)), (3, .int (nI i)), (0, .ref (w)), (1, .int (x))]) rfl rfl rfl rfl rfl).trans ?_
      refine (ys6 30 (y := nI (i + 1)) (L2 := [(3, .int (nI (i + 1))), (2, .int (a + 1)), (0, .ref (w)), (1, .int (x))]) rfl rfl (nI_1 _) rfl rfl).trans ?_
      refine (ys19 rfl).trans ?_
      rw [if_pos h21]; refine (l_pth hW hc hn m (i + 1) _ (by omega)).trans ?_; rfl
    · refine (ys6 30 (y := nI (i + 1)) (L2 := [(3, .int (nI (i + 1))), (2, .int (a)), (0, .ref (w)), (1, .int (x))]) rfl rfl (nI_1 _) rfl rfl).trans ?_
      refine (ys19 rfl).trans ?_
      rw [if_neg h21]; refine (l_pth hW hc hn m (i + 1) _ (by omega)).trans ?_; rfl

theorem c_pth {d : Nat} {w : Nat} {V : zV} {J : Nat → Nat → Int32} {μ : zM} (hW : zWS μ w) {x : Int32} {n : Nat} (hc : V 0 0 1 = nI n) (hn : n ≤ 20) : zden zcds (d + 3) 77 [.ref (w), .int (x)] (zwi μ (zpc J w V)) = some (0, some (.int (vpthL V x n 0 0)), 0, 0, zwi μ (zpc J w V)) := by
  refine (zd_in (d := d + 2) (cd := zc77) (nL := 4) (L := [(0, .ref (w)), (1, .int (x))]) rfl (Nat.le_of_ble_eq_true rfl) rfl).trans ?_
  refine (ys1 1 (x := 0) rfl rfl rfl).trans ?_
  refine (ys5 2 (L2 := [(2, .int (0)), (0, .ref (w)), (1, .int (x))]) rfl rfl rfl rfl).trans ?_
  refine (ys1 3 (x := nI 0) rfl rfl rfl).trans ?_
  refine (ys5 4 (L2 := [(3, .int (nI 0)), (2, .int (0)), (0, .ref (w)), (1, .int (x))]) rfl rfl rfl rfl).trans ?_
  exact l_pth hW hc hn n 0 0 (by omega)

