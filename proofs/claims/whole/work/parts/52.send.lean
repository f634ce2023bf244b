/-! SENDING DOUBLES -/
def vsd1 (V : zV) (k : Nat) (num : Int32) (i : Nat) : zV :=
  let x := vcar V k (V 4 k 2) (nI i)
  if vcso V k x = 0 then V else
  let p := zsf x 20
  let V1 := vset V p (zsf (V 4 k 1) 6) (zsf (V 2 p 1) 6)
  let V2 := zvu V1 2 p 10 num
  let V3 := zvu V2 2 p 11 (V2 4 k 2)
  let V4 := zvu V3 4 k 3 (V3 4 k 3 ||| vbit x)
  zvu V4 4 k 4 (V4 4 k 4 + 1)
def vsdL (k : Nat) (num : Int32) : Nat → Nat → zV → zV
  | 0, _, V => V
  | m + 1, i, V => vsdL k num m (i + 1) (vsd1 V k num i)

theorem l_sd {d c sl : Nat} {w : Nat} {J : Nat → Nat → Int32} {μ : zM} (hW : zWS μ w) {k : Nat} (hk : k < 12) {num : Int32} {n : Nat} (hn : n ≤ 20) : ∀ (m i : Nat) (V : zV), i + m = n → zden1 (d + 3) (zden zcds (d + 3)) zc94 (18, [(4, .int (nI i)), (3, .int (nI n)), (2, .ref (w + (49 + 3 * k))), (0, .ref (w)), (1, .int (num))], [], c, sl, zwi μ (zpc J w V)) = some (0, none, c, sl, zwi μ (zpc J w (vsdL k num m i V)))
  | 0, i, V, h => by
    refine (ys4 20 (v := .int (nI i)) rfl rfl rfl rfl).trans ?_
    refine (ys4 21 (v := .int (nI n)) rfl rfl rfl rfl).trans ?_
    refine ys18_3 24 rfl rfl (fun h21 => ?_) (fun h21 => absurd (nI_le (by omega) (by omega)) h21)
    refine (ys36v rfl rfl).trans ?_
    rfl
  | m + 1, i, V, h => by
    rw [vsdL]
    refine (ys4 20 (v := .int (nI i)) rfl rfl rfl rfl).trans ?_
    refine (ys4 21 (v := .int (nI n)) rfl rfl rfl rfl).trans ?_
    refine ys18_3 24 rfl rfl (fun h21 => absurd h21 (nI_ge (by omega) (by omega))) (fun h21 => ?_)
    refine (ys4 25 (v := .ref (w + (49 + 3 * k))) rfl rfl rfl rfl).trans ?_
    refine (ys4 26 (v := .ref (w + (49 + 3 * k))) rfl rfl rfl rfl).trans ?_
    refine (yg 29 rfl (zWS.tag hW (o := 49 + 3 * k) (zwT_4 _ hk).2.2.2.2 (zwT_4 _ hk).1) (zWS.ni hW (o := 49 + 3 * k) (zwT_4 _ hk).2.2.2.2 (zwT_4 _ hk).2.1) (by decide) rfl (zpc_at (o := 49 + 3 * k) (zpk_4 _ hk) (zwT_4 _ hk).2.2.2.2)).trans ?_
    refine (ys4 31 (v := .int (nI i)) rfl rfl rfl rfl).trans ?_
    refine (yc3 34 rfl rfl (Nat.le_of_ble_eq_true rfl) (Or.inr (by show ztg (zwi _ _) _ = _; rw [ztg_wi]; exact (zWS.tag hW (o := 49 + 3 * k) (zwT_4 _ hk).2.2.2.2 (zwT_4 _ hk).1))) rfl rfl (c_car hW hk)).trans ?_
    refine (ys5 36 (L2 := [(5, .int ((vcar V k ((V 4 k 2)) (nI i)))), (4, .int (nI i)), (3, .int (nI n)), (2, .ref (w + (49 + 3 * k))), (0, .ref (w)), (1, .int (num))]) rfl rfl rfl rfl).trans ?_
    refine (ys4 37 (v := .ref (w)) rfl rfl rfl rfl).trans ?_
    refine (ys4 38 (v := .ref (w + (49 + 3 * k))) rfl rfl rfl rfl).trans ?_
    refine (ys4 40 (v := .int ((vcar V k ((V 4 k 2)) (nI i)))) rfl rfl rfl rfl).trans ?_
    refine (yc3 43 rfl rfl (Nat.le_of_ble_eq_true rfl) (Or.inr (by show ztg (zwi _ _) _ = _; rw [ztg_wi]; exact (zWS.tag hW (o := 0) (by decide) rfl))) rfl rfl (c_cso hW hk)).trans ?_
    refine ys17_0 46 rfl rfl (fun h43 => ?_) (fun h43 => ?_)
    · refine (ys6 118 (y := nI (i + 1)) (L2 := [(4, .int (nI (i + 1))), (5, .int ((vcar V k ((V 4 k 2)) (nI i)))), (3, .int (nI n)), (2, .ref (w + (49 + 3 * k))), (0, .ref (w)), (1, .int (num))]) rfl rfl (nI_1 _) rfl rfl).trans ?_
      refine (ys19 rfl).trans ?_
      refine zden1_fg (L := [(4, .int (nI (i + 1))), (3, .int (nI n)), (2, .ref (w + (49 + 3 * k))), (0, .ref w), (1, .int num)]) (zfg_cons rfl (zfg_cons rfl (zfg_cons rfl (zfg_cons rfl (zfg_cons rfl zfg_nil))))) ?_; rw [show vsd1 V k num i = V from by unfold vsd1; dsimp only; rw [if_pos h43]]; exact l_sd hW hk hn m (i + 1) _ (by omega)
    · refine (ys4 47 (v := .ref (w)) rfl rfl rfl rfl).trans ?_
      refine (ys4 49 (v := .int ((vcar V k ((V 4 k 2)) (nI i)))) rfl rfl rfl rfl).trans ?_
      refine (yc2 52 rfl rfl (Nat.le_of_ble_eq_true rfl) (Or.inr (by show ztg (zwi _ _) _ = _; rw [ztg_wi]; exact (zWS.tag hW (o := 0) (by decide) rfl))) rfl rfl (c_at2 hW)).trans ?_
      refine (ys5 54 (L2 := [(6, .ref (w + (23 + (zsf (vcar V k ((V 4 k 2)) (nI i)) 20)))), (5, .int ((vcar V k ((V 4 k 2)) (nI i)))), (4, .int (nI i)), (3, .int (nI n)), (2, .ref (w + (49 + 3 * k))), (0, .ref (w)), (1, .int (num))]) rfl rfl rfl rfl).trans ?_
      refine (ys4 56 (v := .ref (w + (23 + (zsf (vcar V k ((V 4 k 2)) (nI i)) 20)))) rfl rfl rfl rfl).trans ?_
      refine (ys4 57 (v := .ref (w)) rfl rfl rfl rfl).trans ?_
      refine (ys4 58 (v := .ref (w + (49 + 3 * k))) rfl rfl rfl rfl).trans ?_
      refine (yg 61 rfl (zWS.tag hW (o := 49 + 3 * k) (zwT_4 _ hk).2.2.2.2 (zwT_4 _ hk).1) (zWS.ni hW (o := 49 + 3 * k) (zwT_4 _ hk).2.2.2.2 (zwT_4 _ hk).2.1) (by decide) rfl (zpc_at (o := 49 + 3 * k) (zpk_4 _ hk) (zwT_4 _ hk).2.2.2.2)).trans ?_
      refine (yc2 64 rfl rfl (Nat.le_of_ble_eq_true rfl) (Or.inr (by show ztg (zwi _ _) _ = _; rw [ztg_wi]; exact (zWS.tag hW (o := 0) (by decide) rfl))) rfl rfl (c_at1 hW)).trans ?_
      refine (ys4 65 (v := .ref (w)) rfl rfl rfl rfl).trans ?_
      refine (ys4 67 (v := .ref (w + (23 + (zsf (vcar V k ((V 4 k 2)) (nI i)) 20)))) rfl rfl rfl rfl).trans ?_
      refine (yg 70 rfl (zWS.tag hW (o := 23 + (zsf (vcar V k ((V 4 k 2)) (nI i)) 20)) (zwT_2 _ (zsf_lt (i := (vcar V k ((V 4 k 2)) (nI i))) (n := 20) (by decide) (by decide))).2.2 (zwT_2 _ (zsf_lt (i := (vcar V k ((V 4 k 2)) (nI i))) (n := 20) (by decide) (by decide))).1) (zWS.ni hW (o := 23 + (zsf (vcar V k ((V 4 k 2)) (nI i)) 20)) (zwT_2 _ (zsf_lt (i := (vcar V k ((V 4 k 2)) (nI i))) (n := 20) (by decide) (by decide))).2.2 (zwT_2 _ (zsf_lt (i := (vcar V k ((V 4 k 2)) (nI i))) (n := 20) (by decide) (by decide))).2.1) (by decide) rfl (zpc_at (o := 23 + (zsf (vcar V k ((V 4 k 2)) (nI i)) 20)) (zpk_2 _ (zsf_lt (i := (vcar V k ((V 4 k 2)) (nI i))) (n := 20) (by decide) (by decide))) (zwT_2 _ (zsf_lt (i := (vcar V k ((V 4 k 2)) (nI i))) (n := 20) (by decide) (by decide))).2.2)).trans ?_
      refine (yc2 73 rfl rfl (Nat.le_of_ble_eq_true rfl) (Or.inr (by show ztg (zwi _ _) _ = _; rw [ztg_wi]; exact (zWS.tag hW (o := 0) (by decide) rfl))) rfl rfl (c_at1 hW)).trans ?_
      refine (yc3 76 rfl rfl (Nat.le_of_ble_eq_true rfl) (Or.inr (by show ztg (zwi _ _) _ = _; rw [ztg_wi]; exact (zWS.tag hW (o := 23 + (zsf (vcar V k ((V 4 k 2)) (nI i)) 20)) (zwT_2 _ (zsf_lt (i := (vcar V k ((V 4 k 2)) (nI i))) (n := 20) (by decide) (by decide))).2.2 (zwT_2 _ (zsf_lt (i := (vcar V k ((V 4 k 2)) (nI i))) (n := 20) (by decide) (by decide))).1))) rfl rfl (c_set hW (zsf_lt (i := (vcar V k ((V 4 k 2)) (nI i))) (n := 20) (by decide) (by decide)) (zsf_lt (i := (V 4 k 1)) (n := 6) (by decide) (by decide)) (zsf_lt (i := (V 2 (zsf (vcar V k ((V 4 k 2)) (nI i)) 20) 1)) (n := 6) (by decide) (by decide)))).trans ?_
      generalize hV1 : vset V ((zsf (vcar V k ((V 4 k 2)) (nI i)) 20)) ((zsf (V 4 k 1) 6)) ((zsf (V 2 (zsf (vcar V k ((V 4 k 2)) (nI i)) 20) 1) 6)) = V1
      refine (ys4 78 (v := .ref (w + (23 + (zsf (vcar V k ((V 4 k 2)) (nI i)) 20)))) rfl rfl rfl rfl).trans ?_
      refine (ys4 79 (v := .int (num)) rfl rfl rfl rfl).trans ?_
      refine (yq 82 rfl (zWS.tag hW (o := 23 + (zsf (vcar V k ((V 4 k 2)) (nI i)) 20)) (zwT_2 _ (zsf_lt (i := (vcar V k ((V 4 k 2)) (nI i))) (n := 20) (by decide) (by decide))).2.2 (zwT_2 _ (zsf_lt (i := (vcar V k ((V 4 k 2)) (nI i))) (n := 20) (by decide) (by decide))).1) (zWS.k0 hW (o := 23 + (zsf (vcar V k ((V 4 k 2)) (nI i)) 20))) (zWS.ni hW (o := 23 + (zsf (vcar V k ((V 4 k 2)) (nI i)) 20)) (zwT_2 _ (zsf_lt (i := (vcar V k ((V 4 k 2)) (nI i))) (n := 20) (by decide) (by decide))).2.2 (zwT_2 _ (zsf_lt (i := (vcar V k ((V 4 k 2)) (nI i))) (n := 20) (by decide) (by decide))).2.1) (by decide) rfl (zpc_up (o := 23 + (zsf (vcar V k ((V 4 k 2)) (nI i)) 20)) (zpk_2 _ (zsf_lt (i := (vcar V k ((V 4 k 2)) (nI i))) (n := 20) (by decide) (by decide))) (zwT_2 _ (zsf_lt (i := (vcar V k ((V 4 k 2)) (nI i))) (n := 20) (by decide) (by decide))).2.2)).trans ?_
      generalize hV2 : zvu V1 2 (zsf (vcar V k ((V 4 k 2)) (nI i)) 20) 10 (num) = V2
      refine (ys4 84 (v := .ref (w + (23 + (zsf (vcar V k ((V 4 k 2)) (nI i)) 20)))) rfl rfl rfl rfl).trans ?_
      refine (ys4 85 (v := .ref (w + (49 + 3 * k))) rfl rfl rfl rfl).trans ?_
      refine (yg 88 rfl (zWS.tag hW (o := 49 + 3 * k) (zwT_4 _ hk).2.2.2.2 (zwT_4 _ hk).1) (zWS.ni hW (o := 49 + 3 * k) (zwT_4 _ hk).2.2.2.2 (zwT_4 _ hk).2.1) (by decide) rfl (zpc_at (o := 49 + 3 * k) (zpk_4 _ hk) (zwT_4 _ hk).2.2.2.2)).trans ?_
      refine (yq 91 rfl (zWS.tag hW (o := 23 + (zsf (vcar V k ((V 4 k 2)) (nI i)) 20)) (zwT_2 _ (zsf_lt (i := (vcar V k ((V 4 k 2)) (nI i))) (n := 20) (by decide) (by decide))).2.2 (zwT_2 _ (zsf_lt (i := (vcar V k ((V 4 k 2)) (nI i))) (n := 20) (by decide) (by decide))).1) (zWS.k0 hW (o := 23 + (zsf (vcar V k ((V 4 k 2)) (nI i)) 20))) (zWS.ni hW (o := 23 + (zsf (vcar V k ((V 4 k 2)) (nI i)) 20)) (zwT_2 _ (zsf_lt (i := (vcar V k ((V 4 k 2)) (nI i))) (n := 20) (by decide) (by decide))).2.2 (zwT_2 _ (zsf_lt (i := (vcar V k ((V 4 k 2)) (nI i))) (n := 20) (by decide) (by decide))).2.1) (by decide) rfl (zpc_up (o := 23 + (zsf (vcar V k ((V 4 k 2)) (nI i)) 20)) (zpk_2 _ (zsf_lt (i := (vcar V k ((V 4 k 2)) (nI i))) (n := 20) (by decide) (by decide))) (zwT_2 _ (zsf_lt (i := (vcar V k ((V 4 k 2)) (nI i))) (n := 20) (by decide) (by decide))).2.2)).trans ?_
      generalize hV3 : zvu V2 2 (zsf (vcar V k ((V 4 k 2)) (nI i)) 20) 11 ((V2 4 k 2)) = V3
      refine (ys4 92 (v := .ref (w + (49 + 3 * k))) rfl rfl rfl rfl).trans ?_
      refine (ys14 93 rfl (Nat.le_of_ble_eq_true rfl) rfl).trans ?_
      refine (yg 96 rfl (zWS.tag hW (o := 49 + 3 * k) (zwT_4 _ hk).2.2.2.2 (zwT_4 _ hk).1) (zWS.ni hW (o := 49 + 3 * k) (zwT_4 _ hk).2.2.2.2 (zwT_4 _ hk).2.1) (by decide) rfl (zpc_at (o := 49 + 3 * k) (zpk_4 _ hk) (zwT_4 _ hk).2.2.2.2)).trans ?_
      refine (ys4 98 (v := .int ((vcar V k ((V 4 k 2)) (nI i)))) rfl rfl rfl rfl).trans ?_
      refine (yc1 101 rfl rfl (Nat.le_of_ble_eq_true rfl) (Or.inl rfl) rfl rfl c_bit).trans ?_
      refine (ys7_4 102 rfl rfl).trans ?_
      refine (yq 105 rfl (zWS.tag hW (o := 49 + 3 * k) (zwT_4 _ hk).2.2.2.2 (zwT_4 _ hk).1) (zWS.k0 hW (o := 49 + 3 * k)) (zWS.ni hW (o := 49 + 3 * k) (zwT_4 _ hk).2.2.2.2 (zwT_4 _ hk).2.1) (by decide) rfl (zpc_up (o := 49 + 3 * k) (zpk_4 _ hk) (zwT_4 _ hk).2.2.2.2)).trans ?_
      generalize hV4 : zvu V3 4 k 3 (((V3 4 k 3) ||| (vbit (vcar V k ((V 4 k 2)) (nI i))))) = V4
      refine (ys4 106 (v := .ref (w + (49 + 3 * k))) rfl rfl rfl rfl).trans ?_
      refine (ys14 107 rfl (Nat.le_of_ble_eq_true rfl) rfl).trans ?_
      refine (yg 110 rfl (zWS.tag hW (o := 49 + 3 * k) (zwT_4 _ hk).2.2.2.2 (zwT_4 _ hk).1) (zWS.ni hW (o := 49 + 3 * k) (zwT_4 _ hk).2.2.2.2 (zwT_4 _ hk).2.1) (by decide) rfl (zpc_at (o := 49 + 3 * k) (zpk_4 _ hk) (zwT_4 _ hk).2.2.2.2)).trans ?_
      refine (ys1 111 (x := 1) rfl rfl rfl).trans ?_
      refine (ys7_0 112 rfl rfl).trans ?_
      refine (yq 115 rfl (zWS.tag hW (o := 49 + 3 * k) (zwT_4 _ hk).2.2.2.2 (zwT_4 _ hk).1) (zWS.k0 hW (o := 49 + 3 * k)) (zWS.ni hW (o := 49 + 3 * k) (zwT_4 _ hk).2.2.2.2 (zwT_4 _ hk).2.1) (by decide) rfl (zpc_up (o := 49 + 3 * k) (zpk_4 _ hk) (zwT_4 _ hk).2.2.2.2)).trans ?_
      generalize hV5 : zvu V4 4 k 4 (((V4 4 k 4) + 1)) = V5
      refine (ys6 118 (y := nI (i + 1)) (L2 := [(4, .int (nI (i + 1))), (6, .ref (w + (23 + (zsf (vcar V k ((V 4 k 2)) (nI i)) 20)))), (5, .int ((vcar V k ((V 4 k 2)) (nI i)))), (3, .int (nI n)), (2, .ref (w + (49 + 3 * k))), (0, .ref (w)), (1, .int (num))]) rfl rfl (nI_1 _) rfl rfl).trans ?_
      refine (ys19 rfl).trans ?_
      refine zden1_fg (L := [(4, .int (nI (i + 1))), (3, .int (nI n)), (2, .ref (w + (49 + 3 * k))), (0, .ref w), (1, .int num)]) (zfg_cons rfl (zfg_cons rfl (zfg_cons rfl (zfg_cons rfl (zfg_cons rfl zfg_nil))))) ?_; rw [show vsd1 V k num i = V5 from by subst hV5 hV4 hV3 hV2 hV1; unfold vsd1; dsimp only; rw [if_neg h43]]; exact l_sd hW hk hn m (i + 1) _ (by omega)

theorem c_sd {d : Nat} {w : Nat} {V : zV} {J : Nat → Nat → Int32} {μ : zM} (hW : zWS μ w) {k : Nat} (hk : k < 12) {n : Nat} (hn : n ≤ 20) (hs : vsize V k (V 4 k 2) = nI n) : zden zcds (d + 4) 94 [.ref (w), .int (nI k)] (zwi μ (zpc J w V)) = some (0, none, 0, 0, zwi μ (zpc J w (vsdL k (nI k) n 0 V))) := by
  refine (zd_in (d := d + 3) (cd := zc94) (nL := 7) (L := [(0, .ref (w)), (1, .int (nI k))]) rfl (Nat.le_of_ble_eq_true rfl) rfl).trans ?_
  refine (ys4 1 (v := .ref (w)) rfl rfl rfl rfl).trans ?_
  refine (ys4 2 (v := .int (nI k)) rfl rfl rfl rfl).trans ?_
  refine (yc2 5 rfl rfl (Nat.le_of_ble_eq_true rfl) (Or.inr (by show ztg (zwi _ _) _ = _; rw [ztg_wi]; exact (zWS.tag hW (o := 0) (by decide) rfl))) rfl rfl (c_at4n hW hk)).trans ?_
  refine (ys5 6 (L2 := [(2, .ref (w + (49 + 3 * k))), (0, .ref (w)), (1, .int (nI k))]) rfl rfl rfl rfl).trans ?_
  refine (ys4 7 (v := .ref (w + (49 + 3 * k))) rfl rfl rfl rfl).trans ?_
  refine (ys4 8 (v := .ref (w + (49 + 3 * k))) rfl rfl rfl rfl).trans ?_
  refine (yg 11 rfl (zWS.tag hW (o := 49 + 3 * k) (zwT_4 _ hk).2.2.2.2 (zwT_4 _ hk).1) (zWS.ni hW (o := 49 + 3 * k) (zwT_4 _ hk).2.2.2.2 (zwT_4 _ hk).2.1) (by decide) rfl (zpc_at (o := 49 + 3 * k) (zpk_4 _ hk) (zwT_4 _ hk).2.2.2.2)).trans ?_
  refine (yc2 14 rfl rfl (Nat.le_of_ble_eq_true rfl) (Or.inr (by show ztg (zwi _ _) _ = _; rw [ztg_wi]; exact (zWS.tag hW (o := 49 + 3 * k) (zwT_4 _ hk).2.2.2.2 (zwT_4 _ hk).1))) rfl rfl (c_sizeN hW hk hs)).trans ?_
  refine (ys5 15 (L2 := [(3, .int (nI n)), (2, .ref (w + (49 + 3 * k))), (0, .ref (w)), (1, .int (nI k))]) rfl rfl rfl rfl).trans ?_
  refine (ys1 16 (x := nI 0) rfl rfl rfl).trans ?_
  refine (ys5 18 (L2 := [(4, .int (nI 0)), (3, .int (nI n)), (2, .ref (w + (49 + 3 * k))), (0, .ref (w)), (1, .int (nI k))]) rfl rfl rfl rfl).trans ?_
  exact l_sd hW hk hn n 0 V (by omega)

