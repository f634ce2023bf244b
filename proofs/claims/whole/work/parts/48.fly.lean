/-! A PIGEON THAT FLIES AND COMES HOME -/
def vhome (V : zV) (p : Nat) : zV :=
  let V1 := zvu V 2 p 0 0
  let V2 := zvu V1 2 p 2 (V1 2 p 1)
  let k := zsf (V2 2 p 10) 12
  if V2 4 k 2 = V2 2 p 11 then vgo V2 k (V2 2 p 1) (V2 0 0 4) else zvu V2 0 0 5 (V2 0 0 5 + 1)
def vfly3 (V : zV) (p : Nat) : zV :=
  if V 2 p 5 = V 2 p 7 then
    if V 2 p 6 = V 2 p 8 then
      let V1 := zvu V 2 p 9 (V 2 p 9 + 1)
      if V1 2 p 9 ≤ 24 then V1 else zvu V1 2 p 0 2
    else V
  else V
def vfly2 (V : zV) (p h : Nat) : zV :=
  let V1 := zvu V 2 p 5 (znear (V 2 p 5) (V 2 p 7) (V 2 p 3))
  let V2 := zvu V1 2 p 6 (znear (V1 2 p 6) (V1 2 p 8) (V1 2 p 3))
  if V2 2 p 5 = V2 1 h 1 then if V2 2 p 6 = V2 1 h 2 then vhome V2 p else vfly3 V2 p else vfly3 V2 p
def vfly (V : zV) (p : Nat) : zV :=
  let h := zsf (V 2 p 1) 6
  if V 2 p 4 + V 2 p 9 < vdfh V p then vfly2 V p h else
  let V1 := zvu V 2 p 7 (V 1 h 1)
  let V2 := zvu V1 2 p 8 (V1 1 h 2)
  vfly2 V2 p h

theorem c_home {d : Nat} {w : Nat} {V : zV} {J : Nat → Nat → Int32} {μ : zM} (hW : zWS μ w) {p : Nat} (hp : p < 20) : zden zcds (d + 3) 96 [.ref (w), .ref (w + (23 + p))] (zwi μ (zpc J w V)) = some (0, none, 0, 0, zwi μ (zpc J w (vhome V p))) := by
  refine (zd_in (d := d + 2) (cd := zc96) (nL := 3) (L := [(0, .ref (w)), (1, .ref (w + (23 + p)))]) rfl (Nat.le_of_ble_eq_true rfl) rfl).trans ?_
  refine (ys4 1 (v := .ref (w + (23 + p))) rfl rfl rfl rfl).trans ?_
  refine (ys1 2 (x := 0) rfl rfl rfl).trans ?_
  refine (yq 5 rfl (zWS.tag hW (o := 23 + p) (zwT_2 _ hp).2.2 (zwT_2 _ hp).1) (zWS.k0 hW (o := 23 + p)) (zWS.ni hW (o := 23 + p) (zwT_2 _ hp).2.2 (zwT_2 _ hp).2.1) (by decide) rfl (zpc_up (o := 23 + p) (zpk_2 _ hp) (zwT_2 _ hp).2.2)).trans ?_
  generalize hV1 : zvu V 2 p 0 (0) = V1
  refine (ys4 6 (v := .ref (w + (23 + p))) rfl rfl rfl rfl).trans ?_
  refine (ys4 7 (v := .ref (w + (23 + p))) rfl rfl rfl rfl).trans ?_
  refine (yg 10 rfl (zWS.tag hW (o := 23 + p) (zwT_2 _ hp).2.2 (zwT_2 _ hp).1) (zWS.ni hW (o := 23 + p) (zwT_2 _ hp).2.2 (zwT_2 _ hp).2.1) (by decide) rfl (zpc_at (o := 23 + p) (zpk_2 _ hp) (zwT_2 _ hp).2.2)).trans ?_
  refine (yq 13 rfl (zWS.tag hW (o := 23 + p) (zwT_2 _ hp).2.2 (zwT_2 _ hp).1) (zWS.k0 hW (o := 23 + p)) (zWS.ni hW (o := 23 + p) (zwT_2 _ hp).2.2 (zwT_2 _ hp).2.1) (by decide) rfl (zpc_up (o := 23 + p) (zpk_2 _ hp) (zwT_2 _ hp).2.2)).trans ?_
  generalize hV2 : zvu V1 2 p 2 ((V1 2 p 1)) = V2
  refine (ys4 14 (v := .ref (w)) rfl rfl rfl rfl).trans ?_
  refine (ys4 15 (v := .ref (w + (23 + p))) rfl rfl rfl rfl).trans ?_
  refine (yg 18 rfl (zWS.tag hW (o := 23 + p) (zwT_2 _ hp).2.2 (zwT_2 _ hp).1) (zWS.ni hW (o := 23 + p) (zwT_2 _ hp).2.2 (zwT_2 _ hp).2.1) (by decide) rfl (zpc_at (o := 23 + p) (zpk_2 _ hp) (zwT_2 _ hp).2.2)).trans ?_
  refine (yc2 21 rfl rfl (Nat.le_of_ble_eq_true rfl) (Or.inr (by show ztg (zwi _ _) _ = _; rw [ztg_wi]; exact (zWS.tag hW (o := 0) (by decide) rfl))) rfl rfl (c_at4 hW)).trans ?_
  refine (ys5 22 (L2 := [(2, .ref (w + (49 + 3 * (zsf (V2 2 p 10) 12)))), (0, .ref (w)), (1, .ref (w + (23 + p)))]) rfl rfl rfl rfl).trans ?_
  refine (ys4 23 (v := .ref (w + (49 + 3 * (zsf (V2 2 p 10) 12)))) rfl rfl rfl rfl).trans ?_
  refine (yg 26 rfl (zWS.tag hW (o := 49 + 3 * (zsf (V2 2 p 10) 12)) (zwT_4 _ (zsf_lt (i := (V2 2 p 10)) (n := 12) (by decide) (by decide))).2.2.2.2 (zwT_4 _ (zsf_lt (i := (V2 2 p 10)) (n := 12) (by decide) (by decide))).1) (zWS.ni hW (o := 49 + 3 * (zsf (V2 2 p 10) 12)) (zwT_4 _ (zsf_lt (i := (V2 2 p 10)) (n := 12) (by decide) (by decide))).2.2.2.2 (zwT_4 _ (zsf_lt (i := (V2 2 p 10)) (n := 12) (by decide) (by decide))).2.1) (by decide) rfl (zpc_at (o := 49 + 3 * (zsf (V2 2 p 10) 12)) (zpk_4 _ (zsf_lt (i := (V2 2 p 10)) (n := 12) (by decide) (by decide))) (zwT_4 _ (zsf_lt (i := (V2 2 p 10)) (n := 12) (by decide) (by decide))).2.2.2.2)).trans ?_
  refine (ys4 27 (v := .ref (w + (23 + p))) rfl rfl rfl rfl).trans ?_
  refine (yg 30 rfl (zWS.tag hW (o := 23 + p) (zwT_2 _ hp).2.2 (zwT_2 _ hp).1) (zWS.ni hW (o := 23 + p) (zwT_2 _ hp).2.2 (zwT_2 _ hp).2.1) (by decide) rfl (zpc_at (o := 23 + p) (zpk_2 _ hp) (zwT_2 _ hp).2.2)).trans ?_
  refine ys18_1 33 rfl rfl (fun h30 => ?_) (fun h30 => ?_)
  · refine (ys4 34 (v := .ref (w + (49 + 3 * (zsf (V2 2 p 10) 12)))) rfl rfl rfl rfl).trans ?_
    refine (ys4 35 (v := .ref (w + (23 + p))) rfl rfl rfl rfl).trans ?_
    refine (yg 38 rfl (zWS.tag hW (o := 23 + p) (zwT_2 _ hp).2.2 (zwT_2 _ hp).1) (zWS.ni hW (o := 23 + p) (zwT_2 _ hp).2.2 (zwT_2 _ hp).2.1) (by decide) rfl (zpc_at (o := 23 + p) (zpk_2 _ hp) (zwT_2 _ hp).2.2)).trans ?_
    refine (ys4 39 (v := .ref (w)) rfl rfl rfl rfl).trans ?_
    refine (yg 42 rfl (zWS.tag hW (o := 0) (by decide) rfl) (zWS.ni hW (o := 0) (by decide) rfl) (by decide) rfl (zpc_at (o := 0) (q := 0) (i := 0) rfl (by decide))).trans ?_
    refine (yc3 45 rfl rfl (Nat.le_of_ble_eq_true rfl) (Or.inr (by show ztg (zwi _ _) _ = _; rw [ztg_wi]; exact (zWS.tag hW (o := 49 + 3 * (zsf (V2 2 p 10) 12)) (zwT_4 _ (zsf_lt (i := (V2 2 p 10)) (n := 12) (by decide) (by decide))).2.2.2.2 (zwT_4 _ (zsf_lt (i := (V2 2 p 10)) (n := 12) (by decide) (by decide))).1))) rfl rfl (c_go hW (zsf_lt (i := (V2 2 p 10)) (n := 12) (by decide) (by decide)))).trans ?_
    generalize hV3 : vgo V2 (zsf (V2 2 p 10) 12) ((V2 2 p 1)) ((V2 0 0 4)) = V3
    refine (ys19 rfl).trans ?_
    refine (ys36v rfl rfl).trans ?_
    subst hV3 hV2 hV1; unfold vhome; (try dsimp only); rw [if_pos h30]
  · refine (ys4 49 (v := .ref (w)) rfl rfl rfl rfl).trans ?_
    refine (ys14 50 rfl (Nat.le_of_ble_eq_true rfl) rfl).trans ?_
    refine (yg 53 rfl (zWS.tag hW (o := 0) (by decide) rfl) (zWS.ni hW (o := 0) (by decide) rfl) (by decide) rfl (zpc_at (o := 0) (q := 0) (i := 0) rfl (by decide))).trans ?_
    refine (ys1 54 (x := 1) rfl rfl rfl).trans ?_
    refine (ys7_0 55 rfl rfl).trans ?_
    refine (yq 58 rfl (zWS.tag hW (o := 0) (by decide) rfl) (zWS.k0 hW (o := 0)) (zWS.ni hW (o := 0) (by decide) rfl) (by decide) rfl (zpc_up (o := 0) (q := 0) (i := 0) rfl (by decide))).trans ?_
    generalize hV4 : zvu V2 0 0 5 (((V2 0 0 5) + 1)) = V4
    refine (ys36v rfl rfl).trans ?_
    subst hV4 hV2 hV1; unfold vhome; (try dsimp only); rw [if_neg h30]

theorem c_fly {d : Nat} {w : Nat} {V : zV} {J : Nat → Nat → Int32} {μ : zM} (hW : zWS μ w) {p : Nat} (hp : p < 20) : zden zcds (d + 5) 95 [.ref (w), .ref (w + (23 + p))] (zwi μ (zpc J w V)) = some (0, none, 0, 0, zwi μ (zpc J w (vfly V p))) := by
  refine (zd_in (d := d + 4) (cd := zc95) (nL := 3) (L := [(0, .ref (w)), (1, .ref (w + (23 + p)))]) rfl (Nat.le_of_ble_eq_true rfl) rfl).trans ?_
  refine (ys4 1 (v := .ref (w)) rfl rfl rfl rfl).trans ?_
  refine (ys4 2 (v := .ref (w + (23 + p))) rfl rfl rfl rfl).trans ?_
  refine (yg 5 rfl (zWS.tag hW (o := 23 + p) (zwT_2 _ hp).2.2 (zwT_2 _ hp).1) (zWS.ni hW (o := 23 + p) (zwT_2 _ hp).2.2 (zwT_2 _ hp).2.1) (by decide) rfl (zpc_at (o := 23 + p) (zpk_2 _ hp) (zwT_2 _ hp).2.2)).trans ?_
  refine (yc2 8 rfl rfl (Nat.le_of_ble_eq_true rfl) (Or.inr (by show ztg (zwi _ _) _ = _; rw [ztg_wi]; exact (zWS.tag hW (o := 0) (by decide) rfl))) rfl rfl (c_at1 hW)).trans ?_
  refine (ys5 9 (L2 := [(2, .ref (w + (5 + 3 * (zsf (V 2 p 1) 6)))), (0, .ref (w)), (1, .ref (w + (23 + p)))]) rfl rfl rfl rfl).trans ?_
  refine (ys4 10 (v := .ref (w)) rfl rfl rfl rfl).trans ?_
  refine (ys4 11 (v := .ref (w + (23 + p))) rfl rfl rfl rfl).trans ?_
  refine (yc2 14 rfl rfl (Nat.le_of_ble_eq_true rfl) (Or.inr (by show ztg (zwi _ _) _ = _; rw [ztg_wi]; exact (zWS.tag hW (o := 0) (by decide) rfl))) rfl rfl (c_dfh hW hp)).trans ?_
  refine (ys4 15 (v := .ref (w + (23 + p))) rfl rfl rfl rfl).trans ?_
  refine (yg 18 rfl (zWS.tag hW (o := 23 + p) (zwT_2 _ hp).2.2 (zwT_2 _ hp).1) (zWS.ni hW (o := 23 + p) (zwT_2 _ hp).2.2 (zwT_2 _ hp).2.1) (by decide) rfl (zpc_at (o := 23 + p) (zpk_2 _ hp) (zwT_2 _ hp).2.2)).trans ?_
  refine (ys4 19 (v := .ref (w + (23 + p))) rfl rfl rfl rfl).trans ?_
  refine (yg 22 rfl (zWS.tag hW (o := 23 + p) (zwT_2 _ hp).2.2 (zwT_2 _ hp).1) (zWS.ni hW (o := 23 + p) (zwT_2 _ hp).2.2 (zwT_2 _ hp).2.1) (by decide) rfl (zpc_at (o := 23 + p) (zpk_2 _ hp) (zwT_2 _ hp).2.2)).trans ?_
  refine (ys7_0 23 rfl rfl).trans ?_
  refine ys18_4 26 rfl rfl (fun h23 => ?_) (fun h23 => ?_)
  · refine (ys4 43 (v := .ref (w + (23 + p))) rfl rfl rfl rfl).trans ?_
    refine (ys4 44 (v := .ref (w + (23 + p))) rfl rfl rfl rfl).trans ?_
    refine (yg 47 rfl (zWS.tag hW (o := 23 + p) (zwT_2 _ hp).2.2 (zwT_2 _ hp).1) (zWS.ni hW (o := 23 + p) (zwT_2 _ hp).2.2 (zwT_2 _ hp).2.1) (by decide) rfl (zpc_at (o := 23 + p) (zpk_2 _ hp) (zwT_2 _ hp).2.2)).trans ?_
    refine (ys4 48 (v := .ref (w + (23 + p))) rfl rfl rfl rfl).trans ?_
    refine (yg 51 rfl (zWS.tag hW (o := 23 + p) (zwT_2 _ hp).2.2 (zwT_2 _ hp).1) (zWS.ni hW (o := 23 + p) (zwT_2 _ hp).2.2 (zwT_2 _ hp).2.1) (by decide) rfl (zpc_at (o := 23 + p) (zpk_2 _ hp) (zwT_2 _ hp).2.2)).trans ?_
    refine (ys4 52 (v := .ref (w + (23 + p))) rfl rfl rfl rfl).trans ?_
    refine (yg 55 rfl (zWS.tag hW (o := 23 + p) (zwT_2 _ hp).2.2 (zwT_2 _ hp).1) (zWS.ni hW (o := 23 + p) (zwT_2 _ hp).2.2 (zwT_2 _ hp).2.1) (by decide) rfl (zpc_at (o := 23 + p) (zpk_2 _ hp) (zwT_2 _ hp).2.2)).trans ?_
    refine (yc3 58 rfl rfl (Nat.le_of_ble_eq_true rfl) (Or.inl rfl) rfl rfl c_near).trans ?_
    refine (yq 61 rfl (zWS.tag hW (o := 23 + p) (zwT_2 _ hp).2.2 (zwT_2 _ hp).1) (zWS.k0 hW (o := 23 + p)) (zWS.ni hW (o := 23 + p) (zwT_2 _ hp).2.2 (zwT_2 _ hp).2.1) (by decide) rfl (zpc_up (o := 23 + p) (zpk_2 _ hp) (zwT_2 _ hp).2.2)).trans ?_
    generalize hV1 : zvu V 2 p 5 ((znear (V 2 p 5) (V 2 p 7) (V 2 p 3))) = V1
    refine (ys4 62 (v := .ref (w + (23 + p))) rfl rfl rfl rfl).trans ?_
    refine (ys4 63 (v := .ref (w + (23 + p))) rfl rfl rfl rfl).trans ?_
    refine (yg 66 rfl (zWS.tag hW (o := 23 + p) (zwT_2 _ hp).2.2 (zwT_2 _ hp).1) (zWS.ni hW (o := 23 + p) (zwT_2 _ hp).2.2 (zwT_2 _ hp).2.1) (by decide) rfl (zpc_at (o := 23 + p) (zpk_2 _ hp) (zwT_2 _ hp).2.2)).trans ?_
    refine (ys4 67 (v := .ref (w + (23 + p))) rfl rfl rfl rfl).trans ?_
    refine (yg 70 rfl (zWS.tag hW (o := 23 + p) (zwT_2 _ hp).2.2 (zwT_2 _ hp).1) (zWS.ni hW (o := 23 + p) (zwT_2 _ hp).2.2 (zwT_2 _ hp).2.1) (by decide) rfl (zpc_at (o := 23 + p) (zpk_2 _ hp) (zwT_2 _ hp).2.2)).trans ?_
    refine (ys4 71 (v := .ref (w + (23 + p))) rfl rfl rfl rfl).trans ?_
    refine (yg 74 rfl (zWS.tag hW (o := 23 + p) (zwT_2 _ hp).2.2 (zwT_2 _ hp).1) (zWS.ni hW (o := 23 + p) (zwT_2 _ hp).2.2 (zwT_2 _ hp).2.1) (by decide) rfl (zpc_at (o := 23 + p) (zpk_2 _ hp) (zwT_2 _ hp).2.2)).trans ?_
    refine (yc3 77 rfl rfl (Nat.le_of_ble_eq_true rfl) (Or.inl rfl) rfl rfl c_near).trans ?_
    refine (yq 80 rfl (zWS.tag hW (o := 23 + p) (zwT_2 _ hp).2.2 (zwT_2 _ hp).1) (zWS.k0 hW (o := 23 + p)) (zWS.ni hW (o := 23 + p) (zwT_2 _ hp).2.2 (zwT_2 _ hp).2.1) (by decide) rfl (zpc_up (o := 23 + p) (zpk_2 _ hp) (zwT_2 _ hp).2.2)).trans ?_
    generalize hV2 : zvu V1 2 p 6 ((znear (V1 2 p 6) (V1 2 p 8) (V1 2 p 3))) = V2
    refine (ys4 81 (v := .ref (w + (23 + p))) rfl rfl rfl rfl).trans ?_
    refine (yg 84 rfl (zWS.tag hW (o := 23 + p) (zwT_2 _ hp).2.2 (zwT_2 _ hp).1) (zWS.ni hW (o := 23 + p) (zwT_2 _ hp).2.2 (zwT_2 _ hp).2.1) (by decide) rfl (zpc_at (o := 23 + p) (zpk_2 _ hp) (zwT_2 _ hp).2.2)).trans ?_
    refine (ys4 85 (v := .ref (w + (5 + 3 * (zsf (V 2 p 1) 6)))) rfl rfl rfl rfl).trans ?_
    refine (yg 88 rfl (zWS.tag hW (o := 5 + 3 * (zsf (V 2 p 1) 6)) (zwT_1 _ (zsf_lt (i := (V 2 p 1)) (n := 6) (by decide) (by decide))).2.2.2.2 (zwT_1 _ (zsf_lt (i := (V 2 p 1)) (n := 6) (by decide) (by decide))).1) (zWS.ni hW (o := 5 + 3 * (zsf (V 2 p 1) 6)) (zwT_1 _ (zsf_lt (i := (V 2 p 1)) (n := 6) (by decide) (by decide))).2.2.2.2 (zwT_1 _ (zsf_lt (i := (V 2 p 1)) (n := 6) (by decide) (by decide))).2.1) (by decide) rfl (zpc_at (o := 5 + 3 * (zsf (V 2 p 1) 6)) (zpk_1 _ (zsf_lt (i := (V 2 p 1)) (n := 6) (by decide) (by decide))) (zwT_1 _ (zsf_lt (i := (V 2 p 1)) (n := 6) (by decide) (by decide))).2.2.2.2)).trans ?_
    refine ys18_1 91 rfl rfl (fun h88 => ?_) (fun h88 => ?_)
    · refine (ys4 92 (v := .ref (w + (23 + p))) rfl rfl rfl rfl).trans ?_
      refine (yg 95 rfl (zWS.tag hW (o := 23 + p) (zwT_2 _ hp).2.2 (zwT_2 _ hp).1) (zWS.ni hW (o := 23 + p) (zwT_2 _ hp).2.2 (zwT_2 _ hp).2.1) (by decide) rfl (zpc_at (o := 23 + p) (zpk_2 _ hp) (zwT_2 _ hp).2.2)).trans ?_
      refine (ys4 96 (v := .ref (w + (5 + 3 * (zsf (V 2 p 1) 6)))) rfl rfl rfl rfl).trans ?_
      refine (yg 99 rfl (zWS.tag hW (o := 5 + 3 * (zsf (V 2 p 1) 6)) (zwT_1 _ (zsf_lt (i := (V 2 p 1)) (n := 6) (by decide) (by decide))).2.2.2.2 (zwT_1 _ (zsf_lt (i := (V 2 p 1)) (n := 6) (by decide) (by decide))).1) (zWS.ni hW (o := 5 + 3 * (zsf (V 2 p 1) 6)) (zwT_1 _ (zsf_lt (i := (V 2 p 1)) (n := 6) (by decide) (by decide))).2.2.2.2 (zwT_1 _ (zsf_lt (i := (V 2 p 1)) (n := 6) (by decide) (by decide))).2.1) (by decide) rfl (zpc_at (o := 5 + 3 * (zsf (V 2 p 1) 6)) (zpk_1 _ (zsf_lt (i := (V 2 p 1)) (n := 6) (by decide) (by decide))) (zwT_1 _ (zsf_lt (i := (V 2 p 1)) (n := 6) (by decide) (by decide))).2.2.2.2)).trans ?_
      refine ys18_1 102 rfl rfl (fun h99 => ?_) (fun h99 => ?_)
      · refine (ys4 103 (v := .ref (w)) rfl rfl rfl rfl).trans ?_
        refine (ys4 104 (v := .ref (w + (23 + p))) rfl rfl rfl rfl).trans ?_
        refine (yc2 107 rfl rfl (Nat.le_of_ble_eq_true rfl) (Or.inr (by show ztg (zwi _ _) _ = _; rw [ztg_wi]; exact (zWS.tag hW (o := 0) (by decide) rfl))) rfl rfl (c_home hW hp)).trans ?_
        generalize hV3 : vhome V2 p = V3
        refine (ys19 rfl).trans ?_
        refine (ys36v rfl rfl).trans ?_
        subst hV3 hV2 hV1; unfold vfly vfly2 vfly3; (try dsimp only); rw [if_pos h23, if_pos h88, if_pos h99]
      · refine (ys4 111 (v := .ref (w + (23 + p))) rfl rfl rfl rfl).trans ?_
        refine (yg 114 rfl (zWS.tag hW (o := 23 + p) (zwT_2 _ hp).2.2 (zwT_2 _ hp).1) (zWS.ni hW (o := 23 + p) (zwT_2 _ hp).2.2 (zwT_2 _ hp).2.1) (by decide) rfl (zpc_at (o := 23 + p) (zpk_2 _ hp) (zwT_2 _ hp).2.2)).trans ?_
        refine (ys4 115 (v := .ref (w + (23 + p))) rfl rfl rfl rfl).trans ?_
        refine (yg 118 rfl (zWS.tag hW (o := 23 + p) (zwT_2 _ hp).2.2 (zwT_2 _ hp).1) (zWS.ni hW (o := 23 + p) (zwT_2 _ hp).2.2 (zwT_2 _ hp).2.1) (by decide) rfl (zpc_at (o := 23 + p) (zpk_2 _ hp) (zwT_2 _ hp).2.2)).trans ?_
        refine ys18_1 121 rfl rfl (fun h118 => ?_) (fun h118 => ?_)
        · refine (ys4 122 (v := .ref (w + (23 + p))) rfl rfl rfl rfl).trans ?_
          refine (yg 125 rfl (zWS.tag hW (o := 23 + p) (zwT_2 _ hp).2.2 (zwT_2 _ hp).1) (zWS.ni hW (o := 23 + p) (zwT_2 _ hp).2.2 (zwT_2 _ hp).2.1) (by decide) rfl (zpc_at (o := 23 + p) (zpk_2 _ hp) (zwT_2 _ hp).2.2)).trans ?_
          refine (ys4 126 (v := .ref (w + (23 + p))) rfl rfl rfl rfl).trans ?_
          refine (yg 129 rfl (zWS.tag hW (o := 23 + p) (zwT_2 _ hp).2.2 (zwT_2 _ hp).1) (zWS.ni hW (o := 23 + p) (zwT_2 _ hp).2.2 (zwT_2 _ hp).2.1) (by decide) rfl (zpc_at (o := 23 + p) (zpk_2 _ hp) (zwT_2 _ hp).2.2)).trans ?_
          refine ys18_1 132 rfl rfl (fun h129 => ?_) (fun h129 => ?_)
          · refine (ys4 133 (v := .ref (w + (23 + p))) rfl rfl rfl rfl).trans ?_
            refine (ys14 134 rfl (Nat.le_of_ble_eq_true rfl) rfl).trans ?_
            refine (yg 137 rfl (zWS.tag hW (o := 23 + p) (zwT_2 _ hp).2.2 (zwT_2 _ hp).1) (zWS.ni hW (o := 23 + p) (zwT_2 _ hp).2.2 (zwT_2 _ hp).2.1) (by decide) rfl (zpc_at (o := 23 + p) (zpk_2 _ hp) (zwT_2 _ hp).2.2)).trans ?_
            refine (ys1 138 (x := 1) rfl rfl rfl).trans ?_
            refine (ys7_0 139 rfl rfl).trans ?_
            refine (yq 142 rfl (zWS.tag hW (o := 23 + p) (zwT_2 _ hp).2.2 (zwT_2 _ hp).1) (zWS.k0 hW (o := 23 + p)) (zWS.ni hW (o := 23 + p) (zwT_2 _ hp).2.2 (zwT_2 _ hp).2.1) (by decide) rfl (zpc_up (o := 23 + p) (zpk_2 _ hp) (zwT_2 _ hp).2.2)).trans ?_
            generalize hV4 : zvu V2 2 p 9 (((V2 2 p 9) + 1)) = V4
            refine (ys4 143 (v := .ref (w + (23 + p))) rfl rfl rfl rfl).trans ?_
            refine (yg 146 rfl (zWS.tag hW (o := 23 + p) (zwT_2 _ hp).2.2 (zwT_2 _ hp).1) (zWS.ni hW (o := 23 + p) (zwT_2 _ hp).2.2 (zwT_2 _ hp).2.1) (by decide) rfl (zpc_at (o := 23 + p) (zpk_2 _ hp) (zwT_2 _ hp).2.2)).trans ?_
            refine (ys1 148 (x := 24) rfl rfl rfl).trans ?_
            refine ys18_5 151 rfl rfl (fun h148 => ?_) (fun h148 => ?_)
            · refine (ys36v rfl rfl).trans ?_
              subst hV4 hV2 hV1; unfold vfly vfly2 vfly3; (try dsimp only); rw [if_pos h23, if_pos h88, if_neg h99, if_pos h118, if_pos h129, if_pos h148]
            · refine (ys4 152 (v := .ref (w + (23 + p))) rfl rfl rfl rfl).trans ?_
              refine (ys1 153 (x := 2) rfl rfl rfl).trans ?_
              refine (yq 156 rfl (zWS.tag hW (o := 23 + p) (zwT_2 _ hp).2.2 (zwT_2 _ hp).1) (zWS.k0 hW (o := 23 + p)) (zWS.ni hW (o := 23 + p) (zwT_2 _ hp).2.2 (zwT_2 _ hp).2.1) (by decide) rfl (zpc_up (o := 23 + p) (zpk_2 _ hp) (zwT_2 _ hp).2.2)).trans ?_
              generalize hV5 : zvu V4 2 p 0 (2) = V5
              refine (ys36v rfl rfl).trans ?_
              subst hV5 hV4 hV2 hV1; unfold vfly vfly2 vfly3; (try dsimp only); rw [if_pos h23, if_pos h88, if_neg h99, if_pos h118, if_pos h129, if_neg h148]
          · refine (ys36v rfl rfl).trans ?_
            subst hV2 hV1; unfold vfly vfly2 vfly3; (try dsimp only); rw [if_pos h23, if_pos h88, if_neg h99, if_pos h118, if_neg h129]
        · refine (ys36v rfl rfl).trans ?_
          subst hV2 hV1; unfold vfly vfly2 vfly3; (try dsimp only); rw [if_pos h23, if_pos h88, if_neg h99, if_neg h118]
    · refine (ys4 111 (v := .ref (w + (23 + p))) rfl rfl rfl rfl).trans ?_
      refine (yg 114 rfl (zWS.tag hW (o := 23 + p) (zwT_2 _ hp).2.2 (zwT_2 _ hp).1) (zWS.ni hW (o := 23 + p) (zwT_2 _ hp).2.2 (zwT_2 _ hp).2.1) (by decide) rfl (zpc_at (o := 23 + p) (zpk_2 _ hp) (zwT_2 _ hp).2.2)).trans ?_
      refine (ys4 115 (v := .ref (w + (23 + p))) rfl rfl rfl rfl).trans ?_
      refine (yg 118 rfl (zWS.tag hW (o := 23 + p) (zwT_2 _ hp).2.2 (zwT_2 _ hp).1) (zWS.ni hW (o := 23 + p) (zwT_2 _ hp).2.2 (zwT_2 _ hp).2.1) (by decide) rfl (zpc_at (o := 23 + p) (zpk_2 _ hp) (zwT_2 _ hp).2.2)).trans ?_
      refine ys18_1 121 rfl rfl (fun h118 => ?_) (fun h118 => ?_)
      · refine (ys4 122 (v := .ref (w + (23 + p))) rfl rfl rfl rfl).trans ?_
        refine (yg 125 rfl (zWS.tag hW (o := 23 + p) (zwT_2 _ hp).2.2 (zwT_2 _ hp).1) (zWS.ni hW (o := 23 + p) (zwT_2 _ hp).2.2 (zwT_2 _ hp).2.1) (by decide) rfl (zpc_at (o := 23 + p) (zpk_2 _ hp) (zwT_2 _ hp).2.2)).trans ?_
        refine (ys4 126 (v := .ref (w + (23 + p))) rfl rfl rfl rfl).trans ?_
        refine (yg 129 rfl (zWS.tag hW (o := 23 + p) (zwT_2 _ hp).2.2 (zwT_2 _ hp).1) (zWS.ni hW (o := 23 + p) (zwT_2 _ hp).2.2 (zwT_2 _ hp).2.1) (by decide) rfl (zpc_at (o := 23 + p) (zpk_2 _ hp) (zwT_2 _ hp).2.2)).trans ?_
        refine ys18_1 132 rfl rfl (fun h129 => ?_) (fun h129 => ?_)
        · refine (ys4 133 (v := .ref (w + (23 + p))) rfl rfl rfl rfl).trans ?_
          refine (ys14 134 rfl (Nat.le_of_ble_eq_true rfl) rfl).trans ?_
          refine (yg 137 rfl (zWS.tag hW (o := 23 + p) (zwT_2 _ hp).2.2 (zwT_2 _ hp).1) (zWS.ni hW (o := 23 + p) (zwT_2 _ hp).2.2 (zwT_2 _ hp).2.1) (by decide) rfl (zpc_at (o := 23 + p) (zpk_2 _ hp) (zwT_2 _ hp).2.2)).trans ?_
          refine (ys1 138 (x := 1) rfl rfl rfl).trans ?_
          refine (ys7_0 139 rfl rfl).trans ?_
          refine (yq 142 rfl (zWS.tag hW (o := 23 + p) (zwT_2 _ hp).2.2 (zwT_2 _ hp).1) (zWS.k0 hW (o := 23 + p)) (zWS.ni hW (o := 23 + p) (zwT_2 _ hp).2.2 (zwT_2 _ hp).2.1) (by decide) rfl (zpc_up (o := 23 + p) (zpk_2 _ hp) (zwT_2 _ hp).2.2)).trans ?_
          generalize hV6 : zvu V2 2 p 9 (((V2 2 p 9) + 1)) = V6
          refine (ys4 143 (v := .ref (w + (23 + p))) rfl rfl rfl rfl).trans ?_
          refine (yg 146 rfl (zWS.tag hW (o := 23 + p) (zwT_2 _ hp).2.2 (zwT_2 _ hp).1) (zWS.ni hW (o := 23 + p) (zwT_2 _ hp).2.2 (zwT_2 _ hp).2.1) (by decide) rfl (zpc_at (o := 23 + p) (zpk_2 _ hp) (zwT_2 _ hp).2.2)).trans ?_
          refine (ys1 148 (x := 24) rfl rfl rfl).trans ?_
          refine ys18_5 151 rfl rfl (fun h148 => ?_) (fun h148 => ?_)
          · refine (ys36v rfl rfl).trans ?_
            subst hV6 hV2 hV1; unfold vfly vfly2 vfly3; (try dsimp only); rw [if_pos h23, if_neg h88, if_pos h118, if_pos h129, if_pos h148]
          · refine (ys4 152 (v := .ref (w + (23 + p))) rfl rfl rfl rfl).trans ?_
            refine (ys1 153 (x := 2) rfl rfl rfl).trans ?_
            refine (yq 156 rfl (zWS.tag hW (o := 23 + p) (zwT_2 _ hp).2.2 (zwT_2 _ hp).1) (zWS.k0 hW (o := 23 + p)) (zWS.ni hW (o := 23 + p) (zwT_2 _ hp).2.2 (zwT_2 _ hp).2.1) (by decide) rfl (zpc_up (o := 23 + p) (zpk_2 _ hp) (zwT_2 _ hp).2.2)).trans ?_
            generalize hV7 : zvu V6 2 p 0 (2) = V7
            refine (ys36v rfl rfl).trans ?_
            subst hV7 hV6 hV2 hV1; unfold vfly vfly2 vfly3; (try dsimp only); rw [if_pos h23, if_neg h88, if_pos h118, if_pos h129, if_neg h148]
        · refine (ys36v rfl rfl).trans ?_
          subst hV2 hV1; unfold vfly vfly2 vfly3; (try dsimp only); rw [if_pos h23, if_neg h88, if_pos h118, if_neg h129]
      · refine (ys36v rfl rfl).trans ?_
        subst hV2 hV1; unfold vfly vfly2 vfly3; (try dsimp only); rw [if_pos h23, if_neg h88, if_neg h118]
  · refine (ys4 27 (v := .ref (w + (23 + p))) rfl rfl rfl rfl).trans ?_
    refine (ys4 28 (v := .ref (w + (5 + 3 * (zsf (V 2 p 1) 6)))) rfl rfl rfl rfl).trans ?_
    refine (yg 31 rfl (zWS.tag hW (o := 5 + 3 * (zsf (V 2 p 1) 6)) (zwT_1 _ (zsf_lt (i := (V 2 p 1)) (n := 6) (by decide) (by decide))).2.2.2.2 (zwT_1 _ (zsf_lt (i := (V 2 p 1)) (n := 6) (by decide) (by decide))).1) (zWS.ni hW (o := 5 + 3 * (zsf (V 2 p 1) 6)) (zwT_1 _ (zsf_lt (i := (V 2 p 1)) (n := 6) (by decide) (by decide))).2.2.2.2 (zwT_1 _ (zsf_lt (i := (V 2 p 1)) (n := 6) (by decide) (by decide))).2.1) (by decide) rfl (zpc_at (o := 5 + 3 * (zsf (V 2 p 1) 6)) (zpk_1 _ (zsf_lt (i := (V 2 p 1)) (n := 6) (by decide) (by decide))) (zwT_1 _ (zsf_lt (i := (V 2 p 1)) (n := 6) (by decide) (by decide))).2.2.2.2)).trans ?_
    refine (yq 34 rfl (zWS.tag hW (o := 23 + p) (zwT_2 _ hp).2.2 (zwT_2 _ hp).1) (zWS.k0 hW (o := 23 + p)) (zWS.ni hW (o := 23 + p) (zwT_2 _ hp).2.2 (zwT_2 _ hp).2.1) (by decide) rfl (zpc_up (o := 23 + p) (zpk_2 _ hp) (zwT_2 _ hp).2.2)).trans ?_
    generalize hV8 : zvu V 2 p 7 ((V 1 (zsf (V 2 p 1) 6) 1)) = V8
    refine (ys4 35 (v := .ref (w + (23 + p))) rfl rfl rfl rfl).trans ?_
    refine (ys4 36 (v := .ref (w + (5 + 3 * (zsf (V 2 p 1) 6)))) rfl rfl rfl rfl).trans ?_
    refine (yg 39 rfl (zWS.tag hW (o := 5 + 3 * (zsf (V 2 p 1) 6)) (zwT_1 _ (zsf_lt (i := (V 2 p 1)) (n := 6) (by decide) (by decide))).2.2.2.2 (zwT_1 _ (zsf_lt (i := (V 2 p 1)) (n := 6) (by decide) (by decide))).1) (zWS.ni hW (o := 5 + 3 * (zsf (V 2 p 1) 6)) (zwT_1 _ (zsf_lt (i := (V 2 p 1)) (n := 6) (by decide) (by decide))).2.2.2.2 (zwT_1 _ (zsf_lt (i := (V 2 p 1)) (n := 6) (by decide) (by decide))).2.1) (by decide) rfl (zpc_at (o := 5 + 3 * (zsf (V 2 p 1) 6)) (zpk_1 _ (zsf_lt (i := (V 2 p 1)) (n := 6) (by decide) (by decide))) (zwT_1 _ (zsf_lt (i := (V 2 p 1)) (n := 6) (by decide) (by decide))).2.2.2.2)).trans ?_
    refine (yq 42 rfl (zWS.tag hW (o := 23 + p) (zwT_2 _ hp).2.2 (zwT_2 _ hp).1) (zWS.k0 hW (o := 23 + p)) (zWS.ni hW (o := 23 + p) (zwT_2 _ hp).2.2 (zwT_2 _ hp).2.1) (by decide) rfl (zpc_up (o := 23 + p) (zpk_2 _ hp) (zwT_2 _ hp).2.2)).trans ?_
    generalize hV9 : zvu V8 2 p 8 ((V8 1 (zsf (V 2 p 1) 6) 2)) = V9
    refine (ys4 43 (v := .ref (w + (23 + p))) rfl rfl rfl rfl).trans ?_
    refine (ys4 44 (v := .ref (w + (23 + p))) rfl rfl rfl rfl).trans ?_
    refine (yg 47 rfl (zWS.tag hW (o := 23 + p) (zwT_2 _ hp).2.2 (zwT_2 _ hp).1) (zWS.ni hW (o := 23 + p) (zwT_2 _ hp).2.2 (zwT_2 _ hp).2.1) (by decide) rfl (zpc_at (o := 23 + p) (zpk_2 _ hp) (zwT_2 _ hp).2.2)).trans ?_
    refine (ys4 48 (v := .ref (w + (23 + p))) rfl rfl rfl rfl).trans ?_
    refine (yg 51 rfl (zWS.tag hW (o := 23 + p) (zwT_2 _ hp).2.2 (zwT_2 _ hp).1) (zWS.ni hW (o := 23 + p) (zwT_2 _ hp).2.2 (zwT_2 _ hp).2.1) (by decide) rfl (zpc_at (o := 23 + p) (zpk_2 _ hp) (zwT_2 _ hp).2.2)).trans ?_
    refine (ys4 52 (v := .ref (w + (23 + p))) rfl rfl rfl rfl).trans ?_
    refine (yg 55 rfl (zWS.tag hW (o := 23 + p) (zwT_2 _ hp).2.2 (zwT_2 _ hp).1) (zWS.ni hW (o := 23 + p) (zwT_2 _ hp).2.2 (zwT_2 _ hp).2.1) (by decide) rfl (zpc_at (o := 23 + p) (zpk_2 _ hp) (zwT_2 _ hp).2.2)).trans ?_
    refine (yc3 58 rfl rfl (Nat.le_of_ble_eq_true rfl) (Or.inl rfl) rfl rfl c_near).trans ?_
    refine (yq 61 rfl (zWS.tag hW (o := 23 + p) (zwT_2 _ hp).2.2 (zwT_2 _ hp).1) (zWS.k0 hW (o := 23 + p)) (zWS.ni hW (o := 23 + p) (zwT_2 _ hp).2.2 (zwT_2 _ hp).2.1) (by decide) rfl (zpc_up (o := 23 + p) (zpk_2 _ hp) (zwT_2 _ hp).2.2)).trans ?_
    generalize hV10 : zvu V9 2 p 5 ((znear (V9 2 p 5) (V9 2 p 7) (V9 2 p 3))) = V10
    refine (ys4 62 (v := .ref (w + (23 + p))) rfl rfl rfl rfl).trans ?_
    refine (ys4 63 (v := .ref (w + (23 + p))) rfl rfl rfl rfl).trans ?_
    refine (yg 66 rfl (zWS.tag hW (o := 23 + p) (zwT_2 _ hp).2.2 (zwT_2 _ hp).1) (zWS.ni hW (o := 23 + p) (zwT_2 _ hp).2.2 (zwT_2 _ hp).2.1) (by decide) rfl (zpc_at (o := 23 + p) (zpk_2 _ hp) (zwT_2 _ hp).2.2)).trans ?_
    refine (ys4 67 (v := .ref (w + (23 + p))) rfl rfl rfl rfl).trans ?_
    refine (yg 70 rfl (zWS.tag hW (o := 23 + p) (zwT_2 _ hp).2.2 (zwT_2 _ hp).1) (zWS.ni hW (o := 23 + p) (zwT_2 _ hp).2.2 (zwT_2 _ hp).2.1) (by decide) rfl (zpc_at (o := 23 + p) (zpk_2 _ hp) (zwT_2 _ hp).2.2)).trans ?_
    refine (ys4 71 (v := .ref (w + (23 + p))) rfl rfl rfl rfl).trans ?_
    refine (yg 74 rfl (zWS.tag hW (o := 23 + p) (zwT_2 _ hp).2.2 (zwT_2 _ hp).1) (zWS.ni hW (o := 23 + p) (zwT_2 _ hp).2.2 (zwT_2 _ hp).2.1) (by decide) rfl (zpc_at (o := 23 + p) (zpk_2 _ hp) (zwT_2 _ hp).2.2)).trans ?_
    refine (yc3 77 rfl rfl (Nat.le_of_ble_eq_true rfl) (Or.inl rfl) rfl rfl c_near).trans ?_
    refine (yq 80 rfl (zWS.tag hW (o := 23 + p) (zwT_2 _ hp).2.2 (zwT_2 _ hp).1) (zWS.k0 hW (o := 23 + p)) (zWS.ni hW (o := 23 + p) (zwT_2 _ hp).2.2 (zwT_2 _ hp).2.1) (by decide) rfl (zpc_up (o := 23 + p) (zpk_2 _ hp) (zwT_2 _ hp).2.2)).trans ?_
    generalize hV11 : zvu V10 2 p 6 ((znear (V10 2 p 6) (V10 2 p 8) (V10 2 p 3))) = V11
    refine (ys4 81 (v := .ref (w + (23 + p))) rfl rfl rfl rfl).trans ?_
    refine (yg 84 rfl (zWS.tag hW (o := 23 + p) (zwT_2 _ hp).2.2 (zwT_2 _ hp).1) (zWS.ni hW (o := 23 + p) (zwT_2 _ hp).2.2 (zwT_2 _ hp).2.1) (by decide) rfl (zpc_at (o := 23 + p) (zpk_2 _ hp) (zwT_2 _ hp).2.2)).trans ?_
    refine (ys4 85 (v := .ref (w + (5 + 3 * (zsf (V 2 p 1) 6)))) rfl rfl rfl rfl).trans ?_
    refine (yg 88 rfl (zWS.tag hW (o := 5 + 3 * (zsf (V 2 p 1) 6)) (zwT_1 _ (zsf_lt (i := (V 2 p 1)) (n := 6) (by decide) (by decide))).2.2.2.2 (zwT_1 _ (zsf_lt (i := (V 2 p 1)) (n := 6) (by decide) (by decide))).1) (zWS.ni hW (o := 5 + 3 * (zsf (V 2 p 1) 6)) (zwT_1 _ (zsf_lt (i := (V 2 p 1)) (n := 6) (by decide) (by decide))).2.2.2.2 (zwT_1 _ (zsf_lt (i := (V 2 p 1)) (n := 6) (by decide) (by decide))).2.1) (by decide) rfl (zpc_at (o := 5 + 3 * (zsf (V 2 p 1) 6)) (zpk_1 _ (zsf_lt (i := (V 2 p 1)) (n := 6) (by decide) (by decide))) (zwT_1 _ (zsf_lt (i := (V 2 p 1)) (n := 6) (by decide) (by decide))).2.2.2.2)).trans ?_
    refine ys18_1 91 rfl rfl (fun h88 => ?_) (fun h88 => ?_)
    · refine (ys4 92 (v := .ref (w + (23 + p))) rfl rfl rfl rfl).trans ?_
      refine (yg 95 rfl (zWS.tag hW (o := 23 + p) (zwT_2 _ hp).2.2 (zwT_2 _ hp).1) (zWS.ni hW (o := 23 + p) (zwT_2 _ hp).2.2 (zwT_2 _ hp).2.1) (by decide) rfl (zpc_at (o := 23 + p) (zpk_2 _ hp) (zwT_2 _ hp).2.2)).trans ?_
      refine (ys4 96 (v := .ref (w + (5 + 3 * (zsf (V 2 p 1) 6)))) rfl rfl rfl rfl).trans ?_
      refine (yg 99 rfl (zWS.tag hW (o := 5 + 3 * (zsf (V 2 p 1) 6)) (zwT_1 _ (zsf_lt (i := (V 2 p 1)) (n := 6) (by decide) (by decide))).2.2.2.2 (zwT_1 _ (zsf_lt (i := (V 2 p 1)) (n := 6) (by decide) (by decide))).1) (zWS.ni hW (o := 5 + 3 * (zsf (V 2 p 1) 6)) (zwT_1 _ (zsf_lt (i := (V 2 p 1)) (n := 6) (by decide) (by decide))).2.2.2.2 (zwT_1 _ (zsf_lt (i := (V 2 p 1)) (n := 6) (by decide) (by decide))).2.1) (by decide) rfl (zpc_at (o := 5 + 3 * (zsf (V 2 p 1) 6)) (zpk_1 _ (zsf_lt (i := (V 2 p 1)) (n := 6) (by decide) (by decide))) (zwT_1 _ (zsf_lt (i := (V 2 p 1)) (n := 6) (by decide) (by decide))).2.2.2.2)).trans ?_
      refine ys18_1 102 rfl rfl (fun h99 => ?_) (fun h99 => ?_)
      · refine (ys4 103 (v := .ref (w)) rfl rfl rfl rfl).trans ?_
        refine (ys4 104 (v := .ref (w + (23 + p))) rfl rfl rfl rfl).trans ?_
        refine (yc2 107 rfl rfl (Nat.le_of_ble_eq_true rfl) (Or.inr (by show ztg (zwi _ _) _ = _; rw [ztg_wi]; exact (zWS.tag hW (o := 0) (by decide) rfl))) rfl rfl (c_home hW hp)).trans ?_
        generalize hV12 : vhome V11 p = V12
        refine (ys19 rfl).trans ?_
        refine (ys36v rfl rfl).trans ?_
        subst hV12 hV11 hV10 hV9 hV8; unfold vfly vfly2 vfly3; (try dsimp only); rw [if_neg h23, if_pos h88, if_pos h99]
      · refine (ys4 111 (v := .ref (w + (23 + p))) rfl rfl rfl rfl).trans ?_
        refine (yg 114 rfl (zWS.tag hW (o := 23 + p) (zwT_2 _ hp).2.2 (zwT_2 _ hp).1) (zWS.ni hW (o := 23 + p) (zwT_2 _ hp).2.2 (zwT_2 _ hp).2.1) (by decide) rfl (zpc_at (o := 23 + p) (zpk_2 _ hp) (zwT_2 _ hp).2.2)).trans ?_
        refine (ys4 115 (v := .ref (w + (23 + p))) rfl rfl rfl rfl).trans ?_
        refine (yg 118 rfl (zWS.tag hW (o := 23 + p) (zwT_2 _ hp).2.2 (zwT_2 _ hp).1) (zWS.ni hW (o := 23 + p) (zwT_2 _ hp).2.2 (zwT_2 _ hp).2.1) (by decide) rfl (zpc_at (o := 23 + p) (zpk_2 _ hp) (zwT_2 _ hp).2.2)).trans ?_
        refine ys18_1 121 rfl rfl (fun h118 => ?_) (fun h118 => ?_)
        · refine (ys4 122 (v := .ref (w + (23 + p))) rfl rfl rfl rfl).trans ?_
          refine (yg 125 rfl (zWS.tag hW (o := 23 + p) (zwT_2 _ hp).2.2 (zwT_2 _ hp).1) (zWS.ni hW (o := 23 + p) (zwT_2 _ hp).2.2 (zwT_2 _ hp).2.1) (by decide) rfl (zpc_at (o := 23 + p) (zpk_2 _ hp) (zwT_2 _ hp).2.2)).trans ?_
          refine (ys4 126 (v := .ref (w + (23 + p))) rfl rfl rfl rfl).trans ?_
          refine (yg 129 rfl (zWS.tag hW (o := 23 + p) (zwT_2 _ hp).2.2 (zwT_2 _ hp).1) (zWS.ni hW (o := 23 + p) (zwT_2 _ hp).2.2 (zwT_2 _ hp).2.1) (by decide) rfl (zpc_at (o := 23 + p) (zpk_2 _ hp) (zwT_2 _ hp).2.2)).trans ?_
          refine ys18_1 132 rfl rfl (fun h129 => ?_) (fun h129 => ?_)
          · refine (ys4 133 (v := .ref (w + (23 + p))) rfl rfl rfl rfl).trans ?_
            refine (ys14 134 rfl (Nat.le_of_ble_eq_true rfl) rfl).trans ?_
            refine (yg 137 rfl (zWS.tag hW (o := 23 + p) (zwT_2 _ hp).2.2 (zwT_2 _ hp).1) (zWS.ni hW (o := 23 + p) (zwT_2 _ hp).2.2 (zwT_2 _ hp).2.1) (by decide) rfl (zpc_at (o := 23 + p) (zpk_2 _ hp) (zwT_2 _ hp).2.2)).trans ?_
            refine (ys1 138 (x := 1) rfl rfl rfl).trans ?_
            refine (ys7_0 139 rfl rfl).trans ?_
            refine (yq 142 rfl (zWS.tag hW (o := 23 + p) (zwT_2 _ hp).2.2 (zwT_2 _ hp).1) (zWS.k0 hW (o := 23 + p)) (zWS.ni hW (o := 23 + p) (zwT_2 _ hp).2.2 (zwT_2 _ hp).2.1) (by decide) rfl (zpc_up (o := 23 + p) (zpk_2 _ hp) (zwT_2 _ hp).2.2)).trans ?_
            generalize hV13 : zvu V11 2 p 9 (((V11 2 p 9) + 1)) = V13
            refine (ys4 143 (v := .ref (w + (23 + p))) rfl rfl rfl rfl).trans ?_
            refine (yg 146 rfl (zWS.tag hW (o := 23 + p) (zwT_2 _ hp).2.2 (zwT_2 _ hp).1) (zWS.ni hW (o := 23 + p) (zwT_2 _ hp).2.2 (zwT_2 _ hp).2.1) (by decide) rfl (zpc_at (o := 23 + p) (zpk_2 _ hp) (zwT_2 _ hp).2.2)).trans ?_
            refine (ys1 148 (x := 24) rfl rfl rfl).trans ?_
            refine ys18_5 151 rfl rfl (fun h148 => ?_) (fun h148 => ?_)
            · refine (ys36v rfl rfl).trans ?_
              subst hV13 hV11 hV10 hV9 hV8; unfold vfly vfly2 vfly3; (try dsimp only); rw [if_neg h23, if_pos h88, if_neg h99, if_pos h118, if_pos h129, if_pos h148]
            · refine (ys4 152 (v := .ref (w + (23 + p))) rfl rfl rfl rfl).trans ?_
              refine (ys1 153 (x := 2) rfl rfl rfl).trans ?_
              refine (yq 156 rfl (zWS.tag hW (o := 23 + p) (zwT_2 _ hp).2.2 (zwT_2 _ hp).1) (zWS.k0 hW (o := 23 + p)) (zWS.ni hW (o := 23 + p) (zwT_2 _ hp).2.2 (zwT_2 _ hp).2.1) (by decide) rfl (zpc_up (o := 23 + p) (zpk_2 _ hp) (zwT_2 _ hp).2.2)).trans ?_
              generalize hV14 : zvu V13 2 p 0 (2) = V14
              refine (ys36v rfl rfl).trans ?_
              subst hV14 hV13 hV11 hV10 hV9 hV8; unfold vfly vfly2 vfly3; (try dsimp only); rw [if_neg h23, if_pos h88, if_neg h99, if_pos h118, if_pos h129, if_neg h148]
          · refine (ys36v rfl rfl).trans ?_
            subst hV11 hV10 hV9 hV8; unfold vfly vfly2 vfly3; (try dsimp only); rw [if_neg h23, if_pos h88, if_neg h99, if_pos h118, if_neg h129]
        · refine (ys36v rfl rfl).trans ?_
          subst hV11 hV10 hV9 hV8; unfold vfly vfly2 vfly3; (try dsimp only); rw [if_neg h23, if_pos h88, if_neg h99, if_neg h118]
    · refine (ys4 111 (v := .ref (w + (23 + p))) rfl rfl rfl rfl).trans ?_
      refine (yg 114 rfl (zWS.tag hW (o := 23 + p) (zwT_2 _ hp).2.2 (zwT_2 _ hp).1) (zWS.ni hW (o := 23 + p) (zwT_2 _ hp).2.2 (zwT_2 _ hp).2.1) (by decide) rfl (zpc_at (o := 23 + p) (zpk_2 _ hp) (zwT_2 _ hp).2.2)).trans ?_
      refine (ys4 115 (v := .ref (w + (23 + p))) rfl rfl rfl rfl).trans ?_
      refine (yg 118 rfl (zWS.tag hW (o := 23 + p) (zwT_2 _ hp).2.2 (zwT_2 _ hp).1) (zWS.ni hW (o := 23 + p) (zwT_2 _ hp).2.2 (zwT_2 _ hp).2.1) (by decide) rfl (zpc_at (o := 23 + p) (zpk_2 _ hp) (zwT_2 _ hp).2.2)).trans ?_
      refine ys18_1 121 rfl rfl (fun h118 => ?_) (fun h118 => ?_)
      · refine (ys4 122 (v := .ref (w + (23 + p))) rfl rfl rfl rfl).trans ?_
        refine (yg 125 rfl (zWS.tag hW (o := 23 + p) (zwT_2 _ hp).2.2 (zwT_2 _ hp).1) (zWS.ni hW (o := 23 + p) (zwT_2 _ hp).2.2 (zwT_2 _ hp).2.1) (by decide) rfl (zpc_at (o := 23 + p) (zpk_2 _ hp) (zwT_2 _ hp).2.2)).trans ?_
        refine (ys4 126 (v := .ref (w + (23 + p))) rfl rfl rfl rfl).trans ?_
        refine (yg 129 rfl (zWS.tag hW (o := 23 + p) (zwT_2 _ hp).2.2 (zwT_2 _ hp).1) (zWS.ni hW (o := 23 + p) (zwT_2 _ hp).2.2 (zwT_2 _ hp).2.1) (by decide) rfl (zpc_at (o := 23 + p) (zpk_2 _ hp) (zwT_2 _ hp).2.2)).trans ?_
        refine ys18_1 132 rfl rfl (fun h129 => ?_) (fun h129 => ?_)
        · refine (ys4 133 (v := .ref (w + (23 + p))) rfl rfl rfl rfl).trans ?_
          refine (ys14 134 rfl (Nat.le_of_ble_eq_true rfl) rfl).trans ?_
          refine (yg 137 rfl (zWS.tag hW (o := 23 + p) (zwT_2 _ hp).2.2 (zwT_2 _ hp).1) (zWS.ni hW (o := 23 + p) (zwT_2 _ hp).2.2 (zwT_2 _ hp).2.1) (by decide) rfl (zpc_at (o := 23 + p) (zpk_2 _ hp) (zwT_2 _ hp).2.2)).trans ?_
          refine (ys1 138 (x := 1) rfl rfl rfl).trans ?_
          refine (ys7_0 139 rfl rfl).trans ?_
          refine (yq 142 rfl (zWS.tag hW (o := 23 + p) (zwT_2 _ hp).2.2 (zwT_2 _ hp).1) (zWS.k0 hW (o := 23 + p)) (zWS.ni hW (o := 23 + p) (zwT_2 _ hp).2.2 (zwT_2 _ hp).2.1) (by decide) rfl (zpc_up (o := 23 + p) (zpk_2 _ hp) (zwT_2 _ hp).2.2)).trans ?_
          generalize hV15 : zvu V11 2 p 9 (((V11 2 p 9) + 1)) = V15
          refine (ys4 143 (v := .ref (w + (23 + p))) rfl rfl rfl rfl).trans ?_
          refine (yg 146 rfl (zWS.tag hW (o := 23 + p) (zwT_2 _ hp).2.2 (zwT_2 _ hp).1) (zWS.ni hW (o := 23 + p) (zwT_2 _ hp).2.2 (zwT_2 _ hp).2.1) (by decide) rfl (zpc_at (o := 23 + p) (zpk_2 _ hp) (zwT_2 _ hp).2.2)).trans ?_
          refine (ys1 148 (x := 24) rfl rfl rfl).trans ?_
          refine ys18_5 151 rfl rfl (fun h148 => ?_) (fun h148 => ?_)
          · refine (ys36v rfl rfl).trans ?_
            subst hV15 hV11 hV10 hV9 hV8; unfold vfly vfly2 vfly3; (try dsimp only); rw [if_neg h23, if_neg h88, if_pos h118, if_pos h129, if_pos h148]
          · refine (ys4 152 (v := .ref (w + (23 + p))) rfl rfl rfl rfl).trans ?_
            refine (ys1 153 (x := 2) rfl rfl rfl).trans ?_
            refine (yq 156 rfl (zWS.tag hW (o := 23 + p) (zwT_2 _ hp).2.2 (zwT_2 _ hp).1) (zWS.k0 hW (o := 23 + p)) (zWS.ni hW (o := 23 + p) (zwT_2 _ hp).2.2 (zwT_2 _ hp).2.1) (by decide) rfl (zpc_up (o := 23 + p) (zpk_2 _ hp) (zwT_2 _ hp).2.2)).trans ?_
            generalize hV16 : zvu V15 2 p 0 (2) = V16
            refine (ys36v rfl rfl).trans ?_
            subst hV16 hV15 hV11 hV10 hV9 hV8; unfold vfly vfly2 vfly3; (try dsimp only); rw [if_neg h23, if_neg h88, if_pos h118, if_pos h129, if_neg h148]
        · refine (ys36v rfl rfl).trans ?_
          subst hV11 hV10 hV9 hV8; unfold vfly vfly2 vfly3; (try dsimp only); rw [if_neg h23, if_neg h88, if_pos h118, if_neg h129]
      · refine (ys36v rfl rfl).trans ?_
        subst hV11 hV10 hV9 hV8; unfold vfly vfly2 vfly3; (try dsimp only); rw [if_neg h23, if_neg h88, if_neg h118]

