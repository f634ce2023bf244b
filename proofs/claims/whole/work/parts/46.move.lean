/-! A LOFT THAT MOVES, over a world. -/
/-- Loft.move -/
def vmove (V : zV) (i : Nat) : zV :=
  if 2 ≤ V 1 i 0 then
    let j := zsf (V 1 i 4) 6
    let V1 := zvu V 1 i 1 (znear (V 1 i 1) (V 5 i j) (V 1 i 3))
    let V2 := zvu V1 1 i 2 (znear (V1 1 i 2) (V 6 i j) (V1 1 i 3))
    if V2 1 i 1 = V 5 i j then if V2 1 i 2 = V 6 i j then if V2 1 i 0 ≤ V2 1 i 4 + 1 then zvu V2 1 i 4 0 else zvu V2 1 i 4 (V2 1 i 4 + 1) else V2 else V2
  else V

theorem c_move {d : Nat} {w i : Nat} {V : zV} {J : Nat → Nat → Int32} {μ : zM} (hW : zWS μ w) (hi : i < 6) : zden zcds (d + 2) 102 [.ref (w + (5 + 3 * i))] (zwi μ (zpc J w V)) = some (0, none, 0, 0, zwi μ (zpc J w (vmove V i))) := by
  refine (zd_in (d := d + 1) (cd := zc102) (nL := 3) (L := [(0, .ref (w + (5 + 3 * i)))]) rfl (Nat.le_of_ble_eq_true rfl) rfl).trans ?_
  refine (ys4 1 (v := .ref (w + (5 + 3 * i))) rfl rfl rfl rfl).trans ?_
  refine (yg 4 rfl (zWS.tag hW (o := 5 + 3 * i) (zwT_1 _ hi).2.2.2.2 (zwT_1 _ hi).1) (zWS.ni hW (o := 5 + 3 * i) (zwT_1 _ hi).2.2.2.2 (zwT_1 _ hi).2.1) (by decide) rfl (zpc_at (o := 5 + 3 * i) (zpk_1 _ hi) (zwT_1 _ hi).2.2.2.2)).trans ?_
  refine (ys1 5 (x := 2) rfl rfl rfl).trans ?_
  refine ys18_3 8 rfl rfl (fun h5 => ?_) (fun h5 => ?_)
  · refine (ys4 10 (v := .ref (w + (5 + 3 * i))) rfl rfl rfl rfl).trans ?_
    refine (ygr 13 rfl (zWS.tag hW (o := 5 + 3 * i) (zwT_1 _ hi).2.2.2.2 (zwT_1 _ hi).1) rfl (zWS.gr hW (o := 5 + 3 * i) (k := 0) (zwT_1 _ hi).2.2.2.2 (zwT_1 _ hi).2.2.1)).trans ?_
    refine (ys4 14 (v := .ref (w + (5 + 3 * i))) rfl rfl rfl rfl).trans ?_
    refine (yg 17 rfl (zWS.tag hW (o := 5 + 3 * i) (zwT_1 _ hi).2.2.2.2 (zwT_1 _ hi).1) (zWS.ni hW (o := 5 + 3 * i) (zwT_1 _ hi).2.2.2.2 (zwT_1 _ hi).2.1) (by decide) rfl (zpc_at (o := 5 + 3 * i) (zpk_1 _ hi) (zwT_1 _ hi).2.2.2.2)).trans ?_
    refine (ys4 18 (v := .ref (w + (5 + 3 * i))) rfl rfl rfl rfl).trans ?_
    refine (ygr 21 rfl (zWS.tag hW (o := 5 + 3 * i) (zwT_1 _ hi).2.2.2.2 (zwT_1 _ hi).1) rfl (zWS.gr hW (o := 5 + 3 * i) (k := 0) (zwT_1 _ hi).2.2.2.2 (zwT_1 _ hi).2.2.1)).trans ?_
    refine (yal 22 rfl (zWS.tag hW (o := 6 + 3 * i) (zwT_5 _ hi).2.2 (zwT_5 _ hi).1) (zWS.ni hW (o := 6 + 3 * i) (zwT_5 _ hi).2.2 (zwT_5 _ hi).2.1) rfl).trans ?_
    refine (yc2 25 rfl rfl (Nat.le_of_ble_eq_true rfl) (Or.inl rfl) rfl rfl (c_safe (x := (V 1 i 4)) (n := 6) (by decide))).trans ?_
    refine (yl 26 (j := zsf (V 1 i 4) 6) rfl (Or.inl (zWS.tag hW (o := 6 + 3 * i) (zwT_5 _ hi).2.2 (zwT_5 _ hi).1)) (zWS.ni hW (o := 6 + 3 * i) (zwT_5 _ hi).2.2 (zwT_5 _ hi).2.1) (zsf_lt (by decide) (by decide)) (by decide) rfl (zpc_at (o := 6 + 3 * i) (zpk_5 _ hi) (zwT_5 _ hi).2.2)).trans ?_
    refine (ys5 27 (L2 := [(1, .int ((V 5 i (zsf (V 1 i 4) 6)))), (0, .ref (w + (5 + 3 * i)))]) rfl rfl rfl rfl).trans ?_
    refine (ys4 28 (v := .ref (w + (5 + 3 * i))) rfl rfl rfl rfl).trans ?_
    refine (ygr 31 rfl (zWS.tag hW (o := 5 + 3 * i) (zwT_1 _ hi).2.2.2.2 (zwT_1 _ hi).1) rfl (zWS.gr hW (o := 5 + 3 * i) (k := 1) (zwT_1 _ hi).2.2.2.2 (zwT_1 _ hi).2.2.2.1)).trans ?_
    refine (ys4 32 (v := .ref (w + (5 + 3 * i))) rfl rfl rfl rfl).trans ?_
    refine (yg 35 rfl (zWS.tag hW (o := 5 + 3 * i) (zwT_1 _ hi).2.2.2.2 (zwT_1 _ hi).1) (zWS.ni hW (o := 5 + 3 * i) (zwT_1 _ hi).2.2.2.2 (zwT_1 _ hi).2.1) (by decide) rfl (zpc_at (o := 5 + 3 * i) (zpk_1 _ hi) (zwT_1 _ hi).2.2.2.2)).trans ?_
    refine (ys4 36 (v := .ref (w + (5 + 3 * i))) rfl rfl rfl rfl).trans ?_
    refine (ygr 39 rfl (zWS.tag hW (o := 5 + 3 * i) (zwT_1 _ hi).2.2.2.2 (zwT_1 _ hi).1) rfl (zWS.gr hW (o := 5 + 3 * i) (k := 1) (zwT_1 _ hi).2.2.2.2 (zwT_1 _ hi).2.2.2.1)).trans ?_
    refine (yal 40 rfl (zWS.tag hW (o := 7 + 3 * i) (zwT_6 _ hi).2.2 (zwT_6 _ hi).1) (zWS.ni hW (o := 7 + 3 * i) (zwT_6 _ hi).2.2 (zwT_6 _ hi).2.1) rfl).trans ?_
    refine (yc2 43 rfl rfl (Nat.le_of_ble_eq_true rfl) (Or.inl rfl) rfl rfl (c_safe (x := (V 1 i 4)) (n := 6) (by decide))).trans ?_
    refine (yl 44 (j := zsf (V 1 i 4) 6) rfl (Or.inl (zWS.tag hW (o := 7 + 3 * i) (zwT_6 _ hi).2.2 (zwT_6 _ hi).1)) (zWS.ni hW (o := 7 + 3 * i) (zwT_6 _ hi).2.2 (zwT_6 _ hi).2.1) (zsf_lt (by decide) (by decide)) (by decide) rfl (zpc_at (o := 7 + 3 * i) (zpk_6 _ hi) (zwT_6 _ hi).2.2)).trans ?_
    refine (ys5 45 (L2 := [(2, .int ((V 6 i (zsf (V 1 i 4) 6)))), (1, .int ((V 5 i (zsf (V 1 i 4) 6)))), (0, .ref (w + (5 + 3 * i)))]) rfl rfl rfl rfl).trans ?_
    refine (ys4 46 (v := .ref (w + (5 + 3 * i))) rfl rfl rfl rfl).trans ?_
    refine (ys4 47 (v := .ref (w + (5 + 3 * i))) rfl rfl rfl rfl).trans ?_
    refine (yg 50 rfl (zWS.tag hW (o := 5 + 3 * i) (zwT_1 _ hi).2.2.2.2 (zwT_1 _ hi).1) (zWS.ni hW (o := 5 + 3 * i) (zwT_1 _ hi).2.2.2.2 (zwT_1 _ hi).2.1) (by decide) rfl (zpc_at (o := 5 + 3 * i) (zpk_1 _ hi) (zwT_1 _ hi).2.2.2.2)).trans ?_
    refine (ys4 51 (v := .int ((V 5 i (zsf (V 1 i 4) 6)))) rfl rfl rfl rfl).trans ?_
    refine (ys4 52 (v := .ref (w + (5 + 3 * i))) rfl rfl rfl rfl).trans ?_
    refine (yg 55 rfl (zWS.tag hW (o := 5 + 3 * i) (zwT_1 _ hi).2.2.2.2 (zwT_1 _ hi).1) (zWS.ni hW (o := 5 + 3 * i) (zwT_1 _ hi).2.2.2.2 (zwT_1 _ hi).2.1) (by decide) rfl (zpc_at (o := 5 + 3 * i) (zpk_1 _ hi) (zwT_1 _ hi).2.2.2.2)).trans ?_
    refine (yc3 58 rfl rfl (Nat.le_of_ble_eq_true rfl) (Or.inl rfl) rfl rfl c_near).trans ?_
    refine (yq 61 rfl (zWS.tag hW (o := 5 + 3 * i) (zwT_1 _ hi).2.2.2.2 (zwT_1 _ hi).1) (zWS.k0 hW (o := 5 + 3 * i)) (zWS.ni hW (o := 5 + 3 * i) (zwT_1 _ hi).2.2.2.2 (zwT_1 _ hi).2.1) (by decide) rfl (zpc_up (o := 5 + 3 * i) (zpk_1 _ hi) (zwT_1 _ hi).2.2.2.2)).trans ?_
    generalize hV1 : zvu V 1 i 1 ((znear (V 1 i 1) (V 5 i (zsf (V 1 i 4) 6)) (V 1 i 3))) = V1
    refine (ys4 62 (v := .ref (w + (5 + 3 * i))) rfl rfl rfl rfl).trans ?_
    refine (ys4 63 (v := .ref (w + (5 + 3 * i))) rfl rfl rfl rfl).trans ?_
    refine (yg 66 rfl (zWS.tag hW (o := 5 + 3 * i) (zwT_1 _ hi).2.2.2.2 (zwT_1 _ hi).1) (zWS.ni hW (o := 5 + 3 * i) (zwT_1 _ hi).2.2.2.2 (zwT_1 _ hi).2.1) (by decide) rfl (zpc_at (o := 5 + 3 * i) (zpk_1 _ hi) (zwT_1 _ hi).2.2.2.2)).trans ?_
    refine (ys4 67 (v := .int ((V 6 i (zsf (V 1 i 4) 6)))) rfl rfl rfl rfl).trans ?_
    refine (ys4 68 (v := .ref (w + (5 + 3 * i))) rfl rfl rfl rfl).trans ?_
    refine (yg 71 rfl (zWS.tag hW (o := 5 + 3 * i) (zwT_1 _ hi).2.2.2.2 (zwT_1 _ hi).1) (zWS.ni hW (o := 5 + 3 * i) (zwT_1 _ hi).2.2.2.2 (zwT_1 _ hi).2.1) (by decide) rfl (zpc_at (o := 5 + 3 * i) (zpk_1 _ hi) (zwT_1 _ hi).2.2.2.2)).trans ?_
    refine (yc3 74 rfl rfl (Nat.le_of_ble_eq_true rfl) (Or.inl rfl) rfl rfl c_near).trans ?_
    refine (yq 77 rfl (zWS.tag hW (o := 5 + 3 * i) (zwT_1 _ hi).2.2.2.2 (zwT_1 _ hi).1) (zWS.k0 hW (o := 5 + 3 * i)) (zWS.ni hW (o := 5 + 3 * i) (zwT_1 _ hi).2.2.2.2 (zwT_1 _ hi).2.1) (by decide) rfl (zpc_up (o := 5 + 3 * i) (zpk_1 _ hi) (zwT_1 _ hi).2.2.2.2)).trans ?_
    generalize hV2 : zvu V1 1 i 2 ((znear (V1 1 i 2) (V 6 i (zsf (V 1 i 4) 6)) (V1 1 i 3))) = V2
    refine (ys4 78 (v := .ref (w + (5 + 3 * i))) rfl rfl rfl rfl).trans ?_
    refine (yg 81 rfl (zWS.tag hW (o := 5 + 3 * i) (zwT_1 _ hi).2.2.2.2 (zwT_1 _ hi).1) (zWS.ni hW (o := 5 + 3 * i) (zwT_1 _ hi).2.2.2.2 (zwT_1 _ hi).2.1) (by decide) rfl (zpc_at (o := 5 + 3 * i) (zpk_1 _ hi) (zwT_1 _ hi).2.2.2.2)).trans ?_
    refine (ys4 82 (v := .int ((V 5 i (zsf (V 1 i 4) 6)))) rfl rfl rfl rfl).trans ?_
    refine ys18_1 85 rfl rfl (fun h82 => ?_) (fun h82 => ?_)
    · refine (ys4 86 (v := .ref (w + (5 + 3 * i))) rfl rfl rfl rfl).trans ?_
      refine (yg 89 rfl (zWS.tag hW (o := 5 + 3 * i) (zwT_1 _ hi).2.2.2.2 (zwT_1 _ hi).1) (zWS.ni hW (o := 5 + 3 * i) (zwT_1 _ hi).2.2.2.2 (zwT_1 _ hi).2.1) (by decide) rfl (zpc_at (o := 5 + 3 * i) (zpk_1 _ hi) (zwT_1 _ hi).2.2.2.2)).trans ?_
      refine (ys4 90 (v := .int ((V 6 i (zsf (V 1 i 4) 6)))) rfl rfl rfl rfl).trans ?_
      refine ys18_1 93 rfl rfl (fun h90 => ?_) (fun h90 => ?_)
      · refine (ys4 94 (v := .ref (w + (5 + 3 * i))) rfl rfl rfl rfl).trans ?_
        refine (ys4 95 (v := .ref (w + (5 + 3 * i))) rfl rfl rfl rfl).trans ?_
        refine (yg 98 rfl (zWS.tag hW (o := 5 + 3 * i) (zwT_1 _ hi).2.2.2.2 (zwT_1 _ hi).1) (zWS.ni hW (o := 5 + 3 * i) (zwT_1 _ hi).2.2.2.2 (zwT_1 _ hi).2.1) (by decide) rfl (zpc_at (o := 5 + 3 * i) (zpk_1 _ hi) (zwT_1 _ hi).2.2.2.2)).trans ?_
        refine (ys1 99 (x := 1) rfl rfl rfl).trans ?_
        refine (ys7_0 100 rfl rfl).trans ?_
        refine (ys4 101 (v := .ref (w + (5 + 3 * i))) rfl rfl rfl rfl).trans ?_
        refine (yg 104 rfl (zWS.tag hW (o := 5 + 3 * i) (zwT_1 _ hi).2.2.2.2 (zwT_1 _ hi).1) (zWS.ni hW (o := 5 + 3 * i) (zwT_1 _ hi).2.2.2.2 (zwT_1 _ hi).2.1) (by decide) rfl (zpc_at (o := 5 + 3 * i) (zpk_1 _ hi) (zwT_1 _ hi).2.2.2.2)).trans ?_
        refine ys18_3 107 rfl rfl (fun h104 => ?_) (fun h104 => ?_)
        · refine (ys1 117 (x := 0) rfl rfl rfl).trans ?_
          refine (yq 120 rfl (zWS.tag hW (o := 5 + 3 * i) (zwT_1 _ hi).2.2.2.2 (zwT_1 _ hi).1) (zWS.k0 hW (o := 5 + 3 * i)) (zWS.ni hW (o := 5 + 3 * i) (zwT_1 _ hi).2.2.2.2 (zwT_1 _ hi).2.1) (by decide) rfl (zpc_up (o := 5 + 3 * i) (zpk_1 _ hi) (zwT_1 _ hi).2.2.2.2)).trans ?_
          generalize hV3 : zvu V2 1 i 4 (0) = V3
          refine (ys36v rfl rfl).trans ?_
          subst hV3 hV2 hV1; unfold vmove; dsimp only; rw [if_pos h5, if_pos h82, if_pos h90, if_pos h104]
        · refine (ys4 108 (v := .ref (w + (5 + 3 * i))) rfl rfl rfl rfl).trans ?_
          refine (yg 111 rfl (zWS.tag hW (o := 5 + 3 * i) (zwT_1 _ hi).2.2.2.2 (zwT_1 _ hi).1) (zWS.ni hW (o := 5 + 3 * i) (zwT_1 _ hi).2.2.2.2 (zwT_1 _ hi).2.1) (by decide) rfl (zpc_at (o := 5 + 3 * i) (zpk_1 _ hi) (zwT_1 _ hi).2.2.2.2)).trans ?_
          refine (ys1 112 (x := 1) rfl rfl rfl).trans ?_
          refine (ys7_0 113 rfl rfl).trans ?_
          refine (ys19 rfl).trans ?_
          refine (yq 120 rfl (zWS.tag hW (o := 5 + 3 * i) (zwT_1 _ hi).2.2.2.2 (zwT_1 _ hi).1) (zWS.k0 hW (o := 5 + 3 * i)) (zWS.ni hW (o := 5 + 3 * i) (zwT_1 _ hi).2.2.2.2 (zwT_1 _ hi).2.1) (by decide) rfl (zpc_up (o := 5 + 3 * i) (zpk_1 _ hi) (zwT_1 _ hi).2.2.2.2)).trans ?_
          generalize hV4 : zvu V2 1 i 4 (((V2 1 i 4) + 1)) = V4
          refine (ys36v rfl rfl).trans ?_
          subst hV4 hV2 hV1; unfold vmove; dsimp only; rw [if_pos h5, if_pos h82, if_pos h90, if_neg h104]
      · refine (ys36v rfl rfl).trans ?_
        subst hV2 hV1; unfold vmove; dsimp only; rw [if_pos h5, if_pos h82, if_neg h90]
    · refine (ys36v rfl rfl).trans ?_
      subst hV2 hV1; unfold vmove; dsimp only; rw [if_pos h5, if_neg h82]
  · refine (ys36v rfl rfl).trans ?_
    unfold vmove; dsimp only; rw [if_neg h5]

