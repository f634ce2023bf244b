/-! A WORLD'S THINGS MADE ANEW -/
def vclW (V : zV) : zV :=
  let V1 := zvu V 0 0 0 (0)
  let V2 := zvu V1 0 0 1 (0)
  let V3 := zvu V2 0 0 2 (0)
  let V4 := zvu V3 0 0 3 (0)
  let V5 := zvu V4 0 0 4 (0)
  let V6 := zvu V5 0 0 5 (0)
  V6

theorem c_clW {d : Nat} {w : Nat} {V : zV} {J : Nat → Nat → Int32} {μ : zM} (hW : zWS μ w) : zden zcds (d + 1) 63 [.ref (w)] (zwi μ (zpc J w V)) = some (0, none, 0, 0, zwi μ (zpc J w ((vclW V)))) := by
  refine (zd_in (d := d + 0) (cd := zc63) (nL := 1) (L := [(0, .ref (w))]) rfl (Nat.le_of_ble_eq_true rfl) rfl).trans ?_
  refine (ys4 1 (v := .ref (w)) rfl rfl rfl rfl).trans ?_
  refine (ys1 2 (x := 0) rfl rfl rfl).trans ?_
  refine (yq 5 rfl (zWS.tag hW (o := 0) (by decide) rfl) (zWS.k0 hW (o := 0)) (zWS.ni hW (o := 0) (by decide) rfl) (by decide) rfl (zpc_up (o := 0) (q := 0) (i := 0) rfl (by decide))).trans ?_
  generalize hV1 : zvu V 0 0 0 (0) = V1
  refine (ys4 6 (v := .ref (w)) rfl rfl rfl rfl).trans ?_
  refine (ys1 7 (x := 0) rfl rfl rfl).trans ?_
  refine (yq 10 rfl (zWS.tag hW (o := 0) (by decide) rfl) (zWS.k0 hW (o := 0)) (zWS.ni hW (o := 0) (by decide) rfl) (by decide) rfl (zpc_up (o := 0) (q := 0) (i := 0) rfl (by decide))).trans ?_
  generalize hV2 : zvu V1 0 0 1 (0) = V2
  refine (ys4 11 (v := .ref (w)) rfl rfl rfl rfl).trans ?_
  refine (ys1 12 (x := 0) rfl rfl rfl).trans ?_
  refine (yq 15 rfl (zWS.tag hW (o := 0) (by decide) rfl) (zWS.k0 hW (o := 0)) (zWS.ni hW (o := 0) (by decide) rfl) (by decide) rfl (zpc_up (o := 0) (q := 0) (i := 0) rfl (by decide))).trans ?_
  generalize hV3 : zvu V2 0 0 2 (0) = V3
  refine (ys4 16 (v := .ref (w)) rfl rfl rfl rfl).trans ?_
  refine (ys1 17 (x := 0) rfl rfl rfl).trans ?_
  refine (yq 20 rfl (zWS.tag hW (o := 0) (by decide) rfl) (zWS.k0 hW (o := 0)) (zWS.ni hW (o := 0) (by decide) rfl) (by decide) rfl (zpc_up (o := 0) (q := 0) (i := 0) rfl (by decide))).trans ?_
  generalize hV4 : zvu V3 0 0 3 (0) = V4
  refine (ys4 21 (v := .ref (w)) rfl rfl rfl rfl).trans ?_
  refine (ys1 22 (x := 0) rfl rfl rfl).trans ?_
  refine (yq 25 rfl (zWS.tag hW (o := 0) (by decide) rfl) (zWS.k0 hW (o := 0)) (zWS.ni hW (o := 0) (by decide) rfl) (by decide) rfl (zpc_up (o := 0) (q := 0) (i := 0) rfl (by decide))).trans ?_
  generalize hV5 : zvu V4 0 0 4 (0) = V5
  refine (ys4 26 (v := .ref (w)) rfl rfl rfl rfl).trans ?_
  refine (ys1 27 (x := 0) rfl rfl rfl).trans ?_
  refine (yq 30 rfl (zWS.tag hW (o := 0) (by decide) rfl) (zWS.k0 hW (o := 0)) (zWS.ni hW (o := 0) (by decide) rfl) (by decide) rfl (zpc_up (o := 0) (q := 0) (i := 0) rfl (by decide))).trans ?_
  generalize hV6 : zvu V5 0 0 5 (0) = V6
  refine (ys36v rfl rfl).trans ?_
  rw [show vclW V = V6 from by subst hV6 hV5 hV4 hV3 hV2 hV1; unfold vclW; (try dsimp only); first | done | rfl]; (first | done | rfl)

def vclL (V : zV) (i : Nat) : zV :=
  let V1 := zvu V 1 i 0 (0)
  let V2 := zvu V1 1 i 1 (0)
  let V3 := zvu V2 1 i 2 (0)
  let V4 := zvu V3 1 i 3 (0)
  let V5 := zvu V4 1 i 4 (0)
  V5

theorem c_clL {d : Nat} {w : Nat} {V : zV} {J : Nat → Nat → Int32} {μ : zM} (hW : zWS μ w) {i : Nat} (hi : i < 6) : zden zcds (d + 1) 99 [.ref (w + (5 + 3 * i))] (zwi μ (zpc J w V)) = some (0, none, 0, 0, zwi μ (zpc J w ((vclL V i)))) := by
  refine (zd_in (d := d + 0) (cd := zc99) (nL := 1) (L := [(0, .ref (w + (5 + 3 * i)))]) rfl (Nat.le_of_ble_eq_true rfl) rfl).trans ?_
  refine (ys4 1 (v := .ref (w + (5 + 3 * i))) rfl rfl rfl rfl).trans ?_
  refine (ys1 2 (x := 0) rfl rfl rfl).trans ?_
  refine (yq 5 rfl (zWS.tag hW (o := 5 + 3 * i) (zwT_1 _ hi).2.2.2.2 (zwT_1 _ hi).1) (zWS.k0 hW (o := 5 + 3 * i)) (zWS.ni hW (o := 5 + 3 * i) (zwT_1 _ hi).2.2.2.2 (zwT_1 _ hi).2.1) (by decide) rfl (zpc_up (o := 5 + 3 * i) (zpk_1 _ hi) (zwT_1 _ hi).2.2.2.2)).trans ?_
  generalize hV1 : zvu V 1 i 0 (0) = V1
  refine (ys4 6 (v := .ref (w + (5 + 3 * i))) rfl rfl rfl rfl).trans ?_
  refine (ys1 7 (x := 0) rfl rfl rfl).trans ?_
  refine (yq 10 rfl (zWS.tag hW (o := 5 + 3 * i) (zwT_1 _ hi).2.2.2.2 (zwT_1 _ hi).1) (zWS.k0 hW (o := 5 + 3 * i)) (zWS.ni hW (o := 5 + 3 * i) (zwT_1 _ hi).2.2.2.2 (zwT_1 _ hi).2.1) (by decide) rfl (zpc_up (o := 5 + 3 * i) (zpk_1 _ hi) (zwT_1 _ hi).2.2.2.2)).trans ?_
  generalize hV2 : zvu V1 1 i 1 (0) = V2
  refine (ys4 11 (v := .ref (w + (5 + 3 * i))) rfl rfl rfl rfl).trans ?_
  refine (ys1 12 (x := 0) rfl rfl rfl).trans ?_
  refine (yq 15 rfl (zWS.tag hW (o := 5 + 3 * i) (zwT_1 _ hi).2.2.2.2 (zwT_1 _ hi).1) (zWS.k0 hW (o := 5 + 3 * i)) (zWS.ni hW (o := 5 + 3 * i) (zwT_1 _ hi).2.2.2.2 (zwT_1 _ hi).2.1) (by decide) rfl (zpc_up (o := 5 + 3 * i) (zpk_1 _ hi) (zwT_1 _ hi).2.2.2.2)).trans ?_
  generalize hV3 : zvu V2 1 i 2 (0) = V3
  refine (ys4 16 (v := .ref (w + (5 + 3 * i))) rfl rfl rfl rfl).trans ?_
  refine (ys1 17 (x := 0) rfl rfl rfl).trans ?_
  refine (yq 20 rfl (zWS.tag hW (o := 5 + 3 * i) (zwT_1 _ hi).2.2.2.2 (zwT_1 _ hi).1) (zWS.k0 hW (o := 5 + 3 * i)) (zWS.ni hW (o := 5 + 3 * i) (zwT_1 _ hi).2.2.2.2 (zwT_1 _ hi).2.1) (by decide) rfl (zpc_up (o := 5 + 3 * i) (zpk_1 _ hi) (zwT_1 _ hi).2.2.2.2)).trans ?_
  generalize hV4 : zvu V3 1 i 3 (0) = V4
  refine (ys4 21 (v := .ref (w + (5 + 3 * i))) rfl rfl rfl rfl).trans ?_
  refine (ys1 22 (x := 0) rfl rfl rfl).trans ?_
  refine (yq 25 rfl (zWS.tag hW (o := 5 + 3 * i) (zwT_1 _ hi).2.2.2.2 (zwT_1 _ hi).1) (zWS.k0 hW (o := 5 + 3 * i)) (zWS.ni hW (o := 5 + 3 * i) (zwT_1 _ hi).2.2.2.2 (zwT_1 _ hi).2.1) (by decide) rfl (zpc_up (o := 5 + 3 * i) (zpk_1 _ hi) (zwT_1 _ hi).2.2.2.2)).trans ?_
  generalize hV5 : zvu V4 1 i 4 (0) = V5
  refine (ys36v rfl rfl).trans ?_
  rw [show vclL V i = V5 from by subst hV5 hV4 hV3 hV2 hV1; unfold vclL; (try dsimp only); first | done | rfl]; (first | done | rfl)

def vclP (V : zV) (i : Nat) : zV :=
  let V1 := zvu V 2 i 0 (0)
  let V2 := zvu V1 2 i 1 (0)
  let V3 := zvu V2 2 i 2 (0)
  let V4 := zvu V3 2 i 3 (0)
  let V5 := zvu V4 2 i 4 (0)
  let V6 := zvu V5 2 i 5 (0)
  let V7 := zvu V6 2 i 6 (0)
  let V8 := zvu V7 2 i 7 (0)
  let V9 := zvu V8 2 i 8 (0)
  let V10 := zvu V9 2 i 9 (0)
  let V11 := zvu V10 2 i 10 (0)
  let V12 := zvu V11 2 i 11 (0)
  V12

theorem c_clP {d : Nat} {w : Nat} {V : zV} {J : Nat → Nat → Int32} {μ : zM} (hW : zWS μ w) {i : Nat} (hi : i < 20) : zden zcds (d + 1) 104 [.ref (w + (23 + i))] (zwi μ (zpc J w V)) = some (0, none, 0, 0, zwi μ (zpc J w ((vclP V i)))) := by
  refine (zd_in (d := d + 0) (cd := zc104) (nL := 1) (L := [(0, .ref (w + (23 + i)))]) rfl (Nat.le_of_ble_eq_true rfl) rfl).trans ?_
  refine (ys4 1 (v := .ref (w + (23 + i))) rfl rfl rfl rfl).trans ?_
  refine (ys1 2 (x := 0) rfl rfl rfl).trans ?_
  refine (yq 5 rfl (zWS.tag hW (o := 23 + i) (zwT_2 _ hi).2.2 (zwT_2 _ hi).1) (zWS.k0 hW (o := 23 + i)) (zWS.ni hW (o := 23 + i) (zwT_2 _ hi).2.2 (zwT_2 _ hi).2.1) (by decide) rfl (zpc_up (o := 23 + i) (zpk_2 _ hi) (zwT_2 _ hi).2.2)).trans ?_
  generalize hV1 : zvu V 2 i 0 (0) = V1
  refine (ys4 6 (v := .ref (w + (23 + i))) rfl rfl rfl rfl).trans ?_
  refine (ys1 7 (x := 0) rfl rfl rfl).trans ?_
  refine (yq 10 rfl (zWS.tag hW (o := 23 + i) (zwT_2 _ hi).2.2 (zwT_2 _ hi).1) (zWS.k0 hW (o := 23 + i)) (zWS.ni hW (o := 23 + i) (zwT_2 _ hi).2.2 (zwT_2 _ hi).2.1) (by decide) rfl (zpc_up (o := 23 + i) (zpk_2 _ hi) (zwT_2 _ hi).2.2)).trans ?_
  generalize hV2 : zvu V1 2 i 1 (0) = V2
  refine (ys4 11 (v := .ref (w + (23 + i))) rfl rfl rfl rfl).trans ?_
  refine (ys1 12 (x := 0) rfl rfl rfl).trans ?_
  refine (yq 15 rfl (zWS.tag hW (o := 23 + i) (zwT_2 _ hi).2.2 (zwT_2 _ hi).1) (zWS.k0 hW (o := 23 + i)) (zWS.ni hW (o := 23 + i) (zwT_2 _ hi).2.2 (zwT_2 _ hi).2.1) (by decide) rfl (zpc_up (o := 23 + i) (zpk_2 _ hi) (zwT_2 _ hi).2.2)).trans ?_
  generalize hV3 : zvu V2 2 i 2 (0) = V3
  refine (ys4 16 (v := .ref (w + (23 + i))) rfl rfl rfl rfl).trans ?_
  refine (ys1 17 (x := 0) rfl rfl rfl).trans ?_
  refine (yq 20 rfl (zWS.tag hW (o := 23 + i) (zwT_2 _ hi).2.2 (zwT_2 _ hi).1) (zWS.k0 hW (o := 23 + i)) (zWS.ni hW (o := 23 + i) (zwT_2 _ hi).2.2 (zwT_2 _ hi).2.1) (by decide) rfl (zpc_up (o := 23 + i) (zpk_2 _ hi) (zwT_2 _ hi).2.2)).trans ?_
  generalize hV4 : zvu V3 2 i 3 (0) = V4
  refine (ys4 21 (v := .ref (w + (23 + i))) rfl rfl rfl rfl).trans ?_
  refine (ys1 22 (x := 0) rfl rfl rfl).trans ?_
  refine (yq 25 rfl (zWS.tag hW (o := 23 + i) (zwT_2 _ hi).2.2 (zwT_2 _ hi).1) (zWS.k0 hW (o := 23 + i)) (zWS.ni hW (o := 23 + i) (zwT_2 _ hi).2.2 (zwT_2 _ hi).2.1) (by decide) rfl (zpc_up (o := 23 + i) (zpk_2 _ hi) (zwT_2 _ hi).2.2)).trans ?_
  generalize hV5 : zvu V4 2 i 4 (0) = V5
  refine (ys4 26 (v := .ref (w + (23 + i))) rfl rfl rfl rfl).trans ?_
  refine (ys1 27 (x := 0) rfl rfl rfl).trans ?_
  refine (yq 30 rfl (zWS.tag hW (o := 23 + i) (zwT_2 _ hi).2.2 (zwT_2 _ hi).1) (zWS.k0 hW (o := 23 + i)) (zWS.ni hW (o := 23 + i) (zwT_2 _ hi).2.2 (zwT_2 _ hi).2.1) (by decide) rfl (zpc_up (o := 23 + i) (zpk_2 _ hi) (zwT_2 _ hi).2.2)).trans ?_
  generalize hV6 : zvu V5 2 i 5 (0) = V6
  refine (ys4 31 (v := .ref (w + (23 + i))) rfl rfl rfl rfl).trans ?_
  refine (ys1 32 (x := 0) rfl rfl rfl).trans ?_
  refine (yq 35 rfl (zWS.tag hW (o := 23 + i) (zwT_2 _ hi).2.2 (zwT_2 _ hi).1) (zWS.k0 hW (o := 23 + i)) (zWS.ni hW (o := 23 + i) (zwT_2 _ hi).2.2 (zwT_2 _ hi).2.1) (by decide) rfl (zpc_up (o := 23 + i) (zpk_2 _ hi) (zwT_2 _ hi).2.2)).trans ?_
  generalize hV7 : zvu V6 2 i 6 (0) = V7
  refine (ys4 36 (v := .ref (w + (23 + i))) rfl rfl rfl rfl).trans ?_
  refine (ys1 37 (x := 0) rfl rfl rfl).trans ?_
  refine (yq 40 rfl (zWS.tag hW (o := 23 + i) (zwT_2 _ hi).2.2 (zwT_2 _ hi).1) (zWS.k0 hW (o := 23 + i)) (zWS.ni hW (o := 23 + i) (zwT_2 _ hi).2.2 (zwT_2 _ hi).2.1) (by decide) rfl (zpc_up (o := 23 + i) (zpk_2 _ hi) (zwT_2 _ hi).2.2)).trans ?_
  generalize hV8 : zvu V7 2 i 7 (0) = V8
  refine (ys4 41 (v := .ref (w + (23 + i))) rfl rfl rfl rfl).trans ?_
  refine (ys1 42 (x := 0) rfl rfl rfl).trans ?_
  refine (yq 45 rfl (zWS.tag hW (o := 23 + i) (zwT_2 _ hi).2.2 (zwT_2 _ hi).1) (zWS.k0 hW (o := 23 + i)) (zWS.ni hW (o := 23 + i) (zwT_2 _ hi).2.2 (zwT_2 _ hi).2.1) (by decide) rfl (zpc_up (o := 23 + i) (zpk_2 _ hi) (zwT_2 _ hi).2.2)).trans ?_
  generalize hV9 : zvu V8 2 i 8 (0) = V9
  refine (ys4 46 (v := .ref (w + (23 + i))) rfl rfl rfl rfl).trans ?_
  refine (ys1 47 (x := 0) rfl rfl rfl).trans ?_
  refine (yq 50 rfl (zWS.tag hW (o := 23 + i) (zwT_2 _ hi).2.2 (zwT_2 _ hi).1) (zWS.k0 hW (o := 23 + i)) (zWS.ni hW (o := 23 + i) (zwT_2 _ hi).2.2 (zwT_2 _ hi).2.1) (by decide) rfl (zpc_up (o := 23 + i) (zpk_2 _ hi) (zwT_2 _ hi).2.2)).trans ?_
  generalize hV10 : zvu V9 2 i 9 (0) = V10
  refine (ys4 51 (v := .ref (w + (23 + i))) rfl rfl rfl rfl).trans ?_
  refine (ys1 52 (x := 0) rfl rfl rfl).trans ?_
  refine (yq 55 rfl (zWS.tag hW (o := 23 + i) (zwT_2 _ hi).2.2 (zwT_2 _ hi).1) (zWS.k0 hW (o := 23 + i)) (zWS.ni hW (o := 23 + i) (zwT_2 _ hi).2.2 (zwT_2 _ hi).2.1) (by decide) rfl (zpc_up (o := 23 + i) (zpk_2 _ hi) (zwT_2 _ hi).2.2)).trans ?_
  generalize hV11 : zvu V10 2 i 10 (0) = V11
  refine (ys4 56 (v := .ref (w + (23 + i))) rfl rfl rfl rfl).trans ?_
  refine (ys1 57 (x := 0) rfl rfl rfl).trans ?_
  refine (yq 60 rfl (zWS.tag hW (o := 23 + i) (zwT_2 _ hi).2.2 (zwT_2 _ hi).1) (zWS.k0 hW (o := 23 + i)) (zWS.ni hW (o := 23 + i) (zwT_2 _ hi).2.2 (zwT_2 _ hi).2.1) (by decide) rfl (zpc_up (o := 23 + i) (zpk_2 _ hi) (zwT_2 _ hi).2.2)).trans ?_
  generalize hV12 : zvu V11 2 i 11 (0) = V12
  refine (ys36v rfl rfl).trans ?_
  rw [show vclP V i = V12 from by subst hV12 hV11 hV10 hV9 hV8 hV7 hV6 hV5 hV4 hV3 hV2 hV1; unfold vclP; (try dsimp only); first | done | rfl]; (first | done | rfl)

def vclH (V : zV) (i : Nat) : zV :=
  let V1 := zvu V 3 i 0 (0)
  let V2 := zvu V1 3 i 1 (0)
  let V3 := zvu V2 3 i 2 (0)
  let V4 := zvu V3 3 i 3 (0)
  let V5 := zvu V4 3 i 4 (0)
  let V6 := zvu V5 3 i 5 (0)
  V6

theorem c_clH {d : Nat} {w : Nat} {V : zV} {J : Nat → Nat → Int32} {μ : zM} (hW : zWS μ w) {i : Nat} (hi : i < 6) : zden zcds (d + 1) 109 [.ref (w + (43 + i))] (zwi μ (zpc J w V)) = some (0, none, 0, 0, zwi μ (zpc J w ((vclH V i)))) := by
  refine (zd_in (d := d + 0) (cd := zc109) (nL := 1) (L := [(0, .ref (w + (43 + i)))]) rfl (Nat.le_of_ble_eq_true rfl) rfl).trans ?_
  refine (ys4 1 (v := .ref (w + (43 + i))) rfl rfl rfl rfl).trans ?_
  refine (ys1 2 (x := 0) rfl rfl rfl).trans ?_
  refine (yq 5 rfl (zWS.tag hW (o := 43 + i) (zwT_3 _ hi).2.2 (zwT_3 _ hi).1) (zWS.k0 hW (o := 43 + i)) (zWS.ni hW (o := 43 + i) (zwT_3 _ hi).2.2 (zwT_3 _ hi).2.1) (by decide) rfl (zpc_up (o := 43 + i) (zpk_3 _ hi) (zwT_3 _ hi).2.2)).trans ?_
  generalize hV1 : zvu V 3 i 0 (0) = V1
  refine (ys4 6 (v := .ref (w + (43 + i))) rfl rfl rfl rfl).trans ?_
  refine (ys1 7 (x := 0) rfl rfl rfl).trans ?_
  refine (yq 10 rfl (zWS.tag hW (o := 43 + i) (zwT_3 _ hi).2.2 (zwT_3 _ hi).1) (zWS.k0 hW (o := 43 + i)) (zWS.ni hW (o := 43 + i) (zwT_3 _ hi).2.2 (zwT_3 _ hi).2.1) (by decide) rfl (zpc_up (o := 43 + i) (zpk_3 _ hi) (zwT_3 _ hi).2.2)).trans ?_
  generalize hV2 : zvu V1 3 i 1 (0) = V2
  refine (ys4 11 (v := .ref (w + (43 + i))) rfl rfl rfl rfl).trans ?_
  refine (ys1 12 (x := 0) rfl rfl rfl).trans ?_
  refine (yq 15 rfl (zWS.tag hW (o := 43 + i) (zwT_3 _ hi).2.2 (zwT_3 _ hi).1) (zWS.k0 hW (o := 43 + i)) (zWS.ni hW (o := 43 + i) (zwT_3 _ hi).2.2 (zwT_3 _ hi).2.1) (by decide) rfl (zpc_up (o := 43 + i) (zpk_3 _ hi) (zwT_3 _ hi).2.2)).trans ?_
  generalize hV3 : zvu V2 3 i 2 (0) = V3
  refine (ys4 16 (v := .ref (w + (43 + i))) rfl rfl rfl rfl).trans ?_
  refine (ys1 17 (x := 0) rfl rfl rfl).trans ?_
  refine (yq 20 rfl (zWS.tag hW (o := 43 + i) (zwT_3 _ hi).2.2 (zwT_3 _ hi).1) (zWS.k0 hW (o := 43 + i)) (zWS.ni hW (o := 43 + i) (zwT_3 _ hi).2.2 (zwT_3 _ hi).2.1) (by decide) rfl (zpc_up (o := 43 + i) (zpk_3 _ hi) (zwT_3 _ hi).2.2)).trans ?_
  generalize hV4 : zvu V3 3 i 3 (0) = V4
  refine (ys4 21 (v := .ref (w + (43 + i))) rfl rfl rfl rfl).trans ?_
  refine (ys1 22 (x := 0) rfl rfl rfl).trans ?_
  refine (yq 25 rfl (zWS.tag hW (o := 43 + i) (zwT_3 _ hi).2.2 (zwT_3 _ hi).1) (zWS.k0 hW (o := 43 + i)) (zWS.ni hW (o := 43 + i) (zwT_3 _ hi).2.2 (zwT_3 _ hi).2.1) (by decide) rfl (zpc_up (o := 43 + i) (zpk_3 _ hi) (zwT_3 _ hi).2.2)).trans ?_
  generalize hV5 : zvu V4 3 i 4 (0) = V5
  refine (ys4 26 (v := .ref (w + (43 + i))) rfl rfl rfl rfl).trans ?_
  refine (ys1 27 (x := 0) rfl rfl rfl).trans ?_
  refine (yq 30 rfl (zWS.tag hW (o := 43 + i) (zwT_3 _ hi).2.2 (zwT_3 _ hi).1) (zWS.k0 hW (o := 43 + i)) (zWS.ni hW (o := 43 + i) (zwT_3 _ hi).2.2 (zwT_3 _ hi).2.1) (by decide) rfl (zpc_up (o := 43 + i) (zpk_3 _ hi) (zwT_3 _ hi).2.2)).trans ?_
  generalize hV6 : zvu V5 3 i 5 (0) = V6
  refine (ys36v rfl rfl).trans ?_
  rw [show vclH V i = V6 from by subst hV6 hV5 hV4 hV3 hV2 hV1; unfold vclH; (try dsimp only); first | done | rfl]; (first | done | rfl)

def vclK (V : zV) (k : Nat) : zV :=
  let V1 := zvu V 4 k 0 (0)
  let V2 := zvu V1 4 k 1 (0)
  let V3 := zvu V2 4 k 2 (0)
  let V4 := zvu V3 4 k 3 (0)
  let V5 := zvu V4 4 k 4 (0)
  let V6 := zvu V5 4 k 5 ((-1))
  V6

theorem c_clK {d : Nat} {w : Nat} {V : zV} {J : Nat → Nat → Int32} {μ : zM} (hW : zWS μ w) {k : Nat} (hk : k < 12) : zden zcds (d + 1) 113 [.ref (w + (49 + 3 * k))] (zwi μ (zpc J w V)) = some (0, none, 0, 0, zwi μ (zpc J w ((vclK V k)))) := by
  refine (zd_in (d := d + 0) (cd := zc113) (nL := 1) (L := [(0, .ref (w + (49 + 3 * k)))]) rfl (Nat.le_of_ble_eq_true rfl) rfl).trans ?_
  refine (ys4 1 (v := .ref (w + (49 + 3 * k))) rfl rfl rfl rfl).trans ?_
  refine (ys1 2 (x := 0) rfl rfl rfl).trans ?_
  refine (yq 5 rfl (zWS.tag hW (o := 49 + 3 * k) (zwT_4 _ hk).2.2.2.2 (zwT_4 _ hk).1) (zWS.k0 hW (o := 49 + 3 * k)) (zWS.ni hW (o := 49 + 3 * k) (zwT_4 _ hk).2.2.2.2 (zwT_4 _ hk).2.1) (by decide) rfl (zpc_up (o := 49 + 3 * k) (zpk_4 _ hk) (zwT_4 _ hk).2.2.2.2)).trans ?_
  generalize hV1 : zvu V 4 k 0 (0) = V1
  refine (ys4 6 (v := .ref (w + (49 + 3 * k))) rfl rfl rfl rfl).trans ?_
  refine (ys1 7 (x := 0) rfl rfl rfl).trans ?_
  refine (yq 10 rfl (zWS.tag hW (o := 49 + 3 * k) (zwT_4 _ hk).2.2.2.2 (zwT_4 _ hk).1) (zWS.k0 hW (o := 49 + 3 * k)) (zWS.ni hW (o := 49 + 3 * k) (zwT_4 _ hk).2.2.2.2 (zwT_4 _ hk).2.1) (by decide) rfl (zpc_up (o := 49 + 3 * k) (zpk_4 _ hk) (zwT_4 _ hk).2.2.2.2)).trans ?_
  generalize hV2 : zvu V1 4 k 1 (0) = V2
  refine (ys4 11 (v := .ref (w + (49 + 3 * k))) rfl rfl rfl rfl).trans ?_
  refine (ys1 12 (x := 0) rfl rfl rfl).trans ?_
  refine (yq 15 rfl (zWS.tag hW (o := 49 + 3 * k) (zwT_4 _ hk).2.2.2.2 (zwT_4 _ hk).1) (zWS.k0 hW (o := 49 + 3 * k)) (zWS.ni hW (o := 49 + 3 * k) (zwT_4 _ hk).2.2.2.2 (zwT_4 _ hk).2.1) (by decide) rfl (zpc_up (o := 49 + 3 * k) (zpk_4 _ hk) (zwT_4 _ hk).2.2.2.2)).trans ?_
  generalize hV3 : zvu V2 4 k 2 (0) = V3
  refine (ys4 16 (v := .ref (w + (49 + 3 * k))) rfl rfl rfl rfl).trans ?_
  refine (ys1 17 (x := 0) rfl rfl rfl).trans ?_
  refine (yq 20 rfl (zWS.tag hW (o := 49 + 3 * k) (zwT_4 _ hk).2.2.2.2 (zwT_4 _ hk).1) (zWS.k0 hW (o := 49 + 3 * k)) (zWS.ni hW (o := 49 + 3 * k) (zwT_4 _ hk).2.2.2.2 (zwT_4 _ hk).2.1) (by decide) rfl (zpc_up (o := 49 + 3 * k) (zpk_4 _ hk) (zwT_4 _ hk).2.2.2.2)).trans ?_
  generalize hV4 : zvu V3 4 k 3 (0) = V4
  refine (ys4 21 (v := .ref (w + (49 + 3 * k))) rfl rfl rfl rfl).trans ?_
  refine (ys1 22 (x := 0) rfl rfl rfl).trans ?_
  refine (yq 25 rfl (zWS.tag hW (o := 49 + 3 * k) (zwT_4 _ hk).2.2.2.2 (zwT_4 _ hk).1) (zWS.k0 hW (o := 49 + 3 * k)) (zWS.ni hW (o := 49 + 3 * k) (zwT_4 _ hk).2.2.2.2 (zwT_4 _ hk).2.1) (by decide) rfl (zpc_up (o := 49 + 3 * k) (zpk_4 _ hk) (zwT_4 _ hk).2.2.2.2)).trans ?_
  generalize hV5 : zvu V4 4 k 4 (0) = V5
  refine (ys4 26 (v := .ref (w + (49 + 3 * k))) rfl rfl rfl rfl).trans ?_
  refine (ys1 27 (x := (-1)) rfl rfl rfl).trans ?_
  refine (yq 30 rfl (zWS.tag hW (o := 49 + 3 * k) (zwT_4 _ hk).2.2.2.2 (zwT_4 _ hk).1) (zWS.k0 hW (o := 49 + 3 * k)) (zWS.ni hW (o := 49 + 3 * k) (zwT_4 _ hk).2.2.2.2 (zwT_4 _ hk).2.1) (by decide) rfl (zpc_up (o := 49 + 3 * k) (zpk_4 _ hk) (zwT_4 _ hk).2.2.2.2)).trans ?_
  generalize hV6 : zvu V5 4 k 5 ((-1)) = V6
  refine (ys36v rfl rfl).trans ?_
  rw [show vclK V k = V6 from by subst hV6 hV5 hV4 hV3 hV2 hV1; unfold vclK; (try dsimp only); first | done | rfl]; (first | done | rfl)

def vta (V : zV) (i : Nat) : zV :=
  let V1 := zvu V 3 i 2 ((-1))
  V1

theorem c_ta {d : Nat} {w : Nat} {V : zV} {J : Nat → Nat → Int32} {μ : zM} (hW : zWS μ w) {i : Nat} (hi : i < 6) : zden zcds (d + 1) 111 [.ref (w + (43 + i))] (zwi μ (zpc J w V)) = some (0, none, 0, 0, zwi μ (zpc J w ((vta V i)))) := by
  refine (zd_in (d := d + 0) (cd := zc111) (nL := 1) (L := [(0, .ref (w + (43 + i)))]) rfl (Nat.le_of_ble_eq_true rfl) rfl).trans ?_
  refine (ys4 1 (v := .ref (w + (43 + i))) rfl rfl rfl rfl).trans ?_
  refine (ys1 2 (x := (-1)) rfl rfl rfl).trans ?_
  refine (yq 5 rfl (zWS.tag hW (o := 43 + i) (zwT_3 _ hi).2.2 (zwT_3 _ hi).1) (zWS.k0 hW (o := 43 + i)) (zWS.ni hW (o := 43 + i) (zwT_3 _ hi).2.2 (zwT_3 _ hi).2.1) (by decide) rfl (zpc_up (o := 43 + i) (zpk_3 _ hi) (zwT_3 _ hi).2.2)).trans ?_
  generalize hV1 : zvu V 3 i 2 ((-1)) = V1
  refine (ys36v rfl rfl).trans ?_
  rw [show vta V i = V1 from by subst hV1; unfold vta; (try dsimp only); first | done | rfl]; (first | done | rfl)

def vasp (V : zV) (i : Nat) (x : Int32) (y : Int32) : zV :=
  if (V 1 i 0) < 0 then
    V
  else
    if (nI 6) ≤ (V 1 i 0) then
      V
    else
      if (V 1 i 0) < (nI 6) then
        let V1 := zvu V 5 i (zsf (V 1 i 0) 6) (x)
        let V2 := zvu V1 6 i (zsf (V 1 i 0) 6) (y)
        if (V 1 i 0) = 0 then
          let V3 := zvu V2 1 i 1 (x)
          let V4 := zvu V3 1 i 2 (y)
          let V5 := zvu V4 1 i 0 (((V4 1 i 0) + 1))
          V5
        else
          let V6 := zvu V2 1 i 4 (1)
          let V7 := zvu V6 1 i 0 (((V6 1 i 0) + 1))
          V7
      else
        V

theorem c_asp {d : Nat} {w : Nat} {V : zV} {J : Nat → Nat → Int32} {μ : zM} (hW : zWS μ w) {i : Nat} (hi : i < 6) {x y : Int32} : zden zcds (d + 1) 101 [.ref (w + (5 + 3 * i)), .int (x), .int (y)] (zwi μ (zpc J w V)) = some (0, none, 0, 0, zwi μ (zpc J w ((vasp V i x y)))) := by
  refine (zd_in (d := d + 0) (cd := zc101) (nL := 3) (L := [(0, .ref (w + (5 + 3 * i))), (1, .int (x)), (2, .int (y))]) rfl (Nat.le_of_ble_eq_true rfl) rfl).trans ?_
  refine (ys4 1 (v := .ref (w + (5 + 3 * i))) rfl rfl rfl rfl).trans ?_
  refine (yg 4 rfl (zWS.tag hW (o := 5 + 3 * i) (zwT_1 _ hi).2.2.2.2 (zwT_1 _ hi).1) (zWS.ni hW (o := 5 + 3 * i) (zwT_1 _ hi).2.2.2.2 (zwT_1 _ hi).2.1) (by decide) rfl (zpc_at (o := 5 + 3 * i) (zpk_1 _ hi) (zwT_1 _ hi).2.2.2.2)).trans ?_
  refine ys17_2 7 rfl rfl (fun h4 => ?_) (fun h4 => ?_)
  · refine (ys36v rfl rfl).trans ?_
    rw [show vasp V i x y = V from by unfold vasp; (try dsimp only); rw [if_pos h4]]; (first | done | rfl)
  · refine (ys4 8 (v := .ref (w + (5 + 3 * i))) rfl rfl rfl rfl).trans ?_
    refine (yg 11 rfl (zWS.tag hW (o := 5 + 3 * i) (zwT_1 _ hi).2.2.2.2 (zwT_1 _ hi).1) (zWS.ni hW (o := 5 + 3 * i) (zwT_1 _ hi).2.2.2.2 (zwT_1 _ hi).2.1) (by decide) rfl (zpc_at (o := 5 + 3 * i) (zpk_1 _ hi) (zwT_1 _ hi).2.2.2.2)).trans ?_
    refine (ys4 12 (v := .ref (w + (5 + 3 * i))) rfl rfl rfl rfl).trans ?_
    refine (ygr 15 rfl (zWS.tag hW (o := 5 + 3 * i) (zwT_1 _ hi).2.2.2.2 (zwT_1 _ hi).1) rfl (zWS.gr hW (o := 5 + 3 * i) (k := 0) (zwT_1 _ hi).2.2.2.2 (zwT_1 _ hi).2.2.1)).trans ?_
    refine (yal 16 (N := 6) rfl (zWS.tag hW (o := 6 + 3 * i) (zwT_5 _ hi).2.2 (zwT_5 _ hi).1) (zWS.ni hW (o := 6 + 3 * i) (zwT_5 _ hi).2.2 (zwT_5 _ hi).2.1) rfl).trans ?_
    refine ys18_3 19 rfl rfl (fun h16 => ?_) (fun h16 => ?_)
    · refine (ys36v rfl rfl).trans ?_
      rw [show vasp V i x y = V from by unfold vasp; (try dsimp only); rw [if_neg h4, if_pos h16]]; (first | done | rfl)
    · refine (ys4 20 (v := .ref (w + (5 + 3 * i))) rfl rfl rfl rfl).trans ?_
      refine (yg 23 rfl (zWS.tag hW (o := 5 + 3 * i) (zwT_1 _ hi).2.2.2.2 (zwT_1 _ hi).1) (zWS.ni hW (o := 5 + 3 * i) (zwT_1 _ hi).2.2.2.2 (zwT_1 _ hi).2.1) (by decide) rfl (zpc_at (o := 5 + 3 * i) (zpk_1 _ hi) (zwT_1 _ hi).2.2.2.2)).trans ?_
      refine (ys4 24 (v := .ref (w + (5 + 3 * i))) rfl rfl rfl rfl).trans ?_
      refine (ygr 27 rfl (zWS.tag hW (o := 5 + 3 * i) (zwT_1 _ hi).2.2.2.2 (zwT_1 _ hi).1) rfl (zWS.gr hW (o := 5 + 3 * i) (k := 1) (zwT_1 _ hi).2.2.2.2 (zwT_1 _ hi).2.2.2.1)).trans ?_
      refine (yal 28 (N := 6) rfl (zWS.tag hW (o := 7 + 3 * i) (zwT_6 _ hi).2.2 (zwT_6 _ hi).1) (zWS.ni hW (o := 7 + 3 * i) (zwT_6 _ hi).2.2 (zwT_6 _ hi).2.1) rfl).trans ?_
      refine ys18_2 31 rfl rfl (fun h28 => ?_) (fun h28 => ?_)
      · refine (ys4 33 (v := .ref (w + (5 + 3 * i))) rfl rfl rfl rfl).trans ?_
        refine (ygr 36 rfl (zWS.tag hW (o := 5 + 3 * i) (zwT_1 _ hi).2.2.2.2 (zwT_1 _ hi).1) rfl (zWS.gr hW (o := 5 + 3 * i) (k := 0) (zwT_1 _ hi).2.2.2.2 (zwT_1 _ hi).2.2.1)).trans ?_
        refine (ys4 37 (v := .ref (w + (5 + 3 * i))) rfl rfl rfl rfl).trans ?_
        refine (yg 40 rfl (zWS.tag hW (o := 5 + 3 * i) (zwT_1 _ hi).2.2.2.2 (zwT_1 _ hi).1) (zWS.ni hW (o := 5 + 3 * i) (zwT_1 _ hi).2.2.2.2 (zwT_1 _ hi).2.1) (by decide) rfl (zpc_at (o := 5 + 3 * i) (zpk_1 _ hi) (zwT_1 _ hi).2.2.2.2)).trans ?_
        refine (ys4 41 (v := .int (x)) rfl rfl rfl rfl).trans ?_
        refine (ywx 42 (N := 6) (zsf_i (by decide) (i_le h4) h28) (j := (zsf (V 1 i 0) 6)) rfl (zWS.tag hW (o := 6 + 3 * i) (zwT_5 _ hi).2.2 (zwT_5 _ hi).1) (zWS.k0 hW (o := 6 + 3 * i)) (zWS.ni hW (o := 6 + 3 * i) (zwT_5 _ hi).2.2 (zwT_5 _ hi).2.1) (zsf_lt (by decide) (by decide)) (by decide) rfl (zpc_up (o := 6 + 3 * i) (zpk_5 _ hi) (zwT_5 _ hi).2.2)).trans ?_
        generalize hV1 : zvu V 5 i (zsf (V 1 i 0) 6) (x) = V1
        refine (ys4 43 (v := .ref (w + (5 + 3 * i))) rfl rfl rfl rfl).trans ?_
        refine (ygr 46 rfl (zWS.tag hW (o := 5 + 3 * i) (zwT_1 _ hi).2.2.2.2 (zwT_1 _ hi).1) rfl (zWS.gr hW (o := 5 + 3 * i) (k := 1) (zwT_1 _ hi).2.2.2.2 (zwT_1 _ hi).2.2.2.1)).trans ?_
        refine (ys4 47 (v := .ref (w + (5 + 3 * i))) rfl rfl rfl rfl).trans ?_
        refine (yg 50 rfl (zWS.tag hW (o := 5 + 3 * i) (zwT_1 _ hi).2.2.2.2 (zwT_1 _ hi).1) (zWS.ni hW (o := 5 + 3 * i) (zwT_1 _ hi).2.2.2.2 (zwT_1 _ hi).2.1) (by decide) rfl (Eq.trans (zpc_at (o := 5 + 3 * i) (zpk_1 _ hi) (zwT_1 _ hi).2.2.2.2) (show (V1 1 i 0) = (V 1 i 0) from (by rw [← hV1]; exact zvu_ne (fun e => absurd e.1 (by decide)))))).trans ?_
        refine (ys4 51 (v := .int (y)) rfl rfl rfl rfl).trans ?_
        refine (ywx 52 (N := 6) (zsf_i (by decide) (i_le h4) h28) (j := (zsf (V 1 i 0) 6)) rfl (zWS.tag hW (o := 7 + 3 * i) (zwT_6 _ hi).2.2 (zwT_6 _ hi).1) (zWS.k0 hW (o := 7 + 3 * i)) (zWS.ni hW (o := 7 + 3 * i) (zwT_6 _ hi).2.2 (zwT_6 _ hi).2.1) (zsf_lt (by decide) (by decide)) (by decide) rfl (zpc_up (o := 7 + 3 * i) (zpk_6 _ hi) (zwT_6 _ hi).2.2)).trans ?_
        generalize hV2 : zvu V1 6 i (zsf (V 1 i 0) 6) (y) = V2
        refine (ys4 53 (v := .ref (w + (5 + 3 * i))) rfl rfl rfl rfl).trans ?_
        refine (yg 56 rfl (zWS.tag hW (o := 5 + 3 * i) (zwT_1 _ hi).2.2.2.2 (zwT_1 _ hi).1) (zWS.ni hW (o := 5 + 3 * i) (zwT_1 _ hi).2.2.2.2 (zwT_1 _ hi).2.1) (by decide) rfl (Eq.trans (zpc_at (o := 5 + 3 * i) (zpk_1 _ hi) (zwT_1 _ hi).2.2.2.2) (show (V2 1 i 0) = (V 1 i 0) from (by rw [← hV2, zvu_ne (fun e => absurd e.1 (by decide)), ← hV1]; exact zvu_ne (fun e => absurd e.1 (by decide)))))).trans ?_
        refine ys17_1 59 rfl rfl (fun h56 => ?_) (fun h56 => ?_)
        · refine (ys4 60 (v := .ref (w + (5 + 3 * i))) rfl rfl rfl rfl).trans ?_
          refine (ys4 61 (v := .int (x)) rfl rfl rfl rfl).trans ?_
          refine (yq 64 rfl (zWS.tag hW (o := 5 + 3 * i) (zwT_1 _ hi).2.2.2.2 (zwT_1 _ hi).1) (zWS.k0 hW (o := 5 + 3 * i)) (zWS.ni hW (o := 5 + 3 * i) (zwT_1 _ hi).2.2.2.2 (zwT_1 _ hi).2.1) (by decide) rfl (zpc_up (o := 5 + 3 * i) (zpk_1 _ hi) (zwT_1 _ hi).2.2.2.2)).trans ?_
          generalize hV3 : zvu V2 1 i 1 (x) = V3
          refine (ys4 65 (v := .ref (w + (5 + 3 * i))) rfl rfl rfl rfl).trans ?_
          refine (ys4 66 (v := .int (y)) rfl rfl rfl rfl).trans ?_
          refine (yq 69 rfl (zWS.tag hW (o := 5 + 3 * i) (zwT_1 _ hi).2.2.2.2 (zwT_1 _ hi).1) (zWS.k0 hW (o := 5 + 3 * i)) (zWS.ni hW (o := 5 + 3 * i) (zwT_1 _ hi).2.2.2.2 (zwT_1 _ hi).2.1) (by decide) rfl (zpc_up (o := 5 + 3 * i) (zpk_1 _ hi) (zwT_1 _ hi).2.2.2.2)).trans ?_
          generalize hV4 : zvu V3 1 i 2 (y) = V4
          refine (ys19 rfl).trans ?_
          refine (ys4 78 (v := .ref (w + (5 + 3 * i))) rfl rfl rfl rfl).trans ?_
          refine (ys14 79 rfl (Nat.le_of_ble_eq_true rfl) rfl).trans ?_
          refine (yg 82 rfl (zWS.tag hW (o := 5 + 3 * i) (zwT_1 _ hi).2.2.2.2 (zwT_1 _ hi).1) (zWS.ni hW (o := 5 + 3 * i) (zwT_1 _ hi).2.2.2.2 (zwT_1 _ hi).2.1) (by decide) rfl (zpc_at (o := 5 + 3 * i) (zpk_1 _ hi) (zwT_1 _ hi).2.2.2.2)).trans ?_
          refine (ys1 83 (x := 1) rfl rfl rfl).trans ?_
          refine (ys7_0 84 rfl rfl).trans ?_
          refine (yq 87 rfl (zWS.tag hW (o := 5 + 3 * i) (zwT_1 _ hi).2.2.2.2 (zwT_1 _ hi).1) (zWS.k0 hW (o := 5 + 3 * i)) (zWS.ni hW (o := 5 + 3 * i) (zwT_1 _ hi).2.2.2.2 (zwT_1 _ hi).2.1) (by decide) rfl (zpc_up (o := 5 + 3 * i) (zpk_1 _ hi) (zwT_1 _ hi).2.2.2.2)).trans ?_
          generalize hV5 : zvu V4 1 i 0 (((V4 1 i 0) + 1)) = V5
          refine (ys36v rfl rfl).trans ?_
          rw [show vasp V i x y = V5 from by subst hV5 hV4 hV3 hV2 hV1; unfold vasp; (try dsimp only); rw [if_neg h4, if_neg h16, if_pos h28, if_pos h56]]; (first | done | rfl)
        · refine (ys4 73 (v := .ref (w + (5 + 3 * i))) rfl rfl rfl rfl).trans ?_
          refine (ys1 74 (x := 1) rfl rfl rfl).trans ?_
          refine (yq 77 rfl (zWS.tag hW (o := 5 + 3 * i) (zwT_1 _ hi).2.2.2.2 (zwT_1 _ hi).1) (zWS.k0 hW (o := 5 + 3 * i)) (zWS.ni hW (o := 5 + 3 * i) (zwT_1 _ hi).2.2.2.2 (zwT_1 _ hi).2.1) (by decide) rfl (zpc_up (o := 5 + 3 * i) (zpk_1 _ hi) (zwT_1 _ hi).2.2.2.2)).trans ?_
          generalize hV6 : zvu V2 1 i 4 (1) = V6
          refine (ys4 78 (v := .ref (w + (5 + 3 * i))) rfl rfl rfl rfl).trans ?_
          refine (ys14 79 rfl (Nat.le_of_ble_eq_true rfl) rfl).trans ?_
          refine (yg 82 rfl (zWS.tag hW (o := 5 + 3 * i) (zwT_1 _ hi).2.2.2.2 (zwT_1 _ hi).1) (zWS.ni hW (o := 5 + 3 * i) (zwT_1 _ hi).2.2.2.2 (zwT_1 _ hi).2.1) (by decide) rfl (zpc_at (o := 5 + 3 * i) (zpk_1 _ hi) (zwT_1 _ hi).2.2.2.2)).trans ?_
          refine (ys1 83 (x := 1) rfl rfl rfl).trans ?_
          refine (ys7_0 84 rfl rfl).trans ?_
          refine (yq 87 rfl (zWS.tag hW (o := 5 + 3 * i) (zwT_1 _ hi).2.2.2.2 (zwT_1 _ hi).1) (zWS.k0 hW (o := 5 + 3 * i)) (zWS.ni hW (o := 5 + 3 * i) (zwT_1 _ hi).2.2.2.2 (zwT_1 _ hi).2.1) (by decide) rfl (zpc_up (o := 5 + 3 * i) (zpk_1 _ hi) (zwT_1 _ hi).2.2.2.2)).trans ?_
          generalize hV7 : zvu V6 1 i 0 (((V6 1 i 0) + 1)) = V7
          refine (ys36v rfl rfl).trans ?_
          rw [show vasp V i x y = V7 from by subst hV7 hV6 hV2 hV1; unfold vasp; (try dsimp only); rw [if_neg h4, if_neg h16, if_pos h28, if_neg h56]]; (first | done | rfl)
      · refine (ys36v rfl rfl).trans ?_
        rw [show vasp V i x y = V from by unfold vasp; (try dsimp only); rw [if_neg h4, if_neg h16, if_neg h28]]; (first | done | rfl)

def vast (V : zV) (k : Nat) : zV :=
  if (V 4 k 0) < 0 then
    V
  else
    if (nI 6) ≤ (V 4 k 0) then
      V
    else
      let V1 := zvu V 7 k (zsf (V 4 k 0) 6) (0)
      let V2 := zvu V1 4 k 0 (((V1 4 k 0) + 1))
      V2

theorem c_ast {d : Nat} {w : Nat} {V : zV} {J : Nat → Nat → Int32} {μ : zM} (hW : zWS μ w) {k : Nat} (hk : k < 12) : zden zcds (d + 1) 117 [.ref (w + (49 + 3 * k))] (zwi μ (zpc J w V)) = some (0, none, 0, 0, zwi μ (zpc J w ((vast V k)))) := by
  refine (zd_in (d := d + 0) (cd := zc117) (nL := 1) (L := [(0, .ref (w + (49 + 3 * k)))]) rfl (Nat.le_of_ble_eq_true rfl) rfl).trans ?_
  refine (ys4 1 (v := .ref (w + (49 + 3 * k))) rfl rfl rfl rfl).trans ?_
  refine (yg 4 rfl (zWS.tag hW (o := 49 + 3 * k) (zwT_4 _ hk).2.2.2.2 (zwT_4 _ hk).1) (zWS.ni hW (o := 49 + 3 * k) (zwT_4 _ hk).2.2.2.2 (zwT_4 _ hk).2.1) (by decide) rfl (zpc_at (o := 49 + 3 * k) (zpk_4 _ hk) (zwT_4 _ hk).2.2.2.2)).trans ?_
  refine ys17_2 7 rfl rfl (fun h4 => ?_) (fun h4 => ?_)
  · refine (ys36v rfl rfl).trans ?_
    rw [show vast V k = V from by unfold vast; (try dsimp only); rw [if_pos h4]]; (first | done | rfl)
  · refine (ys4 8 (v := .ref (w + (49 + 3 * k))) rfl rfl rfl rfl).trans ?_
    refine (yg 11 rfl (zWS.tag hW (o := 49 + 3 * k) (zwT_4 _ hk).2.2.2.2 (zwT_4 _ hk).1) (zWS.ni hW (o := 49 + 3 * k) (zwT_4 _ hk).2.2.2.2 (zwT_4 _ hk).2.1) (by decide) rfl (zpc_at (o := 49 + 3 * k) (zpk_4 _ hk) (zwT_4 _ hk).2.2.2.2)).trans ?_
    refine (ys4 12 (v := .ref (w + (49 + 3 * k))) rfl rfl rfl rfl).trans ?_
    refine (ygr 15 rfl (zWS.tag hW (o := 49 + 3 * k) (zwT_4 _ hk).2.2.2.2 (zwT_4 _ hk).1) rfl (zWS.gr hW (o := 49 + 3 * k) (k := 0) (zwT_4 _ hk).2.2.2.2 (zwT_4 _ hk).2.2.1)).trans ?_
    refine (yal 16 (N := 6) rfl (zWS.tag hW (o := 50 + 3 * k) (zwT_7 _ hk).2.2 (zwT_7 _ hk).1) (zWS.ni hW (o := 50 + 3 * k) (zwT_7 _ hk).2.2 (zwT_7 _ hk).2.1) rfl).trans ?_
    refine ys18_3 19 rfl rfl (fun h16 => ?_) (fun h16 => ?_)
    · refine (ys36v rfl rfl).trans ?_
      rw [show vast V k = V from by unfold vast; (try dsimp only); rw [if_neg h4, if_pos h16]]; (first | done | rfl)
    · refine (ys4 20 (v := .ref (w + (49 + 3 * k))) rfl rfl rfl rfl).trans ?_
      refine (ygr 23 rfl (zWS.tag hW (o := 49 + 3 * k) (zwT_4 _ hk).2.2.2.2 (zwT_4 _ hk).1) rfl (zWS.gr hW (o := 49 + 3 * k) (k := 0) (zwT_4 _ hk).2.2.2.2 (zwT_4 _ hk).2.2.1)).trans ?_
      refine (ys4 24 (v := .ref (w + (49 + 3 * k))) rfl rfl rfl rfl).trans ?_
      refine (yg 27 rfl (zWS.tag hW (o := 49 + 3 * k) (zwT_4 _ hk).2.2.2.2 (zwT_4 _ hk).1) (zWS.ni hW (o := 49 + 3 * k) (zwT_4 _ hk).2.2.2.2 (zwT_4 _ hk).2.1) (by decide) rfl (zpc_at (o := 49 + 3 * k) (zpk_4 _ hk) (zwT_4 _ hk).2.2.2.2)).trans ?_
      refine (ys1 28 (x := 0) rfl rfl rfl).trans ?_
      refine (ywx 29 (N := 6) (zsf_i (by decide) (i_le h4) (i_lt h16)) (j := (zsf (V 4 k 0) 6)) rfl (zWS.tag hW (o := 50 + 3 * k) (zwT_7 _ hk).2.2 (zwT_7 _ hk).1) (zWS.k0 hW (o := 50 + 3 * k)) (zWS.ni hW (o := 50 + 3 * k) (zwT_7 _ hk).2.2 (zwT_7 _ hk).2.1) (zsf_lt (by decide) (by decide)) (by decide) rfl (zpc_up (o := 50 + 3 * k) (zpk_7 _ hk) (zwT_7 _ hk).2.2)).trans ?_
      generalize hV1 : zvu V 7 k (zsf (V 4 k 0) 6) (0) = V1
      refine (ys4 30 (v := .ref (w + (49 + 3 * k))) rfl rfl rfl rfl).trans ?_
      refine (ys14 31 rfl (Nat.le_of_ble_eq_true rfl) rfl).trans ?_
      refine (yg 34 rfl (zWS.tag hW (o := 49 + 3 * k) (zwT_4 _ hk).2.2.2.2 (zwT_4 _ hk).1) (zWS.ni hW (o := 49 + 3 * k) (zwT_4 _ hk).2.2.2.2 (zwT_4 _ hk).2.1) (by decide) rfl (zpc_at (o := 49 + 3 * k) (zpk_4 _ hk) (zwT_4 _ hk).2.2.2.2)).trans ?_
      refine (ys1 35 (x := 1) rfl rfl rfl).trans ?_
      refine (ys7_0 36 rfl rfl).trans ?_
      refine (yq 39 rfl (zWS.tag hW (o := 49 + 3 * k) (zwT_4 _ hk).2.2.2.2 (zwT_4 _ hk).1) (zWS.k0 hW (o := 49 + 3 * k)) (zWS.ni hW (o := 49 + 3 * k) (zwT_4 _ hk).2.2.2.2 (zwT_4 _ hk).2.1) (by decide) rfl (zpc_up (o := 49 + 3 * k) (zpk_4 _ hk) (zwT_4 _ hk).2.2.2.2)).trans ?_
      generalize hV2 : zvu V1 4 k 0 (((V1 4 k 0) + 1)) = V2
      refine (ys36v rfl rfl).trans ?_
      rw [show vast V k = V2 from by subst hV2 hV1; unfold vast; (try dsimp only); rw [if_neg h4, if_neg h16]]; (first | done | rfl)

def vaca (V : zV) (k : Nat) (x : Int32) : zV :=
  if 20 ≤ (vsize V k ((V 4 k 0) - 1)) then
    V
  else
    if ((V 4 k 0) - 1) < 0 then
      V
    else
      if (nI 6) ≤ ((V 4 k 0) - 1) then
        V
      else
        if ((((V 4 k 0) - 1) * 20) + (vsize V k ((V 4 k 0) - 1))) < 0 then
          V
        else
          if (nI 120) ≤ ((((V 4 k 0) - 1) * 20) + (vsize V k ((V 4 k 0) - 1))) then
            V
          else
            let V1 := zvu V 8 k (zsf (((V 4 k 0) - 1) * 20 + vsize V k ((V 4 k 0) - 1)) 120) (x)
            let V2 := zvu V1 7 k (zsf ((V 4 k 0) - 1) 6) (((vsize V k ((V 4 k 0) - 1)) + 1))
            V2

theorem c_aca {d : Nat} {w : Nat} {V : zV} {J : Nat → Nat → Int32} {μ : zM} (hW : zWS μ w) {k : Nat} (hk : k < 12) {x : Int32} : zden zcds (d + 3) 118 [.ref (w + (49 + 3 * k)), .int (x)] (zwi μ (zpc J w V)) = some (0, none, 0, 0, zwi μ (zpc J w ((vaca V k x)))) := by
  refine (zd_in (d := d + 2) (cd := zc118) (nL := 5) (L := [(0, .ref (w + (49 + 3 * k))), (1, .int (x))]) rfl (Nat.le_of_ble_eq_true rfl) rfl).trans ?_
  refine (ys4 1 (v := .ref (w + (49 + 3 * k))) rfl rfl rfl rfl).trans ?_
  refine (yg 4 rfl (zWS.tag hW (o := 49 + 3 * k) (zwT_4 _ hk).2.2.2.2 (zwT_4 _ hk).1) (zWS.ni hW (o := 49 + 3 * k) (zwT_4 _ hk).2.2.2.2 (zwT_4 _ hk).2.1) (by decide) rfl (zpc_at (o := 49 + 3 * k) (zpk_4 _ hk) (zwT_4 _ hk).2.2.2.2)).trans ?_
  refine (ys1 5 (x := 1) rfl rfl rfl).trans ?_
  refine (ys7_1 6 rfl rfl).trans ?_
  refine (ys5 7 (L2 := [(2, .int (((V 4 k 0) - 1))), (0, .ref (w + (49 + 3 * k))), (1, .int (x))]) rfl rfl rfl rfl).trans ?_
  refine (ys4 8 (v := .ref (w + (49 + 3 * k))) rfl rfl rfl rfl).trans ?_
  refine (ys4 9 (v := .int (((V 4 k 0) - 1))) rfl rfl rfl rfl).trans ?_
  refine (yc2 12 rfl rfl (Nat.le_of_ble_eq_true rfl) (Or.inr (by show ztg (zwi _ _) _ = _; rw [ztg_wi]; exact (zWS.tag hW (o := 49 + 3 * k) (zwT_4 _ hk).2.2.2.2 (zwT_4 _ hk).1))) rfl rfl (c_size hW hk)).trans ?_
  refine (ys5 13 (L2 := [(3, .int ((vsize V k ((V 4 k 0) - 1)))), (2, .int (((V 4 k 0) - 1))), (0, .ref (w + (49 + 3 * k))), (1, .int (x))]) rfl rfl rfl rfl).trans ?_
  refine (ys4 14 (v := .int (((V 4 k 0) - 1))) rfl rfl rfl rfl).trans ?_
  refine (ys1 16 (x := 20) rfl rfl rfl).trans ?_
  refine (ys7_2 17 rfl rfl).trans ?_
  refine (ys4 18 (v := .int ((vsize V k ((V 4 k 0) - 1)))) rfl rfl rfl rfl).trans ?_
  refine (ys7_0 19 rfl rfl).trans ?_
  refine (ys5 21 (L2 := [(4, .int (((((V 4 k 0) - 1) * 20) + (vsize V k ((V 4 k 0) - 1))))), (3, .int ((vsize V k ((V 4 k 0) - 1)))), (2, .int (((V 4 k 0) - 1))), (0, .ref (w + (49 + 3 * k))), (1, .int (x))]) rfl rfl rfl rfl).trans ?_
  refine (ys4 22 (v := .int ((vsize V k ((V 4 k 0) - 1)))) rfl rfl rfl rfl).trans ?_
  refine (ys1 24 (x := 20) rfl rfl rfl).trans ?_
  refine ys18_3 27 rfl rfl (fun h24 => ?_) (fun h24 => ?_)
  · refine (ys36v rfl rfl).trans ?_
    rw [show vaca V k x = V from by unfold vaca; (try dsimp only); rw [if_pos h24]]; (first | done | rfl)
  · refine (ys4 28 (v := .int (((V 4 k 0) - 1))) rfl rfl rfl rfl).trans ?_
    refine ys17_2 31 rfl rfl (fun h28 => ?_) (fun h28 => ?_)
    · refine (ys36v rfl rfl).trans ?_
      rw [show vaca V k x = V from by unfold vaca; (try dsimp only); rw [if_neg h24, if_pos h28]]; (first | done | rfl)
    · refine (ys4 32 (v := .int (((V 4 k 0) - 1))) rfl rfl rfl rfl).trans ?_
      refine (ys4 33 (v := .ref (w + (49 + 3 * k))) rfl rfl rfl rfl).trans ?_
      refine (ygr 36 rfl (zWS.tag hW (o := 49 + 3 * k) (zwT_4 _ hk).2.2.2.2 (zwT_4 _ hk).1) rfl (zWS.gr hW (o := 49 + 3 * k) (k := 0) (zwT_4 _ hk).2.2.2.2 (zwT_4 _ hk).2.2.1)).trans ?_
      refine (yal 37 (N := 6) rfl (zWS.tag hW (o := 50 + 3 * k) (zwT_7 _ hk).2.2 (zwT_7 _ hk).1) (zWS.ni hW (o := 50 + 3 * k) (zwT_7 _ hk).2.2 (zwT_7 _ hk).2.1) rfl).trans ?_
      refine ys18_3 40 rfl rfl (fun h37 => ?_) (fun h37 => ?_)
      · refine (ys36v rfl rfl).trans ?_
        rw [show vaca V k x = V from by unfold vaca; (try dsimp only); rw [if_neg h24, if_neg h28, if_pos h37]]; (first | done | rfl)
      · refine (ys4 42 (v := .int (((((V 4 k 0) - 1) * 20) + (vsize V k ((V 4 k 0) - 1))))) rfl rfl rfl rfl).trans ?_
        refine ys17_2 45 rfl rfl (fun h42 => ?_) (fun h42 => ?_)
        · refine (ys36v rfl rfl).trans ?_
          rw [show vaca V k x = V from by unfold vaca; (try dsimp only); rw [if_neg h24, if_neg h28, if_neg h37, if_pos h42]]; (first | done | rfl)
        · refine (ys4 47 (v := .int (((((V 4 k 0) - 1) * 20) + (vsize V k ((V 4 k 0) - 1))))) rfl rfl rfl rfl).trans ?_
          refine (ys4 48 (v := .ref (w + (49 + 3 * k))) rfl rfl rfl rfl).trans ?_
          refine (ygr 51 rfl (zWS.tag hW (o := 49 + 3 * k) (zwT_4 _ hk).2.2.2.2 (zwT_4 _ hk).1) rfl (zWS.gr hW (o := 49 + 3 * k) (k := 1) (zwT_4 _ hk).2.2.2.2 (zwT_4 _ hk).2.2.2.1)).trans ?_
          refine (yal 52 (N := 120) rfl (zWS.tag hW (o := 51 + 3 * k) (zwT_8 _ hk).2.2 (zwT_8 _ hk).1) (zWS.ni hW (o := 51 + 3 * k) (zwT_8 _ hk).2.2 (zwT_8 _ hk).2.1) rfl).trans ?_
          refine ys18_3 55 rfl rfl (fun h52 => ?_) (fun h52 => ?_)
          · refine (ys36v rfl rfl).trans ?_
            rw [show vaca V k x = V from by unfold vaca; (try dsimp only); rw [if_neg h24, if_neg h28, if_neg h37, if_neg h42, if_pos h52]]; (first | done | rfl)
          · refine (ys4 56 (v := .ref (w + (49 + 3 * k))) rfl rfl rfl rfl).trans ?_
            refine (ygr 59 rfl (zWS.tag hW (o := 49 + 3 * k) (zwT_4 _ hk).2.2.2.2 (zwT_4 _ hk).1) rfl (zWS.gr hW (o := 49 + 3 * k) (k := 1) (zwT_4 _ hk).2.2.2.2 (zwT_4 _ hk).2.2.2.1)).trans ?_
            refine (ys4 61 (v := .int (((((V 4 k 0) - 1) * 20) + (vsize V k ((V 4 k 0) - 1))))) rfl rfl rfl rfl).trans ?_
            refine (ys4 62 (v := .int (x)) rfl rfl rfl rfl).trans ?_
            refine (ywx 63 (N := 120) (zsf_i (by decide) (i_le h42) (i_lt h52)) (j := (zsf (((V 4 k 0) - 1) * 20 + vsize V k ((V 4 k 0) - 1)) 120)) rfl (zWS.tag hW (o := 51 + 3 * k) (zwT_8 _ hk).2.2 (zwT_8 _ hk).1) (zWS.k0 hW (o := 51 + 3 * k)) (zWS.ni hW (o := 51 + 3 * k) (zwT_8 _ hk).2.2 (zwT_8 _ hk).2.1) (zsf_lt (by decide) (by decide)) (by decide) rfl (zpc_up (o := 51 + 3 * k) (zpk_8 _ hk) (zwT_8 _ hk).2.2)).trans ?_
            generalize hV1 : zvu V 8 k (zsf (((V 4 k 0) - 1) * 20 + vsize V k ((V 4 k 0) - 1)) 120) (x) = V1
            refine (ys4 64 (v := .ref (w + (49 + 3 * k))) rfl rfl rfl rfl).trans ?_
            refine (ygr 67 rfl (zWS.tag hW (o := 49 + 3 * k) (zwT_4 _ hk).2.2.2.2 (zwT_4 _ hk).1) rfl (zWS.gr hW (o := 49 + 3 * k) (k := 0) (zwT_4 _ hk).2.2.2.2 (zwT_4 _ hk).2.2.1)).trans ?_
            refine (ys4 68 (v := .int (((V 4 k 0) - 1))) rfl rfl rfl rfl).trans ?_
            refine (ys4 69 (v := .int ((vsize V k ((V 4 k 0) - 1)))) rfl rfl rfl rfl).trans ?_
            refine (ys1 70 (x := 1) rfl rfl rfl).trans ?_
            refine (ys7_0 71 rfl rfl).trans ?_
            refine (ywx 72 (N := 6) (zsf_i (by decide) (i_le h28) (i_lt h37)) (j := (zsf ((V 4 k 0) - 1) 6)) rfl (zWS.tag hW (o := 50 + 3 * k) (zwT_7 _ hk).2.2 (zwT_7 _ hk).1) (zWS.k0 hW (o := 50 + 3 * k)) (zWS.ni hW (o := 50 + 3 * k) (zwT_7 _ hk).2.2 (zwT_7 _ hk).2.1) (zsf_lt (by decide) (by decide)) (by decide) rfl (zpc_up (o := 50 + 3 * k) (zpk_7 _ hk) (zwT_7 _ hk).2.2)).trans ?_
            generalize hV2 : zvu V1 7 k (zsf ((V 4 k 0) - 1) 6) (((vsize V k ((V 4 k 0) - 1)) + 1)) = V2
            refine (ys36v rfl rfl).trans ?_
            rw [show vaca V k x = V2 from by subst hV2 hV1; unfold vaca; (try dsimp only); rw [if_neg h24, if_neg h28, if_neg h37, if_neg h42, if_neg h52]]; (first | done | rfl)

def vlsh (V : zV) (k : Nat) (x : Int32) (y : Int32) : Nat → Nat → Int32
  | 0, i =>
    0
  | m + 1, i =>
    if (vcar V k y (nI i)) = x then
      1
    else
      vlsh V k x y m (i + 1)

theorem l_lsh {d c sl : Nat} {w : Nat} {V : zV} {J : Nat → Nat → Int32} {μ : zM} (hW : zWS μ w) {k : Nat} (hk : k < 12) {x y : Int32} {n : Nat} (hn : n ≤ 20) : ∀ (m i : Nat), i + m = n → zden1 (d + 3) (zden zcds (d + 3)) zc119 (16, [(4, .int (nI i)), (3, .int (nI n)), (2, .int (y)), (0, .ref (w + (49 + 3 * k))), (1, .int (x))], [], c, sl, zwi μ (zpc J w V)) = some (0, some (.int ((vlsh V k x y m i))), c, sl, zwi μ (zpc J w V))
  | 0, i, e => by
    refine (ys4 18 (v := .int (nI i)) rfl rfl rfl rfl).trans ?_
    refine (ys4 19 (v := .int (nI n)) rfl rfl rfl rfl).trans ?_
    refine ys18_3 22 rfl rfl (fun h19 => ?_) (fun h19 => absurd (nI_le (by omega) (by omega)) h19)
    refine (ys1 42 (x := 0) rfl rfl rfl).trans ?_
    refine (ys36 rfl (by decide)).trans ?_
    rw [show vlsh V k x y 0 i = 0 from by rw [vlsh]; (try dsimp only); first | done | rfl]; (first | done | rfl)
  | m + 1, i, e => by
    refine (ys4 18 (v := .int (nI i)) rfl rfl rfl rfl).trans ?_
    refine (ys4 19 (v := .int (nI n)) rfl rfl rfl rfl).trans ?_
    refine ys18_3 22 rfl rfl (fun h19 => absurd h19 (nI_ge (by omega) (by omega))) (fun h19 => ?_)
    refine (ys4 23 (v := .ref (w + (49 + 3 * k))) rfl rfl rfl rfl).trans ?_
    refine (ys4 24 (v := .int (y)) rfl rfl rfl rfl).trans ?_
    refine (ys4 26 (v := .int (nI i)) rfl rfl rfl rfl).trans ?_
    refine (yc3 29 rfl rfl (Nat.le_of_ble_eq_true rfl) (Or.inr (by show ztg (zwi _ _) _ = _; rw [ztg_wi]; exact (zWS.tag hW (o := 49 + 3 * k) (zwT_4 _ hk).2.2.2.2 (zwT_4 _ hk).1))) rfl rfl (c_car hW hk)).trans ?_
    refine (ys4 30 (v := .int (x)) rfl rfl rfl rfl).trans ?_
    refine ys18_1 33 rfl rfl (fun h30 => ?_) (fun h30 => ?_)
    · refine (ys1 34 (x := 1) rfl rfl rfl).trans ?_
      refine (ys36 rfl (by decide)).trans ?_
      rw [show vlsh V k x y (m + 1) i = 1 from by rw [vlsh]; (try dsimp only); rw [if_pos h30]]; (first | done | rfl)
    · refine (ys6 38 (y := nI (i + 1)) (L2 := [(4, .int (nI (i + 1))), (3, .int (nI n)), (2, .int (y)), (0, .ref (w + (49 + 3 * k))), (1, .int (x))]) rfl rfl (nI_1 _) rfl rfl).trans ?_
      refine (ys19 rfl).trans ?_
      rw [show vlsh V k x y (m + 1) i = vlsh V k x y m (i + 1) from by rw [vlsh]; (try dsimp only); rw [if_neg h30]]; exact l_lsh hW hk hn m (i + 1)    (by omega)

theorem c_lsh {d : Nat} {w : Nat} {V : zV} {J : Nat → Nat → Int32} {μ : zM} (hW : zWS μ w) {k : Nat} (hk : k < 12) {x : Int32} {n : Nat} (hn : n ≤ 20) (hs : vsize V k ((V 4 k 0) - 1) = nI n) : zden zcds (d + 4) 119 [.ref (w + (49 + 3 * k)), .int (x)] (zwi μ (zpc J w V)) = some (0, some (.int ((vlsh V k x ((V 4 k 0) - 1) n 0))), 0, 0, zwi μ (zpc J w V)) := by
  refine (zd_in (d := d + 3) (cd := zc119) (nL := 5) (L := [(0, .ref (w + (49 + 3 * k))), (1, .int (x))]) rfl (Nat.le_of_ble_eq_true rfl) rfl).trans ?_
  refine (ys4 1 (v := .ref (w + (49 + 3 * k))) rfl rfl rfl rfl).trans ?_
  refine (yg 4 rfl (zWS.tag hW (o := 49 + 3 * k) (zwT_4 _ hk).2.2.2.2 (zwT_4 _ hk).1) (zWS.ni hW (o := 49 + 3 * k) (zwT_4 _ hk).2.2.2.2 (zwT_4 _ hk).2.1) (by decide) rfl (zpc_at (o := 49 + 3 * k) (zpk_4 _ hk) (zwT_4 _ hk).2.2.2.2)).trans ?_
  refine (ys1 5 (x := 1) rfl rfl rfl).trans ?_
  refine (ys7_1 6 rfl rfl).trans ?_
  refine (ys5 7 (L2 := [(2, .int (((V 4 k 0) - 1))), (0, .ref (w + (49 + 3 * k))), (1, .int (x))]) rfl rfl rfl rfl).trans ?_
  refine (ys4 8 (v := .ref (w + (49 + 3 * k))) rfl rfl rfl rfl).trans ?_
  refine (ys4 9 (v := .int (((V 4 k 0) - 1))) rfl rfl rfl rfl).trans ?_
  refine (yc2 12 rfl rfl (Nat.le_of_ble_eq_true rfl) (Or.inr (by show ztg (zwi _ _) _ = _; rw [ztg_wi]; exact (zWS.tag hW (o := 49 + 3 * k) (zwT_4 _ hk).2.2.2.2 (zwT_4 _ hk).1))) rfl rfl (c_sizeN hW hk hs)).trans ?_
  refine (ys5 13 (L2 := [(3, .int (nI n)), (2, .int (((V 4 k 0) - 1))), (0, .ref (w + (49 + 3 * k))), (1, .int (x))]) rfl rfl rfl rfl).trans ?_
  refine (ys1 14 (x := nI 0) rfl rfl rfl).trans ?_
  refine (ys5 16 (L2 := [(4, .int (nI 0)), (3, .int (nI n)), (2, .int (((V 4 k 0) - 1))), (0, .ref (w + (49 + 3 * k))), (1, .int (x))]) rfl rfl rfl rfl).trans ?_
  exact l_lsh hW hk hn n 0 (by omega)

def vaddL (V : zV) : zV :=
  let V1 := zvu V 0 0 0 ((zmin ((V 0 0 0) + 1) 6))
  let V2 := vclL V1 (zsf ((zmin ((V 0 0 0) + 1) 6) - 1) 6)
  V2

theorem c_addL {d : Nat} {w : Nat} {V : zV} {J : Nat → Nat → Int32} {μ : zM} (hW : zWS μ w) : zden zcds (d + 3) 73 [.ref (w)] (zwi μ (zpc J w V)) = some (0, some (.ref (w + (5 + 3 * (zsf ((zmin ((V 0 0 0) + 1) 6) - 1) 6)))), 0, 0, zwi μ (zpc J w ((vaddL V)))) := by
  refine (zd_in (d := d + 2) (cd := zc73) (nL := 2) (L := [(0, .ref (w))]) rfl (Nat.le_of_ble_eq_true rfl) rfl).trans ?_
  refine (ys4 1 (v := .ref (w)) rfl rfl rfl rfl).trans ?_
  refine (ys4 2 (v := .ref (w)) rfl rfl rfl rfl).trans ?_
  refine (yg 5 rfl (zWS.tag hW (o := 0) (by decide) rfl) (zWS.ni hW (o := 0) (by decide) rfl) (by decide) rfl (zpc_at (o := 0) (q := 0) (i := 0) rfl (by decide))).trans ?_
  refine (ys1 6 (x := 1) rfl rfl rfl).trans ?_
  refine (ys7_0 7 rfl rfl).trans ?_
  refine (ys1 9 (x := 6) rfl rfl rfl).trans ?_
  refine (ys41_2 12 rfl (Nat.le_of_ble_eq_true rfl) rfl).trans ?_
  refine (yq 15 rfl (zWS.tag hW (o := 0) (by decide) rfl) (zWS.k0 hW (o := 0)) (zWS.ni hW (o := 0) (by decide) rfl) (by decide) rfl (zpc_up (o := 0) (q := 0) (i := 0) rfl (by decide))).trans ?_
  generalize hV1 : zvu V 0 0 0 ((zmin ((V 0 0 0) + 1) 6)) = V1
  refine (ys4 16 (v := .ref (w)) rfl rfl rfl rfl).trans ?_
  refine (ys4 17 (v := .ref (w)) rfl rfl rfl rfl).trans ?_
  refine (yg 20 rfl (zWS.tag hW (o := 0) (by decide) rfl) (zWS.ni hW (o := 0) (by decide) rfl) (by decide) rfl (Eq.trans (zpc_at (o := 0) (q := 0) (i := 0) rfl (by decide)) (show (V1 0 0 0) = (zmin ((V 0 0 0) + 1) 6) from (by rw [← hV1]; exact zvu_same _ _ _ _ _)))).trans ?_
  refine (ys1 21 (x := 1) rfl rfl rfl).trans ?_
  refine (ys7_1 22 rfl rfl).trans ?_
  refine (yc2 25 rfl rfl (Nat.le_of_ble_eq_true rfl) (Or.inr (by show ztg (zwi _ _) _ = _; rw [ztg_wi]; exact (zWS.tag hW (o := 0) (by decide) rfl))) rfl rfl (c_at1 hW)).trans ?_
  refine (ys5 26 (L2 := [(1, .ref (w + (5 + 3 * (zsf ((zmin ((V 0 0 0) + 1) 6) - 1) 6)))), (0, .ref (w))]) rfl rfl rfl rfl).trans ?_
  refine (ys4 27 (v := .ref (w + (5 + 3 * (zsf ((zmin ((V 0 0 0) + 1) 6) - 1) 6)))) rfl rfl rfl rfl).trans ?_
  refine (yc1 30 rfl rfl (Nat.le_of_ble_eq_true rfl) (Or.inr (by show ztg (zwi _ _) _ = _; rw [ztg_wi]; exact (zWS.tag hW (o := 5 + 3 * (zsf ((zmin ((V 0 0 0) + 1) 6) - 1) 6)) (zwT_1 _ (zsf_lt (by decide) (by decide))).2.2.2.2 (zwT_1 _ (zsf_lt (by decide) (by decide))).1))) rfl rfl (c_clL hW (zsf_lt (by decide) (by decide)))).trans ?_
  generalize hV2 : vclL V1 (zsf ((zmin ((V 0 0 0) + 1) 6) - 1) 6) = V2
  refine (ys4 31 (v := .ref (w + (5 + 3 * (zsf ((zmin ((V 0 0 0) + 1) 6) - 1) 6)))) rfl rfl rfl rfl).trans ?_
  refine (ys36 rfl rfl).trans ?_
  rw [show vaddL V = V2 from by subst hV2 hV1; unfold vaddL; (try dsimp only); first | done | rfl]; (first | done | rfl)

def vaddP (V : zV) : zV :=
  let V1 := zvu V 0 0 1 ((zmin ((V 0 0 1) + 1) 20))
  let V2 := vclP V1 (zsf ((zmin ((V 0 0 1) + 1) 20) - 1) 20)
  V2

theorem c_addP {d : Nat} {w : Nat} {V : zV} {J : Nat → Nat → Int32} {μ : zM} (hW : zWS μ w) : zden zcds (d + 3) 74 [.ref (w)] (zwi μ (zpc J w V)) = some (0, some (.ref (w + (23 + (zsf ((zmin ((V 0 0 1) + 1) 20) - 1) 20)))), 0, 0, zwi μ (zpc J w ((vaddP V)))) := by
  refine (zd_in (d := d + 2) (cd := zc74) (nL := 2) (L := [(0, .ref (w))]) rfl (Nat.le_of_ble_eq_true rfl) rfl).trans ?_
  refine (ys4 1 (v := .ref (w)) rfl rfl rfl rfl).trans ?_
  refine (ys4 2 (v := .ref (w)) rfl rfl rfl rfl).trans ?_
  refine (yg 5 rfl (zWS.tag hW (o := 0) (by decide) rfl) (zWS.ni hW (o := 0) (by decide) rfl) (by decide) rfl (zpc_at (o := 0) (q := 0) (i := 0) rfl (by decide))).trans ?_
  refine (ys1 6 (x := 1) rfl rfl rfl).trans ?_
  refine (ys7_0 7 rfl rfl).trans ?_
  refine (ys1 9 (x := 20) rfl rfl rfl).trans ?_
  refine (ys41_2 12 rfl (Nat.le_of_ble_eq_true rfl) rfl).trans ?_
  refine (yq 15 rfl (zWS.tag hW (o := 0) (by decide) rfl) (zWS.k0 hW (o := 0)) (zWS.ni hW (o := 0) (by decide) rfl) (by decide) rfl (zpc_up (o := 0) (q := 0) (i := 0) rfl (by decide))).trans ?_
  generalize hV1 : zvu V 0 0 1 ((zmin ((V 0 0 1) + 1) 20)) = V1
  refine (ys4 16 (v := .ref (w)) rfl rfl rfl rfl).trans ?_
  refine (ys4 17 (v := .ref (w)) rfl rfl rfl rfl).trans ?_
  refine (yg 20 rfl (zWS.tag hW (o := 0) (by decide) rfl) (zWS.ni hW (o := 0) (by decide) rfl) (by decide) rfl (Eq.trans (zpc_at (o := 0) (q := 0) (i := 0) rfl (by decide)) (show (V1 0 0 1) = (zmin ((V 0 0 1) + 1) 20) from (by rw [← hV1]; exact zvu_same _ _ _ _ _)))).trans ?_
  refine (ys1 21 (x := 1) rfl rfl rfl).trans ?_
  refine (ys7_1 22 rfl rfl).trans ?_
  refine (yc2 25 rfl rfl (Nat.le_of_ble_eq_true rfl) (Or.inr (by show ztg (zwi _ _) _ = _; rw [ztg_wi]; exact (zWS.tag hW (o := 0) (by decide) rfl))) rfl rfl (c_at2 hW)).trans ?_
  refine (ys5 26 (L2 := [(1, .ref (w + (23 + (zsf ((zmin ((V 0 0 1) + 1) 20) - 1) 20)))), (0, .ref (w))]) rfl rfl rfl rfl).trans ?_
  refine (ys4 27 (v := .ref (w + (23 + (zsf ((zmin ((V 0 0 1) + 1) 20) - 1) 20)))) rfl rfl rfl rfl).trans ?_
  refine (yc1 30 rfl rfl (Nat.le_of_ble_eq_true rfl) (Or.inr (by show ztg (zwi _ _) _ = _; rw [ztg_wi]; exact (zWS.tag hW (o := 23 + (zsf ((zmin ((V 0 0 1) + 1) 20) - 1) 20)) (zwT_2 _ (zsf_lt (by decide) (by decide))).2.2 (zwT_2 _ (zsf_lt (by decide) (by decide))).1))) rfl rfl (c_clP hW (zsf_lt (by decide) (by decide)))).trans ?_
  generalize hV2 : vclP V1 (zsf ((zmin ((V 0 0 1) + 1) 20) - 1) 20) = V2
  refine (ys4 31 (v := .ref (w + (23 + (zsf ((zmin ((V 0 0 1) + 1) 20) - 1) 20)))) rfl rfl rfl rfl).trans ?_
  refine (ys36 rfl rfl).trans ?_
  rw [show vaddP V = V2 from by subst hV2 hV1; unfold vaddP; (try dsimp only); first | done | rfl]; (first | done | rfl)

def vaddH (V : zV) : zV :=
  let V1 := zvu V 0 0 2 ((zmin ((V 0 0 2) + 1) 6))
  let V2 := vclH V1 (zsf ((zmin ((V 0 0 2) + 1) 6) - 1) 6)
  V2

theorem c_addH {d : Nat} {w : Nat} {V : zV} {J : Nat → Nat → Int32} {μ : zM} (hW : zWS μ w) : zden zcds (d + 3) 75 [.ref (w)] (zwi μ (zpc J w V)) = some (0, some (.ref (w + (43 + (zsf ((zmin ((V 0 0 2) + 1) 6) - 1) 6)))), 0, 0, zwi μ (zpc J w ((vaddH V)))) := by
  refine (zd_in (d := d + 2) (cd := zc75) (nL := 2) (L := [(0, .ref (w))]) rfl (Nat.le_of_ble_eq_true rfl) rfl).trans ?_
  refine (ys4 1 (v := .ref (w)) rfl rfl rfl rfl).trans ?_
  refine (ys4 2 (v := .ref (w)) rfl rfl rfl rfl).trans ?_
  refine (yg 5 rfl (zWS.tag hW (o := 0) (by decide) rfl) (zWS.ni hW (o := 0) (by decide) rfl) (by decide) rfl (zpc_at (o := 0) (q := 0) (i := 0) rfl (by decide))).trans ?_
  refine (ys1 6 (x := 1) rfl rfl rfl).trans ?_
  refine (ys7_0 7 rfl rfl).trans ?_
  refine (ys1 9 (x := 6) rfl rfl rfl).trans ?_
  refine (ys41_2 12 rfl (Nat.le_of_ble_eq_true rfl) rfl).trans ?_
  refine (yq 15 rfl (zWS.tag hW (o := 0) (by decide) rfl) (zWS.k0 hW (o := 0)) (zWS.ni hW (o := 0) (by decide) rfl) (by decide) rfl (zpc_up (o := 0) (q := 0) (i := 0) rfl (by decide))).trans ?_
  generalize hV1 : zvu V 0 0 2 ((zmin ((V 0 0 2) + 1) 6)) = V1
  refine (ys4 16 (v := .ref (w)) rfl rfl rfl rfl).trans ?_
  refine (ys4 17 (v := .ref (w)) rfl rfl rfl rfl).trans ?_
  refine (yg 20 rfl (zWS.tag hW (o := 0) (by decide) rfl) (zWS.ni hW (o := 0) (by decide) rfl) (by decide) rfl (Eq.trans (zpc_at (o := 0) (q := 0) (i := 0) rfl (by decide)) (show (V1 0 0 2) = (zmin ((V 0 0 2) + 1) 6) from (by rw [← hV1]; exact zvu_same _ _ _ _ _)))).trans ?_
  refine (ys1 21 (x := 1) rfl rfl rfl).trans ?_
  refine (ys7_1 22 rfl rfl).trans ?_
  refine (yc2 25 rfl rfl (Nat.le_of_ble_eq_true rfl) (Or.inr (by show ztg (zwi _ _) _ = _; rw [ztg_wi]; exact (zWS.tag hW (o := 0) (by decide) rfl))) rfl rfl (c_at3 hW)).trans ?_
  refine (ys5 26 (L2 := [(1, .ref (w + (43 + (zsf ((zmin ((V 0 0 2) + 1) 6) - 1) 6)))), (0, .ref (w))]) rfl rfl rfl rfl).trans ?_
  refine (ys4 27 (v := .ref (w + (43 + (zsf ((zmin ((V 0 0 2) + 1) 6) - 1) 6)))) rfl rfl rfl rfl).trans ?_
  refine (yc1 30 rfl rfl (Nat.le_of_ble_eq_true rfl) (Or.inr (by show ztg (zwi _ _) _ = _; rw [ztg_wi]; exact (zWS.tag hW (o := 43 + (zsf ((zmin ((V 0 0 2) + 1) 6) - 1) 6)) (zwT_3 _ (zsf_lt (by decide) (by decide))).2.2 (zwT_3 _ (zsf_lt (by decide) (by decide))).1))) rfl rfl (c_clH hW (zsf_lt (by decide) (by decide)))).trans ?_
  generalize hV2 : vclH V1 (zsf ((zmin ((V 0 0 2) + 1) 6) - 1) 6) = V2
  refine (ys4 31 (v := .ref (w + (43 + (zsf ((zmin ((V 0 0 2) + 1) 6) - 1) 6)))) rfl rfl rfl rfl).trans ?_
  refine (ys36 rfl rfl).trans ?_
  rw [show vaddH V = V2 from by subst hV2 hV1; unfold vaddH; (try dsimp only); first | done | rfl]; (first | done | rfl)

def vaddK (V : zV) : zV :=
  let V1 := zvu V 0 0 3 ((zmin ((V 0 0 3) + 1) 12))
  let V2 := vclK V1 (zsf ((zmin ((V 0 0 3) + 1) 12) - 1) 12)
  V2

theorem c_addK {d : Nat} {w : Nat} {V : zV} {J : Nat → Nat → Int32} {μ : zM} (hW : zWS μ w) : zden zcds (d + 3) 76 [.ref (w)] (zwi μ (zpc J w V)) = some (0, some (.ref (w + (49 + 3 * (zsf ((zmin ((V 0 0 3) + 1) 12) - 1) 12)))), 0, 0, zwi μ (zpc J w ((vaddK V)))) := by
  refine (zd_in (d := d + 2) (cd := zc76) (nL := 2) (L := [(0, .ref (w))]) rfl (Nat.le_of_ble_eq_true rfl) rfl).trans ?_
  refine (ys4 1 (v := .ref (w)) rfl rfl rfl rfl).trans ?_
  refine (ys4 2 (v := .ref (w)) rfl rfl rfl rfl).trans ?_
  refine (yg 5 rfl (zWS.tag hW (o := 0) (by decide) rfl) (zWS.ni hW (o := 0) (by decide) rfl) (by decide) rfl (zpc_at (o := 0) (q := 0) (i := 0) rfl (by decide))).trans ?_
  refine (ys1 6 (x := 1) rfl rfl rfl).trans ?_
  refine (ys7_0 7 rfl rfl).trans ?_
  refine (ys1 9 (x := 12) rfl rfl rfl).trans ?_
  refine (ys41_2 12 rfl (Nat.le_of_ble_eq_true rfl) rfl).trans ?_
  refine (yq 15 rfl (zWS.tag hW (o := 0) (by decide) rfl) (zWS.k0 hW (o := 0)) (zWS.ni hW (o := 0) (by decide) rfl) (by decide) rfl (zpc_up (o := 0) (q := 0) (i := 0) rfl (by decide))).trans ?_
  generalize hV1 : zvu V 0 0 3 ((zmin ((V 0 0 3) + 1) 12)) = V1
  refine (ys4 16 (v := .ref (w)) rfl rfl rfl rfl).trans ?_
  refine (ys4 17 (v := .ref (w)) rfl rfl rfl rfl).trans ?_
  refine (yg 20 rfl (zWS.tag hW (o := 0) (by decide) rfl) (zWS.ni hW (o := 0) (by decide) rfl) (by decide) rfl (Eq.trans (zpc_at (o := 0) (q := 0) (i := 0) rfl (by decide)) (show (V1 0 0 3) = (zmin ((V 0 0 3) + 1) 12) from (by rw [← hV1]; exact zvu_same _ _ _ _ _)))).trans ?_
  refine (ys1 21 (x := 1) rfl rfl rfl).trans ?_
  refine (ys7_1 22 rfl rfl).trans ?_
  refine (yc2 25 rfl rfl (Nat.le_of_ble_eq_true rfl) (Or.inr (by show ztg (zwi _ _) _ = _; rw [ztg_wi]; exact (zWS.tag hW (o := 0) (by decide) rfl))) rfl rfl (c_at4 hW)).trans ?_
  refine (ys5 26 (L2 := [(1, .ref (w + (49 + 3 * (zsf ((zmin ((V 0 0 3) + 1) 12) - 1) 12)))), (0, .ref (w))]) rfl rfl rfl rfl).trans ?_
  refine (ys4 27 (v := .ref (w + (49 + 3 * (zsf ((zmin ((V 0 0 3) + 1) 12) - 1) 12)))) rfl rfl rfl rfl).trans ?_
  refine (yc1 30 rfl rfl (Nat.le_of_ble_eq_true rfl) (Or.inr (by show ztg (zwi _ _) _ = _; rw [ztg_wi]; exact (zWS.tag hW (o := 49 + 3 * (zsf ((zmin ((V 0 0 3) + 1) 12) - 1) 12)) (zwT_4 _ (zsf_lt (by decide) (by decide))).2.2.2.2 (zwT_4 _ (zsf_lt (by decide) (by decide))).1))) rfl rfl (c_clK hW (zsf_lt (by decide) (by decide)))).trans ?_
  generalize hV2 : vclK V1 (zsf ((zmin ((V 0 0 3) + 1) 12) - 1) 12) = V2
  refine (ys4 31 (v := .ref (w + (49 + 3 * (zsf ((zmin ((V 0 0 3) + 1) 12) - 1) 12)))) rfl rfl rfl rfl).trans ?_
  refine (ys36 rfl rfl).trans ?_
  rw [show vaddK V = V2 from by subst hV2 hV1; unfold vaddK; (try dsimp only); first | done | rfl]; (first | done | rfl)

