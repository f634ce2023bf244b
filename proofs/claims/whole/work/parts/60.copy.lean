/-! ONE WORLD'S THINGS COPIED INTO ANOTHER: the first's places are w's, with V; the second's u's, with U. -/
theorem zpc_at2 {J : Nat → Nat → Int32} {w u : Nat} {V U : zV} (hD : u + 85 ≤ w ∨ w + 85 ≤ u) {o q i k : Nat} (hk : zpk o = (q, i)) (ho : o < 85) : zpc (zpc J u U) w V (u + o) k = U q i k := by
  rw [zpc_out (by omega)]
  exact zpc_at hk ho

/-- a copy of the fields -/
def vcpP (V U : zV) (i : Nat) : zV :=
  let V1 := zvu V 2 i 0 (U 2 i 0)
  let V2 := zvu V1 2 i 1 (U 2 i 1)
  let V3 := zvu V2 2 i 2 (U 2 i 2)
  let V4 := zvu V3 2 i 3 (U 2 i 3)
  let V5 := zvu V4 2 i 4 (U 2 i 4)
  let V6 := zvu V5 2 i 5 (U 2 i 5)
  let V7 := zvu V6 2 i 6 (U 2 i 6)
  let V8 := zvu V7 2 i 7 (U 2 i 7)
  let V9 := zvu V8 2 i 8 (U 2 i 8)
  let V10 := zvu V9 2 i 9 (U 2 i 9)
  let V11 := zvu V10 2 i 10 (U 2 i 10)
  zvu V11 2 i 11 (U 2 i 11)

theorem c_cpP {d : Nat} {w u : Nat} {V U : zV} {J : Nat → Nat → Int32} {μ : zM} (hW : zWS μ w) (hU : zWS μ u) (hD : u + 85 ≤ w ∨ w + 85 ≤ u) {i : Nat} (hi : i < 20) : zden zcds (d + 1) 105 [.ref (w + (23 + i)), .ref (u + (23 + i))] (zwi μ (zpc (zpc J u U) w V)) = some (0, none, 0, 0, zwi μ (zpc (zpc J u U) w (vcpP V U i))) := by
  refine (zd_in (d := d + 0) (cd := zc105) (nL := 2) (L := [(0, .ref (w + (23 + i))), (1, .ref (u + (23 + i)))]) rfl (Nat.le_of_ble_eq_true rfl) rfl).trans ?_
  refine (ys4 1 (v := .ref (w + (23 + i))) rfl rfl rfl rfl).trans ?_
  refine (ys4 2 (v := .ref (u + (23 + i))) rfl rfl rfl rfl).trans ?_
  refine (yg 5 rfl (zWS.tag hU (o := 23 + i) (zwT_2 _ hi).2.2 (zwT_2 _ hi).1) (zWS.ni hU (o := 23 + i) (zwT_2 _ hi).2.2 (zwT_2 _ hi).2.1) (by decide) rfl (zpc_at2 hD (o := 23 + i) (zpk_2 _ hi) (zwT_2 _ hi).2.2)).trans ?_
  refine (yq 8 rfl (zWS.tag hW (o := 23 + i) (zwT_2 _ hi).2.2 (zwT_2 _ hi).1) (zWS.k0 hW (o := 23 + i)) (zWS.ni hW (o := 23 + i) (zwT_2 _ hi).2.2 (zwT_2 _ hi).2.1) (by decide) rfl (zpc_up (o := 23 + i) (zpk_2 _ hi) (zwT_2 _ hi).2.2)).trans ?_
  generalize hV1 : zvu V 2 i 0 ((U 2 i 0)) = V1
  refine (ys4 9 (v := .ref (w + (23 + i))) rfl rfl rfl rfl).trans ?_
  refine (ys4 10 (v := .ref (u + (23 + i))) rfl rfl rfl rfl).trans ?_
  refine (yg 13 rfl (zWS.tag hU (o := 23 + i) (zwT_2 _ hi).2.2 (zwT_2 _ hi).1) (zWS.ni hU (o := 23 + i) (zwT_2 _ hi).2.2 (zwT_2 _ hi).2.1) (by decide) rfl (zpc_at2 hD (o := 23 + i) (zpk_2 _ hi) (zwT_2 _ hi).2.2)).trans ?_
  refine (yq 16 rfl (zWS.tag hW (o := 23 + i) (zwT_2 _ hi).2.2 (zwT_2 _ hi).1) (zWS.k0 hW (o := 23 + i)) (zWS.ni hW (o := 23 + i) (zwT_2 _ hi).2.2 (zwT_2 _ hi).2.1) (by decide) rfl (zpc_up (o := 23 + i) (zpk_2 _ hi) (zwT_2 _ hi).2.2)).trans ?_
  generalize hV2 : zvu V1 2 i 1 ((U 2 i 1)) = V2
  refine (ys4 17 (v := .ref (w + (23 + i))) rfl rfl rfl rfl).trans ?_
  refine (ys4 18 (v := .ref (u + (23 + i))) rfl rfl rfl rfl).trans ?_
  refine (yg 21 rfl (zWS.tag hU (o := 23 + i) (zwT_2 _ hi).2.2 (zwT_2 _ hi).1) (zWS.ni hU (o := 23 + i) (zwT_2 _ hi).2.2 (zwT_2 _ hi).2.1) (by decide) rfl (zpc_at2 hD (o := 23 + i) (zpk_2 _ hi) (zwT_2 _ hi).2.2)).trans ?_
  refine (yq 24 rfl (zWS.tag hW (o := 23 + i) (zwT_2 _ hi).2.2 (zwT_2 _ hi).1) (zWS.k0 hW (o := 23 + i)) (zWS.ni hW (o := 23 + i) (zwT_2 _ hi).2.2 (zwT_2 _ hi).2.1) (by decide) rfl (zpc_up (o := 23 + i) (zpk_2 _ hi) (zwT_2 _ hi).2.2)).trans ?_
  generalize hV3 : zvu V2 2 i 2 ((U 2 i 2)) = V3
  refine (ys4 25 (v := .ref (w + (23 + i))) rfl rfl rfl rfl).trans ?_
  refine (ys4 26 (v := .ref (u + (23 + i))) rfl rfl rfl rfl).trans ?_
  refine (yg 29 rfl (zWS.tag hU (o := 23 + i) (zwT_2 _ hi).2.2 (zwT_2 _ hi).1) (zWS.ni hU (o := 23 + i) (zwT_2 _ hi).2.2 (zwT_2 _ hi).2.1) (by decide) rfl (zpc_at2 hD (o := 23 + i) (zpk_2 _ hi) (zwT_2 _ hi).2.2)).trans ?_
  refine (yq 32 rfl (zWS.tag hW (o := 23 + i) (zwT_2 _ hi).2.2 (zwT_2 _ hi).1) (zWS.k0 hW (o := 23 + i)) (zWS.ni hW (o := 23 + i) (zwT_2 _ hi).2.2 (zwT_2 _ hi).2.1) (by decide) rfl (zpc_up (o := 23 + i) (zpk_2 _ hi) (zwT_2 _ hi).2.2)).trans ?_
  generalize hV4 : zvu V3 2 i 3 ((U 2 i 3)) = V4
  refine (ys4 33 (v := .ref (w + (23 + i))) rfl rfl rfl rfl).trans ?_
  refine (ys4 34 (v := .ref (u + (23 + i))) rfl rfl rfl rfl).trans ?_
  refine (yg 37 rfl (zWS.tag hU (o := 23 + i) (zwT_2 _ hi).2.2 (zwT_2 _ hi).1) (zWS.ni hU (o := 23 + i) (zwT_2 _ hi).2.2 (zwT_2 _ hi).2.1) (by decide) rfl (zpc_at2 hD (o := 23 + i) (zpk_2 _ hi) (zwT_2 _ hi).2.2)).trans ?_
  refine (yq 40 rfl (zWS.tag hW (o := 23 + i) (zwT_2 _ hi).2.2 (zwT_2 _ hi).1) (zWS.k0 hW (o := 23 + i)) (zWS.ni hW (o := 23 + i) (zwT_2 _ hi).2.2 (zwT_2 _ hi).2.1) (by decide) rfl (zpc_up (o := 23 + i) (zpk_2 _ hi) (zwT_2 _ hi).2.2)).trans ?_
  generalize hV5 : zvu V4 2 i 4 ((U 2 i 4)) = V5
  refine (ys4 41 (v := .ref (w + (23 + i))) rfl rfl rfl rfl).trans ?_
  refine (ys4 42 (v := .ref (u + (23 + i))) rfl rfl rfl rfl).trans ?_
  refine (yg 45 rfl (zWS.tag hU (o := 23 + i) (zwT_2 _ hi).2.2 (zwT_2 _ hi).1) (zWS.ni hU (o := 23 + i) (zwT_2 _ hi).2.2 (zwT_2 _ hi).2.1) (by decide) rfl (zpc_at2 hD (o := 23 + i) (zpk_2 _ hi) (zwT_2 _ hi).2.2)).trans ?_
  refine (yq 48 rfl (zWS.tag hW (o := 23 + i) (zwT_2 _ hi).2.2 (zwT_2 _ hi).1) (zWS.k0 hW (o := 23 + i)) (zWS.ni hW (o := 23 + i) (zwT_2 _ hi).2.2 (zwT_2 _ hi).2.1) (by decide) rfl (zpc_up (o := 23 + i) (zpk_2 _ hi) (zwT_2 _ hi).2.2)).trans ?_
  generalize hV6 : zvu V5 2 i 5 ((U 2 i 5)) = V6
  refine (ys4 49 (v := .ref (w + (23 + i))) rfl rfl rfl rfl).trans ?_
  refine (ys4 50 (v := .ref (u + (23 + i))) rfl rfl rfl rfl).trans ?_
  refine (yg 53 rfl (zWS.tag hU (o := 23 + i) (zwT_2 _ hi).2.2 (zwT_2 _ hi).1) (zWS.ni hU (o := 23 + i) (zwT_2 _ hi).2.2 (zwT_2 _ hi).2.1) (by decide) rfl (zpc_at2 hD (o := 23 + i) (zpk_2 _ hi) (zwT_2 _ hi).2.2)).trans ?_
  refine (yq 56 rfl (zWS.tag hW (o := 23 + i) (zwT_2 _ hi).2.2 (zwT_2 _ hi).1) (zWS.k0 hW (o := 23 + i)) (zWS.ni hW (o := 23 + i) (zwT_2 _ hi).2.2 (zwT_2 _ hi).2.1) (by decide) rfl (zpc_up (o := 23 + i) (zpk_2 _ hi) (zwT_2 _ hi).2.2)).trans ?_
  generalize hV7 : zvu V6 2 i 6 ((U 2 i 6)) = V7
  refine (ys4 57 (v := .ref (w + (23 + i))) rfl rfl rfl rfl).trans ?_
  refine (ys4 58 (v := .ref (u + (23 + i))) rfl rfl rfl rfl).trans ?_
  refine (yg 61 rfl (zWS.tag hU (o := 23 + i) (zwT_2 _ hi).2.2 (zwT_2 _ hi).1) (zWS.ni hU (o := 23 + i) (zwT_2 _ hi).2.2 (zwT_2 _ hi).2.1) (by decide) rfl (zpc_at2 hD (o := 23 + i) (zpk_2 _ hi) (zwT_2 _ hi).2.2)).trans ?_
  refine (yq 64 rfl (zWS.tag hW (o := 23 + i) (zwT_2 _ hi).2.2 (zwT_2 _ hi).1) (zWS.k0 hW (o := 23 + i)) (zWS.ni hW (o := 23 + i) (zwT_2 _ hi).2.2 (zwT_2 _ hi).2.1) (by decide) rfl (zpc_up (o := 23 + i) (zpk_2 _ hi) (zwT_2 _ hi).2.2)).trans ?_
  generalize hV8 : zvu V7 2 i 7 ((U 2 i 7)) = V8
  refine (ys4 65 (v := .ref (w + (23 + i))) rfl rfl rfl rfl).trans ?_
  refine (ys4 66 (v := .ref (u + (23 + i))) rfl rfl rfl rfl).trans ?_
  refine (yg 69 rfl (zWS.tag hU (o := 23 + i) (zwT_2 _ hi).2.2 (zwT_2 _ hi).1) (zWS.ni hU (o := 23 + i) (zwT_2 _ hi).2.2 (zwT_2 _ hi).2.1) (by decide) rfl (zpc_at2 hD (o := 23 + i) (zpk_2 _ hi) (zwT_2 _ hi).2.2)).trans ?_
  refine (yq 72 rfl (zWS.tag hW (o := 23 + i) (zwT_2 _ hi).2.2 (zwT_2 _ hi).1) (zWS.k0 hW (o := 23 + i)) (zWS.ni hW (o := 23 + i) (zwT_2 _ hi).2.2 (zwT_2 _ hi).2.1) (by decide) rfl (zpc_up (o := 23 + i) (zpk_2 _ hi) (zwT_2 _ hi).2.2)).trans ?_
  generalize hV9 : zvu V8 2 i 8 ((U 2 i 8)) = V9
  refine (ys4 73 (v := .ref (w + (23 + i))) rfl rfl rfl rfl).trans ?_
  refine (ys4 74 (v := .ref (u + (23 + i))) rfl rfl rfl rfl).trans ?_
  refine (yg 77 rfl (zWS.tag hU (o := 23 + i) (zwT_2 _ hi).2.2 (zwT_2 _ hi).1) (zWS.ni hU (o := 23 + i) (zwT_2 _ hi).2.2 (zwT_2 _ hi).2.1) (by decide) rfl (zpc_at2 hD (o := 23 + i) (zpk_2 _ hi) (zwT_2 _ hi).2.2)).trans ?_
  refine (yq 80 rfl (zWS.tag hW (o := 23 + i) (zwT_2 _ hi).2.2 (zwT_2 _ hi).1) (zWS.k0 hW (o := 23 + i)) (zWS.ni hW (o := 23 + i) (zwT_2 _ hi).2.2 (zwT_2 _ hi).2.1) (by decide) rfl (zpc_up (o := 23 + i) (zpk_2 _ hi) (zwT_2 _ hi).2.2)).trans ?_
  generalize hV10 : zvu V9 2 i 9 ((U 2 i 9)) = V10
  refine (ys4 81 (v := .ref (w + (23 + i))) rfl rfl rfl rfl).trans ?_
  refine (ys4 82 (v := .ref (u + (23 + i))) rfl rfl rfl rfl).trans ?_
  refine (yg 85 rfl (zWS.tag hU (o := 23 + i) (zwT_2 _ hi).2.2 (zwT_2 _ hi).1) (zWS.ni hU (o := 23 + i) (zwT_2 _ hi).2.2 (zwT_2 _ hi).2.1) (by decide) rfl (zpc_at2 hD (o := 23 + i) (zpk_2 _ hi) (zwT_2 _ hi).2.2)).trans ?_
  refine (yq 88 rfl (zWS.tag hW (o := 23 + i) (zwT_2 _ hi).2.2 (zwT_2 _ hi).1) (zWS.k0 hW (o := 23 + i)) (zWS.ni hW (o := 23 + i) (zwT_2 _ hi).2.2 (zwT_2 _ hi).2.1) (by decide) rfl (zpc_up (o := 23 + i) (zpk_2 _ hi) (zwT_2 _ hi).2.2)).trans ?_
  generalize hV11 : zvu V10 2 i 10 ((U 2 i 10)) = V11
  refine (ys4 89 (v := .ref (w + (23 + i))) rfl rfl rfl rfl).trans ?_
  refine (ys4 90 (v := .ref (u + (23 + i))) rfl rfl rfl rfl).trans ?_
  refine (yg 93 rfl (zWS.tag hU (o := 23 + i) (zwT_2 _ hi).2.2 (zwT_2 _ hi).1) (zWS.ni hU (o := 23 + i) (zwT_2 _ hi).2.2 (zwT_2 _ hi).2.1) (by decide) rfl (zpc_at2 hD (o := 23 + i) (zpk_2 _ hi) (zwT_2 _ hi).2.2)).trans ?_
  refine (yq 96 rfl (zWS.tag hW (o := 23 + i) (zwT_2 _ hi).2.2 (zwT_2 _ hi).1) (zWS.k0 hW (o := 23 + i)) (zWS.ni hW (o := 23 + i) (zwT_2 _ hi).2.2 (zwT_2 _ hi).2.1) (by decide) rfl (zpc_up (o := 23 + i) (zpk_2 _ hi) (zwT_2 _ hi).2.2)).trans ?_
  generalize hV12 : zvu V11 2 i 11 ((U 2 i 11)) = V12
  refine (ys36v rfl rfl).trans ?_
  subst hV12 hV11 hV10 hV9 hV8 hV7 hV6 hV5 hV4 hV3 hV2 hV1; unfold vcpP; (try dsimp only); (first | done | rfl)

/-- a copy of the fields -/
def vcpH (V U : zV) (i : Nat) : zV :=
  let V1 := zvu V 3 i 0 (U 3 i 0)
  let V2 := zvu V1 3 i 1 (U 3 i 1)
  let V3 := zvu V2 3 i 2 (U 3 i 2)
  let V4 := zvu V3 3 i 3 (U 3 i 3)
  let V5 := zvu V4 3 i 4 (U 3 i 4)
  zvu V5 3 i 5 (U 3 i 5)

theorem c_cpH {d : Nat} {w u : Nat} {V U : zV} {J : Nat → Nat → Int32} {μ : zM} (hW : zWS μ w) (hU : zWS μ u) (hD : u + 85 ≤ w ∨ w + 85 ≤ u) {i : Nat} (hi : i < 6) : zden zcds (d + 1) 110 [.ref (w + (43 + i)), .ref (u + (43 + i))] (zwi μ (zpc (zpc J u U) w V)) = some (0, none, 0, 0, zwi μ (zpc (zpc J u U) w (vcpH V U i))) := by
  refine (zd_in (d := d + 0) (cd := zc110) (nL := 2) (L := [(0, .ref (w + (43 + i))), (1, .ref (u + (43 + i)))]) rfl (Nat.le_of_ble_eq_true rfl) rfl).trans ?_
  refine (ys4 1 (v := .ref (w + (43 + i))) rfl rfl rfl rfl).trans ?_
  refine (ys4 2 (v := .ref (u + (43 + i))) rfl rfl rfl rfl).trans ?_
  refine (yg 5 rfl (zWS.tag hU (o := 43 + i) (zwT_3 _ hi).2.2 (zwT_3 _ hi).1) (zWS.ni hU (o := 43 + i) (zwT_3 _ hi).2.2 (zwT_3 _ hi).2.1) (by decide) rfl (zpc_at2 hD (o := 43 + i) (zpk_3 _ hi) (zwT_3 _ hi).2.2)).trans ?_
  refine (yq 8 rfl (zWS.tag hW (o := 43 + i) (zwT_3 _ hi).2.2 (zwT_3 _ hi).1) (zWS.k0 hW (o := 43 + i)) (zWS.ni hW (o := 43 + i) (zwT_3 _ hi).2.2 (zwT_3 _ hi).2.1) (by decide) rfl (zpc_up (o := 43 + i) (zpk_3 _ hi) (zwT_3 _ hi).2.2)).trans ?_
  generalize hV1 : zvu V 3 i 0 ((U 3 i 0)) = V1
  refine (ys4 9 (v := .ref (w + (43 + i))) rfl rfl rfl rfl).trans ?_
  refine (ys4 10 (v := .ref (u + (43 + i))) rfl rfl rfl rfl).trans ?_
  refine (yg 13 rfl (zWS.tag hU (o := 43 + i) (zwT_3 _ hi).2.2 (zwT_3 _ hi).1) (zWS.ni hU (o := 43 + i) (zwT_3 _ hi).2.2 (zwT_3 _ hi).2.1) (by decide) rfl (zpc_at2 hD (o := 43 + i) (zpk_3 _ hi) (zwT_3 _ hi).2.2)).trans ?_
  refine (yq 16 rfl (zWS.tag hW (o := 43 + i) (zwT_3 _ hi).2.2 (zwT_3 _ hi).1) (zWS.k0 hW (o := 43 + i)) (zWS.ni hW (o := 43 + i) (zwT_3 _ hi).2.2 (zwT_3 _ hi).2.1) (by decide) rfl (zpc_up (o := 43 + i) (zpk_3 _ hi) (zwT_3 _ hi).2.2)).trans ?_
  generalize hV2 : zvu V1 3 i 1 ((U 3 i 1)) = V2
  refine (ys4 17 (v := .ref (w + (43 + i))) rfl rfl rfl rfl).trans ?_
  refine (ys4 18 (v := .ref (u + (43 + i))) rfl rfl rfl rfl).trans ?_
  refine (yg 21 rfl (zWS.tag hU (o := 43 + i) (zwT_3 _ hi).2.2 (zwT_3 _ hi).1) (zWS.ni hU (o := 43 + i) (zwT_3 _ hi).2.2 (zwT_3 _ hi).2.1) (by decide) rfl (zpc_at2 hD (o := 43 + i) (zpk_3 _ hi) (zwT_3 _ hi).2.2)).trans ?_
  refine (yq 24 rfl (zWS.tag hW (o := 43 + i) (zwT_3 _ hi).2.2 (zwT_3 _ hi).1) (zWS.k0 hW (o := 43 + i)) (zWS.ni hW (o := 43 + i) (zwT_3 _ hi).2.2 (zwT_3 _ hi).2.1) (by decide) rfl (zpc_up (o := 43 + i) (zpk_3 _ hi) (zwT_3 _ hi).2.2)).trans ?_
  generalize hV3 : zvu V2 3 i 2 ((U 3 i 2)) = V3
  refine (ys4 25 (v := .ref (w + (43 + i))) rfl rfl rfl rfl).trans ?_
  refine (ys4 26 (v := .ref (u + (43 + i))) rfl rfl rfl rfl).trans ?_
  refine (yg 29 rfl (zWS.tag hU (o := 43 + i) (zwT_3 _ hi).2.2 (zwT_3 _ hi).1) (zWS.ni hU (o := 43 + i) (zwT_3 _ hi).2.2 (zwT_3 _ hi).2.1) (by decide) rfl (zpc_at2 hD (o := 43 + i) (zpk_3 _ hi) (zwT_3 _ hi).2.2)).trans ?_
  refine (yq 32 rfl (zWS.tag hW (o := 43 + i) (zwT_3 _ hi).2.2 (zwT_3 _ hi).1) (zWS.k0 hW (o := 43 + i)) (zWS.ni hW (o := 43 + i) (zwT_3 _ hi).2.2 (zwT_3 _ hi).2.1) (by decide) rfl (zpc_up (o := 43 + i) (zpk_3 _ hi) (zwT_3 _ hi).2.2)).trans ?_
  generalize hV4 : zvu V3 3 i 3 ((U 3 i 3)) = V4
  refine (ys4 33 (v := .ref (w + (43 + i))) rfl rfl rfl rfl).trans ?_
  refine (ys4 34 (v := .ref (u + (43 + i))) rfl rfl rfl rfl).trans ?_
  refine (yg 37 rfl (zWS.tag hU (o := 43 + i) (zwT_3 _ hi).2.2 (zwT_3 _ hi).1) (zWS.ni hU (o := 43 + i) (zwT_3 _ hi).2.2 (zwT_3 _ hi).2.1) (by decide) rfl (zpc_at2 hD (o := 43 + i) (zpk_3 _ hi) (zwT_3 _ hi).2.2)).trans ?_
  refine (yq 40 rfl (zWS.tag hW (o := 43 + i) (zwT_3 _ hi).2.2 (zwT_3 _ hi).1) (zWS.k0 hW (o := 43 + i)) (zWS.ni hW (o := 43 + i) (zwT_3 _ hi).2.2 (zwT_3 _ hi).2.1) (by decide) rfl (zpc_up (o := 43 + i) (zpk_3 _ hi) (zwT_3 _ hi).2.2)).trans ?_
  generalize hV5 : zvu V4 3 i 4 ((U 3 i 4)) = V5
  refine (ys4 41 (v := .ref (w + (43 + i))) rfl rfl rfl rfl).trans ?_
  refine (ys4 42 (v := .ref (u + (43 + i))) rfl rfl rfl rfl).trans ?_
  refine (yg 45 rfl (zWS.tag hU (o := 43 + i) (zwT_3 _ hi).2.2 (zwT_3 _ hi).1) (zWS.ni hU (o := 43 + i) (zwT_3 _ hi).2.2 (zwT_3 _ hi).2.1) (by decide) rfl (zpc_at2 hD (o := 43 + i) (zpk_3 _ hi) (zwT_3 _ hi).2.2)).trans ?_
  refine (yq 48 rfl (zWS.tag hW (o := 43 + i) (zwT_3 _ hi).2.2 (zwT_3 _ hi).1) (zWS.k0 hW (o := 43 + i)) (zWS.ni hW (o := 43 + i) (zwT_3 _ hi).2.2 (zwT_3 _ hi).2.1) (by decide) rfl (zpc_up (o := 43 + i) (zpk_3 _ hi) (zwT_3 _ hi).2.2)).trans ?_
  generalize hV6 : zvu V5 3 i 5 ((U 3 i 5)) = V6
  refine (ys36v rfl rfl).trans ?_
  subst hV6 hV5 hV4 hV3 hV2 hV1; unfold vcpH; (try dsimp only); (first | done | rfl)

