/-! A LOFT'S COPY -/
/-- rows: the places i .. of a row copied, as many as told, at most N -/
def vcpR (q k N : Nat) (U : zV) : Nat → Nat → zV → zV
  | 0, _, V => V
  | m + 1, i, V => vcpR q k N U m (i + 1) (zvu V q k i (U q k i))
def vcpL0 (V U : zV) (i : Nat) : zV :=
  let V1 := zvu V 1 i 0 (U 1 i 0)
  let V2 := zvu V1 1 i 1 (U 1 i 1)
  let V3 := zvu V2 1 i 2 (U 1 i 2)
  let V4 := zvu V3 1 i 3 (U 1 i 3)
  zvu V4 1 i 4 (U 1 i 4)
theorem vcpR_ne {q k N : Nat} {U : zV} {q' k' f : Nat} (h : ¬ (q' = q ∧ k' = k)) : ∀ (m i : Nat) (V : zV), vcpR q k N U m i V q' k' f = V q' k' f
  | 0, _, _ => rfl
  | m + 1, i, V => by rw [vcpR, vcpR_ne h m (i + 1), zvu_ne (fun e => h ⟨e.1, e.2.1⟩)]
def vcpL (V U : zV) (i n : Nat) : zV := vcpR 6 i 6 U n 0 (vcpR 5 i 6 U n 0 (vcpL0 V U i))

theorem l_cpl5 {d c sl : Nat} {w u : Nat} {U : zV} {J : Nat → Nat → Int32} {μ : zM} (hW : zWS μ w) (hU : zWS μ u) (hD : u + 85 ≤ w ∨ w + 85 ≤ u) {k n : Nat} (hk : k < 6) (hn : n ≤ 6) : ∀ (m i : Nat) (V : zV), V 1 k 0 = nI n → i + m = n → zden1 d (zden zcds d) zc100 (42, [(2, .int (nI i)), (0, .ref (w + (5 + 3 * k))), (1, .ref (u + (5 + 3 * k)))], [], c, sl, zwi μ (zpc (zpc J u U) w V)) = zden1 d (zden zcds d) zc100 (86, [(2, .int (nI n)), (0, .ref (w + (5 + 3 * k))), (1, .ref (u + (5 + 3 * k)))], [], c, sl, zwi μ (zpc (zpc J u U) w (vcpR 5 k 6 U m i V)))
  | 0, i, V, hV, h => by
    have e : i = n := by omega
    subst e
    refine (ys4 43 (v := .int (nI i)) rfl rfl rfl rfl).trans ?_
    refine (ys4 44 (v := .ref (w + (5 + 3 * k))) rfl rfl rfl rfl).trans ?_
    refine (yg 47 rfl (zWS.tag hW (o := 5 + 3 * k) (zwT_1 _ hk).2.2.2.2 (zwT_1 _ hk).1) (zWS.ni hW (o := 5 + 3 * k) (zwT_1 _ hk).2.2.2.2 (zwT_1 _ hk).2.1) (by decide) rfl (zpc_at (o := 5 + 3 * k) (zpk_1 _ hk) (zwT_1 _ hk).2.2.2.2)).trans ?_
    refine ys18_3 50 rfl rfl (fun h47 => ?_) (fun h47 => absurd (by rw [hV]; exact nI_le (by omega) (by omega)) h47)
    rfl
  | m + 1, i, V, hV, h => by
    rw [vcpR]
    refine (ys4 43 (v := .int (nI i)) rfl rfl rfl rfl).trans ?_
    refine (ys4 44 (v := .ref (w + (5 + 3 * k))) rfl rfl rfl rfl).trans ?_
    refine (yg 47 rfl (zWS.tag hW (o := 5 + 3 * k) (zwT_1 _ hk).2.2.2.2 (zwT_1 _ hk).1) (zWS.ni hW (o := 5 + 3 * k) (zwT_1 _ hk).2.2.2.2 (zwT_1 _ hk).2.1) (by decide) rfl (zpc_at (o := 5 + 3 * k) (zpk_1 _ hk) (zwT_1 _ hk).2.2.2.2)).trans ?_
    refine ys18_3 50 rfl rfl (fun h47 => absurd h47 (by rw [hV]; exact nI_ge (by omega) (by omega))) (fun h47 => ?_)
    refine (ys4 51 (v := .int (nI i)) rfl rfl rfl rfl).trans ?_
    refine (ys4 52 (v := .ref (w + (5 + 3 * k))) rfl rfl rfl rfl).trans ?_
    refine (ygr 55 rfl (zWS.tag hW (o := 5 + 3 * k) (zwT_1 _ hk).2.2.2.2 (zwT_1 _ hk).1) rfl (zWS.gr hW (o := 5 + 3 * k) (k := 0) (zwT_1 _ hk).2.2.2.2 (zwT_1 _ hk).2.2.1)).trans ?_
    refine (yal 56 rfl (zWS.tag hW (o := 6 + 3 * k) (zwT_5 _ hk).2.2 (zwT_5 _ hk).1) (zWS.ni hW (o := 6 + 3 * k) (zwT_5 _ hk).2.2 (zwT_5 _ hk).2.1) rfl).trans ?_
    refine ys18_3 59 rfl rfl (fun h56 => absurd h56 (nI_ge (by omega) (by omega))) (fun h56 => ?_)
    refine (ys4 60 (v := .int (nI i)) rfl rfl rfl rfl).trans ?_
    refine (ys4 61 (v := .ref (u + (5 + 3 * k))) rfl rfl rfl rfl).trans ?_
    refine (ygr 64 rfl (zWS.tag hU (o := 5 + 3 * k) (zwT_1 _ hk).2.2.2.2 (zwT_1 _ hk).1) rfl (zWS.gr hU (o := 5 + 3 * k) (k := 0) (zwT_1 _ hk).2.2.2.2 (zwT_1 _ hk).2.2.1)).trans ?_
    refine (yal 65 rfl (zWS.tag hU (o := 6 + 3 * k) (zwT_5 _ hk).2.2 (zwT_5 _ hk).1) (zWS.ni hU (o := 6 + 3 * k) (zwT_5 _ hk).2.2 (zwT_5 _ hk).2.1) rfl).trans ?_
    refine ys18_3 68 rfl rfl (fun h65 => absurd h65 (nI_ge (by omega) (by omega))) (fun h65 => ?_)
    refine (ys4 69 (v := .ref (w + (5 + 3 * k))) rfl rfl rfl rfl).trans ?_
    refine (ygr 72 rfl (zWS.tag hW (o := 5 + 3 * k) (zwT_1 _ hk).2.2.2.2 (zwT_1 _ hk).1) rfl (zWS.gr hW (o := 5 + 3 * k) (k := 0) (zwT_1 _ hk).2.2.2.2 (zwT_1 _ hk).2.2.1)).trans ?_
    refine (ys4 73 (v := .int (nI i)) rfl rfl rfl rfl).trans ?_
    refine (ys4 74 (v := .ref (u + (5 + 3 * k))) rfl rfl rfl rfl).trans ?_
    refine (ygr 77 rfl (zWS.tag hU (o := 5 + 3 * k) (zwT_1 _ hk).2.2.2.2 (zwT_1 _ hk).1) rfl (zWS.gr hU (o := 5 + 3 * k) (k := 0) (zwT_1 _ hk).2.2.2.2 (zwT_1 _ hk).2.2.1)).trans ?_
    refine (ys4 78 (v := .int (nI i)) rfl rfl rfl rfl).trans ?_
    refine (yl 79 (j := i) rfl (Or.inl (zWS.tag hU (o := 6 + 3 * k) (zwT_5 _ hk).2.2 (zwT_5 _ hk).1)) (zWS.ni hU (o := 6 + 3 * k) (zwT_5 _ hk).2.2 (zwT_5 _ hk).2.1) (by omega) (by decide) rfl (zpc_at2 hD (o := 6 + 3 * k) (zpk_5 _ hk) (zwT_5 _ hk).2.2)).trans ?_
    refine (yw 80 (j := i) rfl (zWS.tag hW (o := 6 + 3 * k) (zwT_5 _ hk).2.2 (zwT_5 _ hk).1) (zWS.k0 hW (o := 6 + 3 * k)) (zWS.ni hW (o := 6 + 3 * k) (zwT_5 _ hk).2.2 (zwT_5 _ hk).2.1) (by omega) (by decide) rfl (zpc_up (o := 6 + 3 * k) (zpk_5 _ hk) (zwT_5 _ hk).2.2)).trans ?_
    generalize hV1 : zvu V 5 k (i) ((U 5 k (i))) = V1
    refine (ys6 83 (y := nI (i + 1)) (L2 := [(2, .int (nI (i + 1))), (0, .ref (w + (5 + 3 * k))), (1, .ref (u + (5 + 3 * k)))]) rfl rfl (nI_1 _) rfl rfl).trans ?_
    refine (ys19 rfl).trans ?_
    subst hV1; exact l_cpl5 hW hU hD hk hn m (i + 1) _ (by rw [zvu_ne (fun e => absurd e.1 (by decide))]; exact hV) (by omega)

theorem l_cpl6 {d c sl : Nat} {w u : Nat} {U : zV} {J : Nat → Nat → Int32} {μ : zM} (hW : zWS μ w) (hU : zWS μ u) (hD : u + 85 ≤ w ∨ w + 85 ≤ u) {k n : Nat} (hk : k < 6) (hn : n ≤ 6) : ∀ (m i : Nat) (V : zV), V 1 k 0 = nI n → i + m = n → zden1 d (zden zcds d) zc100 (88, [(2, .int (nI i)), (0, .ref (w + (5 + 3 * k))), (1, .ref (u + (5 + 3 * k)))], [], c, sl, zwi μ (zpc (zpc J u U) w V)) = zden1 d (zden zcds d) zc100 (132, [(2, .int (nI n)), (0, .ref (w + (5 + 3 * k))), (1, .ref (u + (5 + 3 * k)))], [], c, sl, zwi μ (zpc (zpc J u U) w (vcpR 6 k 6 U m i V)))
  | 0, i, V, hV, h => by
    have e : i = n := by omega
    subst e
    refine (ys4 89 (v := .int (nI i)) rfl rfl rfl rfl).trans ?_
    refine (ys4 90 (v := .ref (w + (5 + 3 * k))) rfl rfl rfl rfl).trans ?_
    refine (yg 93 rfl (zWS.tag hW (o := 5 + 3 * k) (zwT_1 _ hk).2.2.2.2 (zwT_1 _ hk).1) (zWS.ni hW (o := 5 + 3 * k) (zwT_1 _ hk).2.2.2.2 (zwT_1 _ hk).2.1) (by decide) rfl (zpc_at (o := 5 + 3 * k) (zpk_1 _ hk) (zwT_1 _ hk).2.2.2.2)).trans ?_
    refine ys18_3 96 rfl rfl (fun h93 => ?_) (fun h93 => absurd (by rw [hV]; exact nI_le (by omega) (by omega)) h93)
    rfl
  | m + 1, i, V, hV, h => by
    rw [vcpR]
    refine (ys4 89 (v := .int (nI i)) rfl rfl rfl rfl).trans ?_
    refine (ys4 90 (v := .ref (w + (5 + 3 * k))) rfl rfl rfl rfl).trans ?_
    refine (yg 93 rfl (zWS.tag hW (o := 5 + 3 * k) (zwT_1 _ hk).2.2.2.2 (zwT_1 _ hk).1) (zWS.ni hW (o := 5 + 3 * k) (zwT_1 _ hk).2.2.2.2 (zwT_1 _ hk).2.1) (by decide) rfl (zpc_at (o := 5 + 3 * k) (zpk_1 _ hk) (zwT_1 _ hk).2.2.2.2)).trans ?_
    refine ys18_3 96 rfl rfl (fun h93 => absurd h93 (by rw [hV]; exact nI_ge (by omega) (by omega))) (fun h93 => ?_)
    refine (ys4 97 (v := .int (nI i)) rfl rfl rfl rfl).trans ?_
    refine (ys4 98 (v := .ref (w + (5 + 3 * k))) rfl rfl rfl rfl).trans ?_
    refine (ygr 101 rfl (zWS.tag hW (o := 5 + 3 * k) (zwT_1 _ hk).2.2.2.2 (zwT_1 _ hk).1) rfl (zWS.gr hW (o := 5 + 3 * k) (k := 1) (zwT_1 _ hk).2.2.2.2 (zwT_1 _ hk).2.2.2.1)).trans ?_
    refine (yal 102 rfl (zWS.tag hW (o := 7 + 3 * k) (zwT_6 _ hk).2.2 (zwT_6 _ hk).1) (zWS.ni hW (o := 7 + 3 * k) (zwT_6 _ hk).2.2 (zwT_6 _ hk).2.1) rfl).trans ?_
    refine ys18_3 105 rfl rfl (fun h102 => absurd h102 (nI_ge (by omega) (by omega))) (fun h102 => ?_)
    refine (ys4 106 (v := .int (nI i)) rfl rfl rfl rfl).trans ?_
    refine (ys4 107 (v := .ref (u + (5 + 3 * k))) rfl rfl rfl rfl).trans ?_
    refine (ygr 110 rfl (zWS.tag hU (o := 5 + 3 * k) (zwT_1 _ hk).2.2.2.2 (zwT_1 _ hk).1) rfl (zWS.gr hU (o := 5 + 3 * k) (k := 1) (zwT_1 _ hk).2.2.2.2 (zwT_1 _ hk).2.2.2.1)).trans ?_
    refine (yal 111 rfl (zWS.tag hU (o := 7 + 3 * k) (zwT_6 _ hk).2.2 (zwT_6 _ hk).1) (zWS.ni hU (o := 7 + 3 * k) (zwT_6 _ hk).2.2 (zwT_6 _ hk).2.1) rfl).trans ?_
    refine ys18_3 114 rfl rfl (fun h111 => absurd h111 (nI_ge (by omega) (by omega))) (fun h111 => ?_)
    refine (ys4 115 (v := .ref (w + (5 + 3 * k))) rfl rfl rfl rfl).trans ?_
    refine (ygr 118 rfl (zWS.tag hW (o := 5 + 3 * k) (zwT_1 _ hk).2.2.2.2 (zwT_1 _ hk).1) rfl (zWS.gr hW (o := 5 + 3 * k) (k := 1) (zwT_1 _ hk).2.2.2.2 (zwT_1 _ hk).2.2.2.1)).trans ?_
    refine (ys4 119 (v := .int (nI i)) rfl rfl rfl rfl).trans ?_
    refine (ys4 120 (v := .ref (u + (5 + 3 * k))) rfl rfl rfl rfl).trans ?_
    refine (ygr 123 rfl (zWS.tag hU (o := 5 + 3 * k) (zwT_1 _ hk).2.2.2.2 (zwT_1 _ hk).1) rfl (zWS.gr hU (o := 5 + 3 * k) (k := 1) (zwT_1 _ hk).2.2.2.2 (zwT_1 _ hk).2.2.2.1)).trans ?_
    refine (ys4 124 (v := .int (nI i)) rfl rfl rfl rfl).trans ?_
    refine (yl 125 (j := i) rfl (Or.inl (zWS.tag hU (o := 7 + 3 * k) (zwT_6 _ hk).2.2 (zwT_6 _ hk).1)) (zWS.ni hU (o := 7 + 3 * k) (zwT_6 _ hk).2.2 (zwT_6 _ hk).2.1) (by omega) (by decide) rfl (zpc_at2 hD (o := 7 + 3 * k) (zpk_6 _ hk) (zwT_6 _ hk).2.2)).trans ?_
    refine (yw 126 (j := i) rfl (zWS.tag hW (o := 7 + 3 * k) (zwT_6 _ hk).2.2 (zwT_6 _ hk).1) (zWS.k0 hW (o := 7 + 3 * k)) (zWS.ni hW (o := 7 + 3 * k) (zwT_6 _ hk).2.2 (zwT_6 _ hk).2.1) (by omega) (by decide) rfl (zpc_up (o := 7 + 3 * k) (zpk_6 _ hk) (zwT_6 _ hk).2.2)).trans ?_
    generalize hV1 : zvu V 6 k (i) ((U 6 k (i))) = V1
    refine (ys6 129 (y := nI (i + 1)) (L2 := [(2, .int (nI (i + 1))), (0, .ref (w + (5 + 3 * k))), (1, .ref (u + (5 + 3 * k)))]) rfl rfl (nI_1 _) rfl rfl).trans ?_
    refine (ys19 rfl).trans ?_
    subst hV1; exact l_cpl6 hW hU hD hk hn m (i + 1) _ (by rw [zvu_ne (fun e => absurd e.1 (by decide))]; exact hV) (by omega)

theorem c_cpL {d : Nat} {w u : Nat} {V U : zV} {J : Nat → Nat → Int32} {μ : zM} (hW : zWS μ w) (hU : zWS μ u) (hD : u + 85 ≤ w ∨ w + 85 ≤ u) {k n : Nat} (hk : k < 6) (hn : n ≤ 6) (hs : U 1 k 0 = nI n) : zden zcds (d + 1) 100 [.ref (w + (5 + 3 * k)), .ref (u + (5 + 3 * k))] (zwi μ (zpc (zpc J u U) w V)) = some (0, none, 0, 0, zwi μ (zpc (zpc J u U) w (vcpL V U k n))) := by
  refine (zd_in (d := d) (cd := zc100) (nL := 3) (L := [(0, .ref (w + (5 + 3 * k))), (1, .ref (u + (5 + 3 * k)))]) rfl (Nat.le_of_ble_eq_true rfl) rfl).trans ?_
  refine (ys4 1 (v := .ref (w + (5 + 3 * k))) rfl rfl rfl rfl).trans ?_
  refine (ys4 2 (v := .ref (u + (5 + 3 * k))) rfl rfl rfl rfl).trans ?_
  refine (yg 5 rfl (zWS.tag hU (o := 5 + 3 * k) (zwT_1 _ hk).2.2.2.2 (zwT_1 _ hk).1) (zWS.ni hU (o := 5 + 3 * k) (zwT_1 _ hk).2.2.2.2 (zwT_1 _ hk).2.1) (by decide) rfl (zpc_at2 hD (o := 5 + 3 * k) (zpk_1 _ hk) (zwT_1 _ hk).2.2.2.2)).trans ?_
  refine (yq 8 rfl (zWS.tag hW (o := 5 + 3 * k) (zwT_1 _ hk).2.2.2.2 (zwT_1 _ hk).1) (zWS.k0 hW (o := 5 + 3 * k)) (zWS.ni hW (o := 5 + 3 * k) (zwT_1 _ hk).2.2.2.2 (zwT_1 _ hk).2.1) (by decide) rfl (zpc_up (o := 5 + 3 * k) (zpk_1 _ hk) (zwT_1 _ hk).2.2.2.2)).trans ?_
  generalize hV1 : zvu V 1 k 0 ((U 1 k 0)) = V1
  refine (ys4 9 (v := .ref (w + (5 + 3 * k))) rfl rfl rfl rfl).trans ?_
  refine (ys4 10 (v := .ref (u + (5 + 3 * k))) rfl rfl rfl rfl).trans ?_
  refine (yg 13 rfl (zWS.tag hU (o := 5 + 3 * k) (zwT_1 _ hk).2.2.2.2 (zwT_1 _ hk).1) (zWS.ni hU (o := 5 + 3 * k) (zwT_1 _ hk).2.2.2.2 (zwT_1 _ hk).2.1) (by decide) rfl (zpc_at2 hD (o := 5 + 3 * k) (zpk_1 _ hk) (zwT_1 _ hk).2.2.2.2)).trans ?_
  refine (yq 16 rfl (zWS.tag hW (o := 5 + 3 * k) (zwT_1 _ hk).2.2.2.2 (zwT_1 _ hk).1) (zWS.k0 hW (o := 5 + 3 * k)) (zWS.ni hW (o := 5 + 3 * k) (zwT_1 _ hk).2.2.2.2 (zwT_1 _ hk).2.1) (by decide) rfl (zpc_up (o := 5 + 3 * k) (zpk_1 _ hk) (zwT_1 _ hk).2.2.2.2)).trans ?_
  generalize hV2 : zvu V1 1 k 1 ((U 1 k 1)) = V2
  refine (ys4 17 (v := .ref (w + (5 + 3 * k))) rfl rfl rfl rfl).trans ?_
  refine (ys4 18 (v := .ref (u + (5 + 3 * k))) rfl rfl rfl rfl).trans ?_
  refine (yg 21 rfl (zWS.tag hU (o := 5 + 3 * k) (zwT_1 _ hk).2.2.2.2 (zwT_1 _ hk).1) (zWS.ni hU (o := 5 + 3 * k) (zwT_1 _ hk).2.2.2.2 (zwT_1 _ hk).2.1) (by decide) rfl (zpc_at2 hD (o := 5 + 3 * k) (zpk_1 _ hk) (zwT_1 _ hk).2.2.2.2)).trans ?_
  refine (yq 24 rfl (zWS.tag hW (o := 5 + 3 * k) (zwT_1 _ hk).2.2.2.2 (zwT_1 _ hk).1) (zWS.k0 hW (o := 5 + 3 * k)) (zWS.ni hW (o := 5 + 3 * k) (zwT_1 _ hk).2.2.2.2 (zwT_1 _ hk).2.1) (by decide) rfl (zpc_up (o := 5 + 3 * k) (zpk_1 _ hk) (zwT_1 _ hk).2.2.2.2)).trans ?_
  generalize hV3 : zvu V2 1 k 2 ((U 1 k 2)) = V3
  refine (ys4 25 (v := .ref (w + (5 + 3 * k))) rfl rfl rfl rfl).trans ?_
  refine (ys4 26 (v := .ref (u + (5 + 3 * k))) rfl rfl rfl rfl).trans ?_
  refine (yg 29 rfl (zWS.tag hU (o := 5 + 3 * k) (zwT_1 _ hk).2.2.2.2 (zwT_1 _ hk).1) (zWS.ni hU (o := 5 + 3 * k) (zwT_1 _ hk).2.2.2.2 (zwT_1 _ hk).2.1) (by decide) rfl (zpc_at2 hD (o := 5 + 3 * k) (zpk_1 _ hk) (zwT_1 _ hk).2.2.2.2)).trans ?_
  refine (yq 32 rfl (zWS.tag hW (o := 5 + 3 * k) (zwT_1 _ hk).2.2.2.2 (zwT_1 _ hk).1) (zWS.k0 hW (o := 5 + 3 * k)) (zWS.ni hW (o := 5 + 3 * k) (zwT_1 _ hk).2.2.2.2 (zwT_1 _ hk).2.1) (by decide) rfl (zpc_up (o := 5 + 3 * k) (zpk_1 _ hk) (zwT_1 _ hk).2.2.2.2)).trans ?_
  generalize hV4 : zvu V3 1 k 3 ((U 1 k 3)) = V4
  refine (ys4 33 (v := .ref (w + (5 + 3 * k))) rfl rfl rfl rfl).trans ?_
  refine (ys4 34 (v := .ref (u + (5 + 3 * k))) rfl rfl rfl rfl).trans ?_
  refine (yg 37 rfl (zWS.tag hU (o := 5 + 3 * k) (zwT_1 _ hk).2.2.2.2 (zwT_1 _ hk).1) (zWS.ni hU (o := 5 + 3 * k) (zwT_1 _ hk).2.2.2.2 (zwT_1 _ hk).2.1) (by decide) rfl (zpc_at2 hD (o := 5 + 3 * k) (zpk_1 _ hk) (zwT_1 _ hk).2.2.2.2)).trans ?_
  refine (yq 40 rfl (zWS.tag hW (o := 5 + 3 * k) (zwT_1 _ hk).2.2.2.2 (zwT_1 _ hk).1) (zWS.k0 hW (o := 5 + 3 * k)) (zWS.ni hW (o := 5 + 3 * k) (zwT_1 _ hk).2.2.2.2 (zwT_1 _ hk).2.1) (by decide) rfl (zpc_up (o := 5 + 3 * k) (zpk_1 _ hk) (zwT_1 _ hk).2.2.2.2)).trans ?_
  generalize hV5 : zvu V4 1 k 4 ((U 1 k 4)) = V5
  refine (ys1 41 (x := nI 0) rfl rfl rfl).trans ?_
  refine (ys5 42 (L2 := [(2, .int (nI 0)), (0, .ref (w + (5 + 3 * k))), (1, .ref (u + (5 + 3 * k)))]) rfl rfl rfl rfl).trans ?_
  have e0 : V5 1 k 0 = nI n := by subst hV5 hV4 hV3 hV2 hV1; simp [zvu, hs]
  refine (l_cpl5 hW hU hD hk hn n 0 V5 e0 (by omega)).trans ?_
  refine (ys1 87 (x := nI 0) rfl rfl rfl).trans ?_
  refine (ys5 88 (L2 := [(2, .int (nI 0)), (0, .ref (w + (5 + 3 * k))), (1, .ref (u + (5 + 3 * k)))]) rfl rfl rfl rfl).trans ?_
  refine (l_cpl6 hW hU hD hk hn n 0 _ (by rw [vcpR_ne (fun e => absurd e.1 (by decide))]; exact e0) (by omega)).trans ?_
  refine (ys36v rfl rfl).trans ?_
  subst hV5 hV4 hV3 hV2 hV1; rfl
