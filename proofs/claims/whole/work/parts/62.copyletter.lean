/-! A LETTER'S COPY -/
theorem l_cps {d c sl : Nat} {w u : Nat} {U : zV} {J : Nat → Nat → Int32} {μ : zM} (hW : zWS μ w) (hU : zWS μ u) (hD : u + 85 ≤ w ∨ w + 85 ≤ u) {k e : Nat} {a b : Int32} (hk : k < 12) (he : e ≤ 120) : ∀ (m i : Nat) (V : zV), i + m = e → zden1 d (zden zcds d) zc115 (17, [(5, .int (nI i)), (4, .int (nI e)), (3, .int (a)), (0, .ref (w + (49 + 3 * k))), (1, .int (b)), (2, .ref (u + (49 + 3 * k)))], [], c, sl, zwi μ (zpc (zpc J u U) w V)) = some (0, none, c, sl, zwi μ (zpc (zpc J u U) w (vcpR 8 k 120 U m i V)))
  | 0, i, V, h => by
    refine (ys4 19 (v := .int (nI i)) rfl rfl rfl rfl).trans ?_
    refine (ys4 21 (v := .int (nI e)) rfl rfl rfl rfl).trans ?_
    refine ys18_3 24 rfl rfl (fun h21 => ?_) (fun h21 => absurd (nI_le (by omega) (by omega)) h21)
    refine (ys36v rfl rfl).trans ?_
    rfl
  | m + 1, i, V, h => by
    rw [vcpR]
    refine (ys4 19 (v := .int (nI i)) rfl rfl rfl rfl).trans ?_
    refine (ys4 21 (v := .int (nI e)) rfl rfl rfl rfl).trans ?_
    refine ys18_3 24 rfl rfl (fun h21 => absurd h21 (nI_ge (by omega) (by omega))) (fun h21 => ?_)
    refine (ys4 26 (v := .int (nI i)) rfl rfl rfl rfl).trans ?_
    refine (ys4 27 (v := .ref (w + (49 + 3 * k))) rfl rfl rfl rfl).trans ?_
    refine (ygr 30 rfl (zWS.tag hW (o := 49 + 3 * k) (zwT_4 _ hk).2.2.2.2 (zwT_4 _ hk).1) rfl (zWS.gr hW (o := 49 + 3 * k) (k := 1) (zwT_4 _ hk).2.2.2.2 (zwT_4 _ hk).2.2.2.1)).trans ?_
    refine (yal 31 rfl (zWS.tag hW (o := 51 + 3 * k) (zwT_8 _ hk).2.2 (zwT_8 _ hk).1) (zWS.ni hW (o := 51 + 3 * k) (zwT_8 _ hk).2.2 (zwT_8 _ hk).2.1) rfl).trans ?_
    refine ys18_3 34 rfl rfl (fun h31 => absurd h31 (nI_ge (by omega) (by omega))) (fun h31 => ?_)
    refine (ys4 36 (v := .int (nI i)) rfl rfl rfl rfl).trans ?_
    refine (ys4 37 (v := .ref (u + (49 + 3 * k))) rfl rfl rfl rfl).trans ?_
    refine (ygr 40 rfl (zWS.tag hU (o := 49 + 3 * k) (zwT_4 _ hk).2.2.2.2 (zwT_4 _ hk).1) rfl (zWS.gr hU (o := 49 + 3 * k) (k := 1) (zwT_4 _ hk).2.2.2.2 (zwT_4 _ hk).2.2.2.1)).trans ?_
    refine (yal 41 rfl (zWS.tag hU (o := 51 + 3 * k) (zwT_8 _ hk).2.2 (zwT_8 _ hk).1) (zWS.ni hU (o := 51 + 3 * k) (zwT_8 _ hk).2.2 (zwT_8 _ hk).2.1) rfl).trans ?_
    refine ys18_3 44 rfl rfl (fun h41 => absurd h41 (nI_ge (by omega) (by omega))) (fun h41 => ?_)
    refine (ys4 45 (v := .ref (w + (49 + 3 * k))) rfl rfl rfl rfl).trans ?_
    refine (ygr 48 rfl (zWS.tag hW (o := 49 + 3 * k) (zwT_4 _ hk).2.2.2.2 (zwT_4 _ hk).1) rfl (zWS.gr hW (o := 49 + 3 * k) (k := 1) (zwT_4 _ hk).2.2.2.2 (zwT_4 _ hk).2.2.2.1)).trans ?_
    refine (ys4 50 (v := .int (nI i)) rfl rfl rfl rfl).trans ?_
    refine (ys4 51 (v := .ref (u + (49 + 3 * k))) rfl rfl rfl rfl).trans ?_
    refine (ygr 54 rfl (zWS.tag hU (o := 49 + 3 * k) (zwT_4 _ hk).2.2.2.2 (zwT_4 _ hk).1) rfl (zWS.gr hU (o := 49 + 3 * k) (k := 1) (zwT_4 _ hk).2.2.2.2 (zwT_4 _ hk).2.2.2.1)).trans ?_
    refine (ys4 56 (v := .int (nI i)) rfl rfl rfl rfl).trans ?_
    refine (yl 57 (j := i) rfl (Or.inl (zWS.tag hU (o := 51 + 3 * k) (zwT_8 _ hk).2.2 (zwT_8 _ hk).1)) (zWS.ni hU (o := 51 + 3 * k) (zwT_8 _ hk).2.2 (zwT_8 _ hk).2.1) (by omega) (by decide) rfl (zpc_at2 hD (o := 51 + 3 * k) (zpk_8 _ hk) (zwT_8 _ hk).2.2)).trans ?_
    refine (yw 58 (j := i) rfl (zWS.tag hW (o := 51 + 3 * k) (zwT_8 _ hk).2.2 (zwT_8 _ hk).1) (zWS.k0 hW (o := 51 + 3 * k)) (zWS.ni hW (o := 51 + 3 * k) (zwT_8 _ hk).2.2 (zwT_8 _ hk).2.1) (by omega) (by decide) rfl (zpc_up (o := 51 + 3 * k) (zpk_8 _ hk) (zwT_8 _ hk).2.2)).trans ?_
    generalize hV1 : zvu V 8 k (i) ((U 8 k (i))) = V1
    refine (ys6 61 (y := nI (i + 1)) (L2 := [(5, .int (nI (i + 1))), (4, .int (nI e)), (3, .int (a)), (0, .ref (w + (49 + 3 * k))), (1, .int (b)), (2, .ref (u + (49 + 3 * k)))]) rfl rfl (nI_1 _) rfl rfl).trans ?_
    refine (ys19 rfl).trans ?_
    subst hV1; exact l_cps hW hU hD hk he m (i + 1) _ (by omega)

theorem c_sizeN2 {d : Nat} {w u : Nat} {V U : zV} {J : Nat → Nat → Int32} {μ : zM} (hW : zWS μ w) (hU : zWS μ u) (hD : u + 85 ≤ w ∨ w + 85 ≤ u) {k : Nat} (hk : k < 12) {x : Int32} {n : Nat} (hs : vsize V k x = nI n) : zden zcds (d + 1) 120 [.ref (w + (49 + 3 * k)), .int x] (zwi μ (zpc (zpc J u U) w V)) = some (0, some (.int (nI n)), 0, 0, zwi μ (zpc (zpc J u U) w V)) := by
  rw [← hs]
  exact c_size hW hk

theorem c_cpS {d : Nat} {w u : Nat} {V U : zV} {J : Nat → Nat → Int32} {μ : zM} (hW : zWS μ w) (hU : zWS μ u) (hD : u + 85 ≤ w ∨ w + 85 ≤ u) {k j n : Nat} (hk : k < 12) (hj : j < 6) (hn : n ≤ 20) (hs : vsize V k (nI j) = nI n) : zden zcds (d + 2) 115 [.ref (w + (49 + 3 * k)), .int (nI j), .ref (u + (49 + 3 * k))] (zwi μ (zpc (zpc J u U) w V)) = some (0, none, 0, 0, zwi μ (zpc (zpc J u U) w (vcpR 8 k 120 U n (j * 20) V))) := by
  refine (zd_in (d := d + 1) (cd := zc115) (nL := 6) (L := [(0, .ref (w + (49 + 3 * k))), (1, .int (nI j)), (2, .ref (u + (49 + 3 * k)))]) rfl (Nat.le_of_ble_eq_true rfl) rfl).trans ?_
  refine (ys4 1 (v := .int (nI j)) rfl rfl rfl rfl).trans ?_
  refine (ys1 3 (x := nI 20) rfl rfl rfl).trans ?_
  refine (ys7_2 4 rfl rfl).trans ?_
  rw [show (nI j * nI 20) = nI (j * 20) from pk_mul _ _]
  refine (ys5 5 (L2 := [(3, .int (nI (j * 20))), (0, .ref (w + (49 + 3 * k))), (1, .int (nI j)), (2, .ref (u + (49 + 3 * k)))]) rfl rfl rfl rfl).trans ?_
  refine (ys4 6 (v := .int (nI (j * 20))) rfl rfl rfl rfl).trans ?_
  refine (ys4 7 (v := .ref (w + (49 + 3 * k))) rfl rfl rfl rfl).trans ?_
  refine (ys4 8 (v := .int (nI j)) rfl rfl rfl rfl).trans ?_
  refine (yc2 11 rfl rfl (Nat.le_of_ble_eq_true rfl) (Or.inr (by show ztg (zwi _ _) _ = _; rw [ztg_wi]; exact (zWS.tag hW (o := 49 + 3 * k) (zwT_4 _ hk).2.2.2.2 (zwT_4 _ hk).1))) rfl rfl (c_sizeN2 hW hU hD hk hs)).trans ?_
  refine (ys7_0 12 rfl rfl).trans ?_
  rw [show (nI (j * 20) + nI n) = nI (j * 20 + n) from nI_add _ _]
  refine (ys5 14 (L2 := [(4, .int (nI (j * 20 + n))), (3, .int (nI (j * 20))), (0, .ref (w + (49 + 3 * k))), (1, .int (nI j)), (2, .ref (u + (49 + 3 * k)))]) rfl rfl rfl rfl).trans ?_
  refine (ys4 15 (v := .int (nI (j * 20))) rfl rfl rfl rfl).trans ?_
  refine (ys5 17 (L2 := [(5, .int (nI (j * 20))), (4, .int (nI (j * 20 + n))), (3, .int (nI (j * 20))), (0, .ref (w + (49 + 3 * k))), (1, .int (nI j)), (2, .ref (u + (49 + 3 * k)))]) rfl rfl rfl rfl).trans ?_
  exact l_cps hW hU hD hk (by omega) n (j * 20) V (by omega)

def vcpK0 (V U : zV) (i : Nat) : zV :=
  let V1 := zvu V 4 i 0 (U 4 i 0)
  let V2 := zvu V1 4 i 1 (U 4 i 1)
  let V3 := zvu V2 4 i 2 (U 4 i 2)
  let V4 := zvu V3 4 i 3 (U 4 i 3)
  let V5 := zvu V4 4 i 4 (U 4 i 4)
  zvu V5 4 i 5 (U 4 i 5)

/-- the stages: of each its number of carriers, and these -/
def vcpT (k : Nat) (U : zV) : Nat → Nat → zV → zV
  | 0, _, V => V
  | m + 1, j, V => vcpT k U m (j + 1) (vcpR 8 k 120 U (U 7 k j).toNatClampNeg (j * 20) (zvu V 7 k j (U 7 k j)))
def vcpK (V U : zV) (k n : Nat) : zV := vcpT k U n 0 (vcpK0 V U k)
theorem vsize_nI {V : zV} {k j n : Nat} (hj : j < 6) (h : V 7 k j = nI n) : vsize V k (nI j) = nI n := by
  unfold vsize
  rw [if_neg (nI_pos (by omega)), if_neg (nI_ge hj (by decide)), zsf_nI hj (by decide), h]

theorem l_cpT {d c sl : Nat} {w u : Nat} {U : zV} {J : Nat → Nat → Int32} {μ : zM} (hW : zWS μ w) (hU : zWS μ u) (hD : u + 85 ≤ w ∨ w + 85 ≤ u) {k n : Nat} (hk : k < 12) (hn : n ≤ 6) (hz : ∀ j, j < n → ∃ z, z ≤ 20 ∧ U 7 k j = nI z) : ∀ (m i : Nat) (V : zV), V 4 k 0 = nI n → i + m = n → zden1 (d + 2) (zden zcds (d + 2)) zc114 (50, [(2, .int (nI i)), (0, .ref (w + (49 + 3 * k))), (1, .ref (u + (49 + 3 * k)))], [], c, sl, zwi μ (zpc (zpc J u U) w V)) = some (0, none, c, sl, zwi μ (zpc (zpc J u U) w (vcpT k U m i V)))
  | 0, i, V, hV, h => by
    refine (ys4 51 (v := .int (nI i)) rfl rfl rfl rfl).trans ?_
    refine (ys4 52 (v := .ref (w + (49 + 3 * k))) rfl rfl rfl rfl).trans ?_
    refine (yg 55 rfl (zWS.tag hW (o := 49 + 3 * k) (zwT_4 _ hk).2.2.2.2 (zwT_4 _ hk).1) (zWS.ni hW (o := 49 + 3 * k) (zwT_4 _ hk).2.2.2.2 (zwT_4 _ hk).2.1) (by decide) rfl (zpc_at (o := 49 + 3 * k) (zpk_4 _ hk) (zwT_4 _ hk).2.2.2.2)).trans ?_
    refine ys18_3 58 rfl rfl (fun h55 => ?_) (fun h55 => absurd (by rw [hV]; exact nI_le (by omega) (by omega)) h55)
    refine (ys36v rfl rfl).trans ?_
    rfl
  | m + 1, i, V, hV, h => by
    obtain ⟨z, hz1, hz2⟩ := hz i (by omega)
    rw [vcpT, hz2, nI_clamp (show z < 2 ^ 31 by omega), ← hz2]
    refine (ys4 51 (v := .int (nI i)) rfl rfl rfl rfl).trans ?_
    refine (ys4 52 (v := .ref (w + (49 + 3 * k))) rfl rfl rfl rfl).trans ?_
    refine (yg 55 rfl (zWS.tag hW (o := 49 + 3 * k) (zwT_4 _ hk).2.2.2.2 (zwT_4 _ hk).1) (zWS.ni hW (o := 49 + 3 * k) (zwT_4 _ hk).2.2.2.2 (zwT_4 _ hk).2.1) (by decide) rfl (zpc_at (o := 49 + 3 * k) (zpk_4 _ hk) (zwT_4 _ hk).2.2.2.2)).trans ?_
    refine ys18_3 58 rfl rfl (fun h55 => absurd h55 (by rw [hV]; exact nI_ge (by omega) (by omega))) (fun h55 => ?_)
    refine (ys4 59 (v := .int (nI i)) rfl rfl rfl rfl).trans ?_
    refine (ys4 60 (v := .ref (w + (49 + 3 * k))) rfl rfl rfl rfl).trans ?_
    refine (ygr 63 rfl (zWS.tag hW (o := 49 + 3 * k) (zwT_4 _ hk).2.2.2.2 (zwT_4 _ hk).1) rfl (zWS.gr hW (o := 49 + 3 * k) (k := 0) (zwT_4 _ hk).2.2.2.2 (zwT_4 _ hk).2.2.1)).trans ?_
    refine (yal 64 rfl (zWS.tag hW (o := 50 + 3 * k) (zwT_7 _ hk).2.2 (zwT_7 _ hk).1) (zWS.ni hW (o := 50 + 3 * k) (zwT_7 _ hk).2.2 (zwT_7 _ hk).2.1) rfl).trans ?_
    refine ys18_3 67 rfl rfl (fun h64 => absurd h64 (nI_ge (by omega) (by omega))) (fun h64 => ?_)
    refine (ys4 68 (v := .int (nI i)) rfl rfl rfl rfl).trans ?_
    refine (ys4 69 (v := .ref (u + (49 + 3 * k))) rfl rfl rfl rfl).trans ?_
    refine (ygr 72 rfl (zWS.tag hU (o := 49 + 3 * k) (zwT_4 _ hk).2.2.2.2 (zwT_4 _ hk).1) rfl (zWS.gr hU (o := 49 + 3 * k) (k := 0) (zwT_4 _ hk).2.2.2.2 (zwT_4 _ hk).2.2.1)).trans ?_
    refine (yal 73 rfl (zWS.tag hU (o := 50 + 3 * k) (zwT_7 _ hk).2.2 (zwT_7 _ hk).1) (zWS.ni hU (o := 50 + 3 * k) (zwT_7 _ hk).2.2 (zwT_7 _ hk).2.1) rfl).trans ?_
    refine ys18_3 76 rfl rfl (fun h73 => absurd h73 (nI_ge (by omega) (by omega))) (fun h73 => ?_)
    refine (ys4 77 (v := .ref (w + (49 + 3 * k))) rfl rfl rfl rfl).trans ?_
    refine (ygr 80 rfl (zWS.tag hW (o := 49 + 3 * k) (zwT_4 _ hk).2.2.2.2 (zwT_4 _ hk).1) rfl (zWS.gr hW (o := 49 + 3 * k) (k := 0) (zwT_4 _ hk).2.2.2.2 (zwT_4 _ hk).2.2.1)).trans ?_
    refine (ys4 81 (v := .int (nI i)) rfl rfl rfl rfl).trans ?_
    refine (ys4 82 (v := .ref (u + (49 + 3 * k))) rfl rfl rfl rfl).trans ?_
    refine (ygr 85 rfl (zWS.tag hU (o := 49 + 3 * k) (zwT_4 _ hk).2.2.2.2 (zwT_4 _ hk).1) rfl (zWS.gr hU (o := 49 + 3 * k) (k := 0) (zwT_4 _ hk).2.2.2.2 (zwT_4 _ hk).2.2.1)).trans ?_
    refine (ys4 86 (v := .int (nI i)) rfl rfl rfl rfl).trans ?_
    refine (yl 87 (j := i) rfl (Or.inl (zWS.tag hU (o := 50 + 3 * k) (zwT_7 _ hk).2.2 (zwT_7 _ hk).1)) (zWS.ni hU (o := 50 + 3 * k) (zwT_7 _ hk).2.2 (zwT_7 _ hk).2.1) (by omega) (by decide) rfl (zpc_at2 hD (o := 50 + 3 * k) (zpk_7 _ hk) (zwT_7 _ hk).2.2)).trans ?_
    refine (yw 88 (j := i) rfl (zWS.tag hW (o := 50 + 3 * k) (zwT_7 _ hk).2.2 (zwT_7 _ hk).1) (zWS.k0 hW (o := 50 + 3 * k)) (zWS.ni hW (o := 50 + 3 * k) (zwT_7 _ hk).2.2 (zwT_7 _ hk).2.1) (by omega) (by decide) rfl (zpc_up (o := 50 + 3 * k) (zpk_7 _ hk) (zwT_7 _ hk).2.2)).trans ?_
    generalize hV1 : zvu V 7 k (i) ((U 7 k (i))) = V1
    refine (ys4 89 (v := .ref (w + (49 + 3 * k))) rfl rfl rfl rfl).trans ?_
    refine (ys4 90 (v := .int (nI i)) rfl rfl rfl rfl).trans ?_
    refine (ys4 91 (v := .ref (u + (49 + 3 * k))) rfl rfl rfl rfl).trans ?_
    refine (yc3 94 rfl rfl (Nat.le_of_ble_eq_true rfl) (Or.inr (by show ztg (zwi _ _) _ = _; rw [ztg_wi]; exact (zWS.tag hW (o := 49 + 3 * k) (zwT_4 _ hk).2.2.2.2 (zwT_4 _ hk).1))) rfl rfl (c_cpS hW hU hD hk (by omega) hz1 (vsize_nI (by omega) (by rw [← hV1, zvu_same, hz2])))).trans ?_
    generalize hV2 : vcpR 8 k 120 U z (i * 20) V1 = V2
    refine (ys6 97 (y := nI (i + 1)) (L2 := [(2, .int (nI (i + 1))), (0, .ref (w + (49 + 3 * k))), (1, .ref (u + (49 + 3 * k)))]) rfl rfl (nI_1 _) rfl rfl).trans ?_
    refine (ys19 rfl).trans ?_
    subst hV2 hV1; exact l_cpT hW hU hD hk hn hz m (i + 1) _ (by rw [vcpR_ne (fun e => absurd e.1 (by decide)), zvu_ne (fun e => absurd e.1 (by decide))]; exact hV) (by omega)

theorem c_cpK {d : Nat} {w u : Nat} {V U : zV} {J : Nat → Nat → Int32} {μ : zM} (hW : zWS μ w) (hU : zWS μ u) (hD : u + 85 ≤ w ∨ w + 85 ≤ u) {k n : Nat} (hk : k < 12) (hn : n ≤ 6) (hs : U 4 k 0 = nI n) (hz : ∀ j, j < n → ∃ z, z ≤ 20 ∧ U 7 k j = nI z) : zden zcds (d + 3) 114 [.ref (w + (49 + 3 * k)), .ref (u + (49 + 3 * k))] (zwi μ (zpc (zpc J u U) w V)) = some (0, none, 0, 0, zwi μ (zpc (zpc J u U) w (vcpK V U k n))) := by
  refine (zd_in (d := d + 2) (cd := zc114) (nL := 3) (L := [(0, .ref (w + (49 + 3 * k))), (1, .ref (u + (49 + 3 * k)))]) rfl (Nat.le_of_ble_eq_true rfl) rfl).trans ?_
  refine (ys4 1 (v := .ref (w + (49 + 3 * k))) rfl rfl rfl rfl).trans ?_
  refine (ys4 2 (v := .ref (u + (49 + 3 * k))) rfl rfl rfl rfl).trans ?_
  refine (yg 5 rfl (zWS.tag hU (o := 49 + 3 * k) (zwT_4 _ hk).2.2.2.2 (zwT_4 _ hk).1) (zWS.ni hU (o := 49 + 3 * k) (zwT_4 _ hk).2.2.2.2 (zwT_4 _ hk).2.1) (by decide) rfl (zpc_at2 hD (o := 49 + 3 * k) (zpk_4 _ hk) (zwT_4 _ hk).2.2.2.2)).trans ?_
  refine (yq 8 rfl (zWS.tag hW (o := 49 + 3 * k) (zwT_4 _ hk).2.2.2.2 (zwT_4 _ hk).1) (zWS.k0 hW (o := 49 + 3 * k)) (zWS.ni hW (o := 49 + 3 * k) (zwT_4 _ hk).2.2.2.2 (zwT_4 _ hk).2.1) (by decide) rfl (zpc_up (o := 49 + 3 * k) (zpk_4 _ hk) (zwT_4 _ hk).2.2.2.2)).trans ?_
  generalize hV1 : zvu V 4 k 0 ((U 4 k 0)) = V1
  refine (ys4 9 (v := .ref (w + (49 + 3 * k))) rfl rfl rfl rfl).trans ?_
  refine (ys4 10 (v := .ref (u + (49 + 3 * k))) rfl rfl rfl rfl).trans ?_
  refine (yg 13 rfl (zWS.tag hU (o := 49 + 3 * k) (zwT_4 _ hk).2.2.2.2 (zwT_4 _ hk).1) (zWS.ni hU (o := 49 + 3 * k) (zwT_4 _ hk).2.2.2.2 (zwT_4 _ hk).2.1) (by decide) rfl (zpc_at2 hD (o := 49 + 3 * k) (zpk_4 _ hk) (zwT_4 _ hk).2.2.2.2)).trans ?_
  refine (yq 16 rfl (zWS.tag hW (o := 49 + 3 * k) (zwT_4 _ hk).2.2.2.2 (zwT_4 _ hk).1) (zWS.k0 hW (o := 49 + 3 * k)) (zWS.ni hW (o := 49 + 3 * k) (zwT_4 _ hk).2.2.2.2 (zwT_4 _ hk).2.1) (by decide) rfl (zpc_up (o := 49 + 3 * k) (zpk_4 _ hk) (zwT_4 _ hk).2.2.2.2)).trans ?_
  generalize hV2 : zvu V1 4 k 1 ((U 4 k 1)) = V2
  refine (ys4 17 (v := .ref (w + (49 + 3 * k))) rfl rfl rfl rfl).trans ?_
  refine (ys4 18 (v := .ref (u + (49 + 3 * k))) rfl rfl rfl rfl).trans ?_
  refine (yg 21 rfl (zWS.tag hU (o := 49 + 3 * k) (zwT_4 _ hk).2.2.2.2 (zwT_4 _ hk).1) (zWS.ni hU (o := 49 + 3 * k) (zwT_4 _ hk).2.2.2.2 (zwT_4 _ hk).2.1) (by decide) rfl (zpc_at2 hD (o := 49 + 3 * k) (zpk_4 _ hk) (zwT_4 _ hk).2.2.2.2)).trans ?_
  refine (yq 24 rfl (zWS.tag hW (o := 49 + 3 * k) (zwT_4 _ hk).2.2.2.2 (zwT_4 _ hk).1) (zWS.k0 hW (o := 49 + 3 * k)) (zWS.ni hW (o := 49 + 3 * k) (zwT_4 _ hk).2.2.2.2 (zwT_4 _ hk).2.1) (by decide) rfl (zpc_up (o := 49 + 3 * k) (zpk_4 _ hk) (zwT_4 _ hk).2.2.2.2)).trans ?_
  generalize hV3 : zvu V2 4 k 2 ((U 4 k 2)) = V3
  refine (ys4 25 (v := .ref (w + (49 + 3 * k))) rfl rfl rfl rfl).trans ?_
  refine (ys4 26 (v := .ref (u + (49 + 3 * k))) rfl rfl rfl rfl).trans ?_
  refine (yg 29 rfl (zWS.tag hU (o := 49 + 3 * k) (zwT_4 _ hk).2.2.2.2 (zwT_4 _ hk).1) (zWS.ni hU (o := 49 + 3 * k) (zwT_4 _ hk).2.2.2.2 (zwT_4 _ hk).2.1) (by decide) rfl (zpc_at2 hD (o := 49 + 3 * k) (zpk_4 _ hk) (zwT_4 _ hk).2.2.2.2)).trans ?_
  refine (yq 32 rfl (zWS.tag hW (o := 49 + 3 * k) (zwT_4 _ hk).2.2.2.2 (zwT_4 _ hk).1) (zWS.k0 hW (o := 49 + 3 * k)) (zWS.ni hW (o := 49 + 3 * k) (zwT_4 _ hk).2.2.2.2 (zwT_4 _ hk).2.1) (by decide) rfl (zpc_up (o := 49 + 3 * k) (zpk_4 _ hk) (zwT_4 _ hk).2.2.2.2)).trans ?_
  generalize hV4 : zvu V3 4 k 3 ((U 4 k 3)) = V4
  refine (ys4 33 (v := .ref (w + (49 + 3 * k))) rfl rfl rfl rfl).trans ?_
  refine (ys4 34 (v := .ref (u + (49 + 3 * k))) rfl rfl rfl rfl).trans ?_
  refine (yg 37 rfl (zWS.tag hU (o := 49 + 3 * k) (zwT_4 _ hk).2.2.2.2 (zwT_4 _ hk).1) (zWS.ni hU (o := 49 + 3 * k) (zwT_4 _ hk).2.2.2.2 (zwT_4 _ hk).2.1) (by decide) rfl (zpc_at2 hD (o := 49 + 3 * k) (zpk_4 _ hk) (zwT_4 _ hk).2.2.2.2)).trans ?_
  refine (yq 40 rfl (zWS.tag hW (o := 49 + 3 * k) (zwT_4 _ hk).2.2.2.2 (zwT_4 _ hk).1) (zWS.k0 hW (o := 49 + 3 * k)) (zWS.ni hW (o := 49 + 3 * k) (zwT_4 _ hk).2.2.2.2 (zwT_4 _ hk).2.1) (by decide) rfl (zpc_up (o := 49 + 3 * k) (zpk_4 _ hk) (zwT_4 _ hk).2.2.2.2)).trans ?_
  generalize hV5 : zvu V4 4 k 4 ((U 4 k 4)) = V5
  refine (ys4 41 (v := .ref (w + (49 + 3 * k))) rfl rfl rfl rfl).trans ?_
  refine (ys4 42 (v := .ref (u + (49 + 3 * k))) rfl rfl rfl rfl).trans ?_
  refine (yg 45 rfl (zWS.tag hU (o := 49 + 3 * k) (zwT_4 _ hk).2.2.2.2 (zwT_4 _ hk).1) (zWS.ni hU (o := 49 + 3 * k) (zwT_4 _ hk).2.2.2.2 (zwT_4 _ hk).2.1) (by decide) rfl (zpc_at2 hD (o := 49 + 3 * k) (zpk_4 _ hk) (zwT_4 _ hk).2.2.2.2)).trans ?_
  refine (yq 48 rfl (zWS.tag hW (o := 49 + 3 * k) (zwT_4 _ hk).2.2.2.2 (zwT_4 _ hk).1) (zWS.k0 hW (o := 49 + 3 * k)) (zWS.ni hW (o := 49 + 3 * k) (zwT_4 _ hk).2.2.2.2 (zwT_4 _ hk).2.1) (by decide) rfl (zpc_up (o := 49 + 3 * k) (zpk_4 _ hk) (zwT_4 _ hk).2.2.2.2)).trans ?_
  generalize hV6 : zvu V5 4 k 5 ((U 4 k 5)) = V6
  refine (ys1 49 (x := nI 0) rfl rfl rfl).trans ?_
  refine (ys5 50 (L2 := [(2, .int (nI 0)), (0, .ref (w + (49 + 3 * k))), (1, .ref (u + (49 + 3 * k)))]) rfl rfl rfl rfl).trans ?_
  rw [l_cpT hW hU hD hk hn hz n 0 V6 (by subst hV6 hV5 hV4 hV3 hV2 hV1; simp [zvu, hs]) (by omega)]
  subst hV6 hV5 hV4 hV3 hV2 hV1; rfl
