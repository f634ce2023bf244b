/-! A WORLD'S COPY -/
/-- numbers of a loft's spots and of a letter's stages within bounds -/
def zWG (V : zV) (nl np nh nk : Nat) : Prop := zWF V nl np nh nk ∧ (∀ i, i < nl → ∃ n, n ≤ 6 ∧ V 1 i 0 = nI n) ∧ (∀ k, k < nk → ∃ n, n ≤ 6 ∧ V 4 k 0 = nI n)
def vcpW0 (V U : zV) : zV :=
  let V1 := zvu V 0 0 0 (U 0 0 0)
  let V2 := zvu V1 0 0 1 (U 0 0 1)
  let V3 := zvu V2 0 0 2 (U 0 0 2)
  let V4 := zvu V3 0 0 3 (U 0 0 3)
  let V5 := zvu V4 0 0 4 (U 0 0 4)
  zvu V5 0 0 5 (U 0 0 5)
def vcpLL (U : zV) : Nat → Nat → zV → zV
  | 0, _, V => V
  | m + 1, i, V => vcpLL U m (i + 1) (vcpL V U i (U 1 i 0).toNatClampNeg)
def vcpPL (U : zV) : Nat → Nat → zV → zV
  | 0, _, V => V
  | m + 1, i, V => vcpPL U m (i + 1) (vcpP V U i)
def vcpHL (U : zV) : Nat → Nat → zV → zV
  | 0, _, V => V
  | m + 1, i, V => vcpHL U m (i + 1) (vcpH V U i)
def vcpKL (U : zV) : Nat → Nat → zV → zV
  | 0, _, V => V
  | m + 1, i, V => vcpKL U m (i + 1) (vcpK V U i (U 4 i 0).toNatClampNeg)
def vcpW (V U : zV) (nl np nh nk : Nat) : zV := vcpKL U nk 0 (vcpHL U nh 0 (vcpPL U np 0 (vcpLL U nl 0 (vcpW0 V U))))
/-- the four counts -/
def zS0 (V U : zV) : Prop := ∀ f, U 0 0 f = V 0 0 f
theorem zS0.tr {V U T : zV} (h1 : zS0 V U) (h2 : zS0 U T) : zS0 V T := fun f => (h2 f).trans (h1 f)
theorem zS0.up {V U : zV} (h : zS0 V U) {q i f : Nat} {x : Int32} (h0 : q ≠ 0) : zS0 V (zvu U q i f x) := fun g => by
  rw [zvu_ne (fun e => h0 e.1.symm)]
  exact h g
theorem zS0.rf (V : zV) : zS0 V V := fun _ => rfl
theorem zS0.R {V U W : zV} {q k N : Nat} (h0 : q ≠ 0) (h : zS0 V W) (m i : Nat) : zS0 V (vcpR q k N U m i W) := fun f => by
  rw [vcpR_ne (fun e => h0 e.1.symm)]
  exact h f
theorem zS0_P (V U : zV) (i : Nat) : zS0 V (vcpP V U i) := by
  unfold vcpP
  dsimp only
  repeat (first | exact zS0.rf _ | refine zS0.up ?_ (by decide))
theorem zS0_H (V U : zV) (i : Nat) : zS0 V (vcpH V U i) := by
  unfold vcpH
  dsimp only
  repeat (first | exact zS0.rf _ | refine zS0.up ?_ (by decide))
theorem zS0_L (V U : zV) (i n : Nat) : zS0 V (vcpL V U i n) := by
  unfold vcpL
  refine zS0.R (by decide) (zS0.R (by decide) ?_ _ _) _ _
  unfold vcpL0
  dsimp only
  repeat (first | exact zS0.rf _ | refine zS0.up ?_ (by decide))
theorem zS0_T (k : Nat) (U : zV) : ∀ (m j : Nat) (V : zV), zS0 V (vcpT k U m j V)
  | 0, _, V => zS0.rf V
  | m + 1, j, V => (zS0.R (by decide) (zS0.up (zS0.rf V) (by decide)) _ _).tr (zS0_T k U m (j + 1) _)
theorem zS0_K (V U : zV) (i n : Nat) : zS0 V (vcpK V U i n) := by
  unfold vcpK
  refine zS0.tr ?_ (zS0_T _ _ _ _ _)
  unfold vcpK0
  dsimp only
  repeat (first | exact zS0.rf _ | refine zS0.up ?_ (by decide))
theorem zS0_LL (U : zV) : ∀ (m i : Nat) (V : zV), zS0 V (vcpLL U m i V)
  | 0, _, V => zS0.rf V
  | m + 1, i, V => (zS0_L V U i _).tr (zS0_LL U m (i + 1) _)
theorem zS0_PL (U : zV) : ∀ (m i : Nat) (V : zV), zS0 V (vcpPL U m i V)
  | 0, _, V => zS0.rf V
  | m + 1, i, V => (zS0_P V U i).tr (zS0_PL U m (i + 1) _)
theorem zS0_HL (U : zV) : ∀ (m i : Nat) (V : zV), zS0 V (vcpHL U m i V)
  | 0, _, V => zS0.rf V
  | m + 1, i, V => (zS0_H V U i).tr (zS0_HL U m (i + 1) _)
theorem zS0_KL (U : zV) : ∀ (m i : Nat) (V : zV), zS0 V (vcpKL U m i V)
  | 0, _, V => zS0.rf V
  | m + 1, i, V => (zS0_K V U i _).tr (zS0_KL U m (i + 1) _)

theorem l_wL {d c sl : Nat} {w u : Nat} {U : zV} {J : Nat → Nat → Int32} {μ : zM} (hW : zWS μ w) (hU : zWS μ u) (hD : u + 85 ≤ w ∨ w + 85 ≤ u) {nl np nh nk : Nat} (hG : zWG U nl np nh nk) : ∀ (m i : Nat) (V : zV), V 0 0 0 = nI nl → i + m = nl → zden1 (d + 3) (zden zcds (d + 3)) zc64 (50, [(2, .int (nI i)), (0, .ref (w)), (1, .ref (u))], [], c, sl, zwi μ (zpc (zpc J u U) w V)) = zden1 (d + 3) (zden zcds (d + 3)) zc64 (77, [(2, .int (nI nl)), (0, .ref (w)), (1, .ref (u))], [], c, sl, zwi μ (zpc (zpc J u U) w (vcpLL U m i V)))
  | 0, i, V, hV, h => by
    have hn : nl ≤ 6 := hG.1.2.1
    have e : i = nl := by omega
    subst e
    refine (ys4 51 (v := .int (nI i)) rfl rfl rfl rfl).trans ?_
    refine (ys4 52 (v := .ref (w)) rfl rfl rfl rfl).trans ?_
    refine (yg 55 rfl (zWS.tag hW (o := 0) (by decide) rfl) (zWS.ni hW (o := 0) (by decide) rfl) (by decide) rfl (zpc_at (o := 0) (q := 0) (i := 0) rfl (by decide))).trans ?_
    refine ys18_3 58 rfl rfl (fun h55 => ?_) (fun h55 => absurd (by rw [hV]; exact nI_le (by omega) (by omega)) h55)
    rfl
  | m + 1, i, V, hV, h => by
    have hn : nl ≤ 6 := hG.1.2.1
    have hi : i < 6 := by omega
    obtain ⟨z, hz1, hz2⟩ := hG.2.1 i (by omega)
    rw [vcpLL, hz2, nI_clamp (show z < 2 ^ 31 by omega)]
    refine (ys4 51 (v := .int (nI i)) rfl rfl rfl rfl).trans ?_
    refine (ys4 52 (v := .ref (w)) rfl rfl rfl rfl).trans ?_
    refine (yg 55 rfl (zWS.tag hW (o := 0) (by decide) rfl) (zWS.ni hW (o := 0) (by decide) rfl) (by decide) rfl (zpc_at (o := 0) (q := 0) (i := 0) rfl (by decide))).trans ?_
    refine ys18_3 58 rfl rfl (fun h55 => absurd h55 (by rw [hV]; exact nI_ge (by omega) (by omega))) (fun h55 => ?_)
    refine (ys4 59 (v := .ref (w)) rfl rfl rfl rfl).trans ?_
    refine (ys4 60 (v := .int (nI i)) rfl rfl rfl rfl).trans ?_
    refine (yc2 63 rfl rfl (Nat.le_of_ble_eq_true rfl) (Or.inr (by show ztg (zwi _ _) _ = _; rw [ztg_wi]; exact (zWS.tag hW (o := 0) (by decide) rfl))) rfl rfl (c_at1n hW hi)).trans ?_
    refine (ys4 64 (v := .ref (u)) rfl rfl rfl rfl).trans ?_
    refine (ys4 65 (v := .int (nI i)) rfl rfl rfl rfl).trans ?_
    refine (yc2 68 rfl rfl (Nat.le_of_ble_eq_true rfl) (Or.inr (by show ztg (zwi _ _) _ = _; rw [ztg_wi]; exact (zWS.tag hU (o := 0) (by decide) rfl))) rfl rfl (c_at1n hU hi)).trans ?_
    refine (yc2 71 rfl rfl (Nat.le_of_ble_eq_true rfl) (Or.inr (by show ztg (zwi _ _) _ = _; rw [ztg_wi]; exact (zWS.tag hW (o := 5 + 3 * i) (zwT_1 _ hi).2.2.2.2 (zwT_1 _ hi).1))) rfl rfl (c_cpL hW hU hD hi hz1 hz2)).trans ?_
    generalize hV1 : vcpL V U i z = V1
    refine (ys6 74 (y := nI (i + 1)) (L2 := [(2, .int (nI (i + 1))), (0, .ref (w)), (1, .ref (u))]) rfl rfl (nI_1 _) rfl rfl).trans ?_
    refine (ys19 rfl).trans ?_
    subst hV1; exact l_wL hW hU hD hG m (i + 1) _ (by rw [zS0_L V U i z]; exact hV) (by omega)

theorem l_wP {d c sl : Nat} {w u : Nat} {U : zV} {J : Nat → Nat → Int32} {μ : zM} (hW : zWS μ w) (hU : zWS μ u) (hD : u + 85 ≤ w ∨ w + 85 ≤ u) {nl np nh nk : Nat} (hG : zWG U nl np nh nk) : ∀ (m i : Nat) (V : zV), V 0 0 1 = nI np → i + m = np → zden1 (d + 3) (zden zcds (d + 3)) zc64 (79, [(2, .int (nI i)), (0, .ref (w)), (1, .ref (u))], [], c, sl, zwi μ (zpc (zpc J u U) w V)) = zden1 (d + 3) (zden zcds (d + 3)) zc64 (106, [(2, .int (nI np)), (0, .ref (w)), (1, .ref (u))], [], c, sl, zwi μ (zpc (zpc J u U) w (vcpPL U m i V)))
  | 0, i, V, hV, h => by
    have hn : np ≤ 20 := hG.1.2.2.2.1
    have e : i = np := by omega
    subst e
    refine (ys4 80 (v := .int (nI i)) rfl rfl rfl rfl).trans ?_
    refine (ys4 81 (v := .ref (w)) rfl rfl rfl rfl).trans ?_
    refine (yg 84 rfl (zWS.tag hW (o := 0) (by decide) rfl) (zWS.ni hW (o := 0) (by decide) rfl) (by decide) rfl (zpc_at (o := 0) (q := 0) (i := 0) rfl (by decide))).trans ?_
    refine ys18_3 87 rfl rfl (fun h84 => ?_) (fun h84 => absurd (by rw [hV]; exact nI_le (by omega) (by omega)) h84)
    rfl
  | m + 1, i, V, hV, h => by
    have hn : np ≤ 20 := hG.1.2.2.2.1
    have hi : i < 20 := by omega
    rw [vcpPL]
    refine (ys4 80 (v := .int (nI i)) rfl rfl rfl rfl).trans ?_
    refine (ys4 81 (v := .ref (w)) rfl rfl rfl rfl).trans ?_
    refine (yg 84 rfl (zWS.tag hW (o := 0) (by decide) rfl) (zWS.ni hW (o := 0) (by decide) rfl) (by decide) rfl (zpc_at (o := 0) (q := 0) (i := 0) rfl (by decide))).trans ?_
    refine ys18_3 87 rfl rfl (fun h84 => absurd h84 (by rw [hV]; exact nI_ge (by omega) (by omega))) (fun h84 => ?_)
    refine (ys4 88 (v := .ref (w)) rfl rfl rfl rfl).trans ?_
    refine (ys4 89 (v := .int (nI i)) rfl rfl rfl rfl).trans ?_
    refine (yc2 92 rfl rfl (Nat.le_of_ble_eq_true rfl) (Or.inr (by show ztg (zwi _ _) _ = _; rw [ztg_wi]; exact (zWS.tag hW (o := 0) (by decide) rfl))) rfl rfl (c_at2n hW hi)).trans ?_
    refine (ys4 93 (v := .ref (u)) rfl rfl rfl rfl).trans ?_
    refine (ys4 94 (v := .int (nI i)) rfl rfl rfl rfl).trans ?_
    refine (yc2 97 rfl rfl (Nat.le_of_ble_eq_true rfl) (Or.inr (by show ztg (zwi _ _) _ = _; rw [ztg_wi]; exact (zWS.tag hU (o := 0) (by decide) rfl))) rfl rfl (c_at2n hU hi)).trans ?_
    refine (yc2 100 rfl rfl (Nat.le_of_ble_eq_true rfl) (Or.inr (by show ztg (zwi _ _) _ = _; rw [ztg_wi]; exact (zWS.tag hW (o := 23 + i) (zwT_2 _ hi).2.2 (zwT_2 _ hi).1))) rfl rfl (c_cpP hW hU hD hi)).trans ?_
    generalize hV1 : vcpP V U i = V1
    refine (ys6 103 (y := nI (i + 1)) (L2 := [(2, .int (nI (i + 1))), (0, .ref (w)), (1, .ref (u))]) rfl rfl (nI_1 _) rfl rfl).trans ?_
    refine (ys19 rfl).trans ?_
    subst hV1; exact l_wP hW hU hD hG m (i + 1) _ (by rw [zS0_P V U i]; exact hV) (by omega)

theorem l_wH {d c sl : Nat} {w u : Nat} {U : zV} {J : Nat → Nat → Int32} {μ : zM} (hW : zWS μ w) (hU : zWS μ u) (hD : u + 85 ≤ w ∨ w + 85 ≤ u) {nl np nh nk : Nat} (hG : zWG U nl np nh nk) : ∀ (m i : Nat) (V : zV), V 0 0 2 = nI nh → i + m = nh → zden1 (d + 3) (zden zcds (d + 3)) zc64 (108, [(2, .int (nI i)), (0, .ref (w)), (1, .ref (u))], [], c, sl, zwi μ (zpc (zpc J u U) w V)) = zden1 (d + 3) (zden zcds (d + 3)) zc64 (135, [(2, .int (nI nh)), (0, .ref (w)), (1, .ref (u))], [], c, sl, zwi μ (zpc (zpc J u U) w (vcpHL U m i V)))
  | 0, i, V, hV, h => by
    have hn : nh ≤ 6 := hG.1.2.2.2.2.2.1
    have e : i = nh := by omega
    subst e
    refine (ys4 109 (v := .int (nI i)) rfl rfl rfl rfl).trans ?_
    refine (ys4 110 (v := .ref (w)) rfl rfl rfl rfl).trans ?_
    refine (yg 113 rfl (zWS.tag hW (o := 0) (by decide) rfl) (zWS.ni hW (o := 0) (by decide) rfl) (by decide) rfl (zpc_at (o := 0) (q := 0) (i := 0) rfl (by decide))).trans ?_
    refine ys18_3 116 rfl rfl (fun h113 => ?_) (fun h113 => absurd (by rw [hV]; exact nI_le (by omega) (by omega)) h113)
    rfl
  | m + 1, i, V, hV, h => by
    have hn : nh ≤ 6 := hG.1.2.2.2.2.2.1
    have hi : i < 6 := by omega
    rw [vcpHL]
    refine (ys4 109 (v := .int (nI i)) rfl rfl rfl rfl).trans ?_
    refine (ys4 110 (v := .ref (w)) rfl rfl rfl rfl).trans ?_
    refine (yg 113 rfl (zWS.tag hW (o := 0) (by decide) rfl) (zWS.ni hW (o := 0) (by decide) rfl) (by decide) rfl (zpc_at (o := 0) (q := 0) (i := 0) rfl (by decide))).trans ?_
    refine ys18_3 116 rfl rfl (fun h113 => absurd h113 (by rw [hV]; exact nI_ge (by omega) (by omega))) (fun h113 => ?_)
    refine (ys4 117 (v := .ref (w)) rfl rfl rfl rfl).trans ?_
    refine (ys4 118 (v := .int (nI i)) rfl rfl rfl rfl).trans ?_
    refine (yc2 121 rfl rfl (Nat.le_of_ble_eq_true rfl) (Or.inr (by show ztg (zwi _ _) _ = _; rw [ztg_wi]; exact (zWS.tag hW (o := 0) (by decide) rfl))) rfl rfl (c_at3n hW hi)).trans ?_
    refine (ys4 122 (v := .ref (u)) rfl rfl rfl rfl).trans ?_
    refine (ys4 123 (v := .int (nI i)) rfl rfl rfl rfl).trans ?_
    refine (yc2 126 rfl rfl (Nat.le_of_ble_eq_true rfl) (Or.inr (by show ztg (zwi _ _) _ = _; rw [ztg_wi]; exact (zWS.tag hU (o := 0) (by decide) rfl))) rfl rfl (c_at3n hU hi)).trans ?_
    refine (yc2 129 rfl rfl (Nat.le_of_ble_eq_true rfl) (Or.inr (by show ztg (zwi _ _) _ = _; rw [ztg_wi]; exact (zWS.tag hW (o := 43 + i) (zwT_3 _ hi).2.2 (zwT_3 _ hi).1))) rfl rfl (c_cpH hW hU hD hi)).trans ?_
    generalize hV1 : vcpH V U i = V1
    refine (ys6 132 (y := nI (i + 1)) (L2 := [(2, .int (nI (i + 1))), (0, .ref (w)), (1, .ref (u))]) rfl rfl (nI_1 _) rfl rfl).trans ?_
    refine (ys19 rfl).trans ?_
    subst hV1; exact l_wH hW hU hD hG m (i + 1) _ (by rw [zS0_H V U i]; exact hV) (by omega)

theorem l_wK {d c sl : Nat} {w u : Nat} {U : zV} {J : Nat → Nat → Int32} {μ : zM} (hW : zWS μ w) (hU : zWS μ u) (hD : u + 85 ≤ w ∨ w + 85 ≤ u) {nl np nh nk : Nat} (hG : zWG U nl np nh nk) : ∀ (m i : Nat) (V : zV), V 0 0 3 = nI nk → i + m = nk → zden1 (d + 3) (zden zcds (d + 3)) zc64 (137, [(2, .int (nI i)), (0, .ref (w)), (1, .ref (u))], [], c, sl, zwi μ (zpc (zpc J u U) w V)) = zden1 (d + 3) (zden zcds (d + 3)) zc64 (164, [(2, .int (nI nk)), (0, .ref (w)), (1, .ref (u))], [], c, sl, zwi μ (zpc (zpc J u U) w (vcpKL U m i V)))
  | 0, i, V, hV, h => by
    have hn : nk ≤ 12 := hG.1.2.2.2.2.2.2.2.1
    have e : i = nk := by omega
    subst e
    refine (ys4 138 (v := .int (nI i)) rfl rfl rfl rfl).trans ?_
    refine (ys4 139 (v := .ref (w)) rfl rfl rfl rfl).trans ?_
    refine (yg 142 rfl (zWS.tag hW (o := 0) (by decide) rfl) (zWS.ni hW (o := 0) (by decide) rfl) (by decide) rfl (zpc_at (o := 0) (q := 0) (i := 0) rfl (by decide))).trans ?_
    refine ys18_3 145 rfl rfl (fun h142 => ?_) (fun h142 => absurd (by rw [hV]; exact nI_le (by omega) (by omega)) h142)
    rfl
  | m + 1, i, V, hV, h => by
    have hn : nk ≤ 12 := hG.1.2.2.2.2.2.2.2.1
    have hi : i < 12 := by omega
    obtain ⟨z, hz1, hz2⟩ := hG.2.2 i (by omega)
    rw [vcpKL, hz2, nI_clamp (show z < 2 ^ 31 by omega)]
    refine (ys4 138 (v := .int (nI i)) rfl rfl rfl rfl).trans ?_
    refine (ys4 139 (v := .ref (w)) rfl rfl rfl rfl).trans ?_
    refine (yg 142 rfl (zWS.tag hW (o := 0) (by decide) rfl) (zWS.ni hW (o := 0) (by decide) rfl) (by decide) rfl (zpc_at (o := 0) (q := 0) (i := 0) rfl (by decide))).trans ?_
    refine ys18_3 145 rfl rfl (fun h142 => absurd h142 (by rw [hV]; exact nI_ge (by omega) (by omega))) (fun h142 => ?_)
    refine (ys4 146 (v := .ref (w)) rfl rfl rfl rfl).trans ?_
    refine (ys4 147 (v := .int (nI i)) rfl rfl rfl rfl).trans ?_
    refine (yc2 150 rfl rfl (Nat.le_of_ble_eq_true rfl) (Or.inr (by show ztg (zwi _ _) _ = _; rw [ztg_wi]; exact (zWS.tag hW (o := 0) (by decide) rfl))) rfl rfl (c_at4n hW hi)).trans ?_
    refine (ys4 151 (v := .ref (u)) rfl rfl rfl rfl).trans ?_
    refine (ys4 152 (v := .int (nI i)) rfl rfl rfl rfl).trans ?_
    refine (yc2 155 rfl rfl (Nat.le_of_ble_eq_true rfl) (Or.inr (by show ztg (zwi _ _) _ = _; rw [ztg_wi]; exact (zWS.tag hU (o := 0) (by decide) rfl))) rfl rfl (c_at4n hU hi)).trans ?_
    refine (yc2 158 rfl rfl (Nat.le_of_ble_eq_true rfl) (Or.inr (by show ztg (zwi _ _) _ = _; rw [ztg_wi]; exact (zWS.tag hW (o := 49 + 3 * i) (zwT_4 _ hi).2.2.2.2 (zwT_4 _ hi).1))) rfl rfl (c_cpK hW hU hD hi hz1 hz2 (fun j hj => hG.1.2.2.2.2.2.2.2.2 i (by omega) j (by omega)))).trans ?_
    generalize hV1 : vcpK V U i z = V1
    refine (ys6 161 (y := nI (i + 1)) (L2 := [(2, .int (nI (i + 1))), (0, .ref (w)), (1, .ref (u))]) rfl rfl (nI_1 _) rfl rfl).trans ?_
    refine (ys19 rfl).trans ?_
    subst hV1; exact l_wK hW hU hD hG m (i + 1) _ (by rw [zS0_K V U i z]; exact hV) (by omega)

theorem c_cpW {d : Nat} {w u : Nat} {V U : zV} {J : Nat → Nat → Int32} {μ : zM} (hW : zWS μ w) (hU : zWS μ u) (hD : u + 85 ≤ w ∨ w + 85 ≤ u) {nl np nh nk : Nat} (hG : zWG U nl np nh nk) : zden zcds (d + 4) 64 [.ref w, .ref u] (zwi μ (zpc (zpc J u U) w V)) = some (0, none, 0, 0, zwi μ (zpc (zpc J u U) w (vcpW V U nl np nh nk))) := by
  have g1 := hG.1.1
  have g2 := hG.1.2.2.1
  have g3 := hG.1.2.2.2.2.1
  have g4 := hG.1.2.2.2.2.2.2.1
  refine (zd_in (d := d + 3) (cd := zc64) (nL := 3) (L := [(0, .ref (w)), (1, .ref (u))]) rfl (Nat.le_of_ble_eq_true rfl) rfl).trans ?_
  refine (ys4 1 (v := .ref (w)) rfl rfl rfl rfl).trans ?_
  refine (ys4 2 (v := .ref (u)) rfl rfl rfl rfl).trans ?_
  refine (yg 5 rfl (zWS.tag hU (o := 0) (by decide) rfl) (zWS.ni hU (o := 0) (by decide) rfl) (by decide) rfl (zpc_at2 hD (o := 0) (q := 0) (i := 0) rfl (by decide))).trans ?_
  refine (yq 8 rfl (zWS.tag hW (o := 0) (by decide) rfl) (zWS.k0 hW (o := 0)) (zWS.ni hW (o := 0) (by decide) rfl) (by decide) rfl (zpc_up (o := 0) (q := 0) (i := 0) rfl (by decide))).trans ?_
  generalize hV1 : zvu V 0 0 0 ((U 0 0 0)) = V1
  refine (ys4 9 (v := .ref (w)) rfl rfl rfl rfl).trans ?_
  refine (ys4 10 (v := .ref (u)) rfl rfl rfl rfl).trans ?_
  refine (yg 13 rfl (zWS.tag hU (o := 0) (by decide) rfl) (zWS.ni hU (o := 0) (by decide) rfl) (by decide) rfl (zpc_at2 hD (o := 0) (q := 0) (i := 0) rfl (by decide))).trans ?_
  refine (yq 16 rfl (zWS.tag hW (o := 0) (by decide) rfl) (zWS.k0 hW (o := 0)) (zWS.ni hW (o := 0) (by decide) rfl) (by decide) rfl (zpc_up (o := 0) (q := 0) (i := 0) rfl (by decide))).trans ?_
  generalize hV2 : zvu V1 0 0 1 ((U 0 0 1)) = V2
  refine (ys4 17 (v := .ref (w)) rfl rfl rfl rfl).trans ?_
  refine (ys4 18 (v := .ref (u)) rfl rfl rfl rfl).trans ?_
  refine (yg 21 rfl (zWS.tag hU (o := 0) (by decide) rfl) (zWS.ni hU (o := 0) (by decide) rfl) (by decide) rfl (zpc_at2 hD (o := 0) (q := 0) (i := 0) rfl (by decide))).trans ?_
  refine (yq 24 rfl (zWS.tag hW (o := 0) (by decide) rfl) (zWS.k0 hW (o := 0)) (zWS.ni hW (o := 0) (by decide) rfl) (by decide) rfl (zpc_up (o := 0) (q := 0) (i := 0) rfl (by decide))).trans ?_
  generalize hV3 : zvu V2 0 0 2 ((U 0 0 2)) = V3
  refine (ys4 25 (v := .ref (w)) rfl rfl rfl rfl).trans ?_
  refine (ys4 26 (v := .ref (u)) rfl rfl rfl rfl).trans ?_
  refine (yg 29 rfl (zWS.tag hU (o := 0) (by decide) rfl) (zWS.ni hU (o := 0) (by decide) rfl) (by decide) rfl (zpc_at2 hD (o := 0) (q := 0) (i := 0) rfl (by decide))).trans ?_
  refine (yq 32 rfl (zWS.tag hW (o := 0) (by decide) rfl) (zWS.k0 hW (o := 0)) (zWS.ni hW (o := 0) (by decide) rfl) (by decide) rfl (zpc_up (o := 0) (q := 0) (i := 0) rfl (by decide))).trans ?_
  generalize hV4 : zvu V3 0 0 3 ((U 0 0 3)) = V4
  refine (ys4 33 (v := .ref (w)) rfl rfl rfl rfl).trans ?_
  refine (ys4 34 (v := .ref (u)) rfl rfl rfl rfl).trans ?_
  refine (yg 37 rfl (zWS.tag hU (o := 0) (by decide) rfl) (zWS.ni hU (o := 0) (by decide) rfl) (by decide) rfl (zpc_at2 hD (o := 0) (q := 0) (i := 0) rfl (by decide))).trans ?_
  refine (yq 40 rfl (zWS.tag hW (o := 0) (by decide) rfl) (zWS.k0 hW (o := 0)) (zWS.ni hW (o := 0) (by decide) rfl) (by decide) rfl (zpc_up (o := 0) (q := 0) (i := 0) rfl (by decide))).trans ?_
  generalize hV5 : zvu V4 0 0 4 ((U 0 0 4)) = V5
  refine (ys4 41 (v := .ref (w)) rfl rfl rfl rfl).trans ?_
  refine (ys4 42 (v := .ref (u)) rfl rfl rfl rfl).trans ?_
  refine (yg 45 rfl (zWS.tag hU (o := 0) (by decide) rfl) (zWS.ni hU (o := 0) (by decide) rfl) (by decide) rfl (zpc_at2 hD (o := 0) (q := 0) (i := 0) rfl (by decide))).trans ?_
  refine (yq 48 rfl (zWS.tag hW (o := 0) (by decide) rfl) (zWS.k0 hW (o := 0)) (zWS.ni hW (o := 0) (by decide) rfl) (by decide) rfl (zpc_up (o := 0) (q := 0) (i := 0) rfl (by decide))).trans ?_
  generalize hV6 : zvu V5 0 0 5 ((U 0 0 5)) = V6
  refine (ys1 49 (x := nI 0) rfl rfl rfl).trans ?_
  refine (ys5 50 (L2 := [(2, .int (nI 0)), (0, .ref (w)), (1, .ref (u))]) rfl rfl rfl rfl).trans ?_
  have e : vcpW0 V U = V6 := by subst hV6 hV5 hV4 hV3 hV2 hV1; rfl
  have k1 : V6 0 0 0 = nI nl := by subst hV6 hV5 hV4 hV3 hV2 hV1; simp [zvu, g1]
  have k2 : V6 0 0 1 = nI np := by subst hV6 hV5 hV4 hV3 hV2 hV1; simp [zvu, g2]
  have k3 : V6 0 0 2 = nI nh := by subst hV6 hV5 hV4 hV3 hV2 hV1; simp [zvu, g3]
  have k4 : V6 0 0 3 = nI nk := by subst hV6 hV5 hV4 hV3 hV2 hV1; simp [zvu, g4]
  refine (l_wL hW hU hD hG nl 0 V6 k1 (by omega)).trans ?_
  refine (ys1 78 (x := nI 0) rfl rfl rfl).trans ?_
  refine (ys5 79 (L2 := [(2, .int (nI 0)), (0, .ref (w)), (1, .ref (u))]) rfl rfl rfl rfl).trans ?_
  refine (l_wP hW hU hD hG np 0 _ (by rw [zS0_LL U nl 0 V6]; exact k2) (by omega)).trans ?_
  refine (ys1 107 (x := nI 0) rfl rfl rfl).trans ?_
  refine (ys5 108 (L2 := [(2, .int (nI 0)), (0, .ref (w)), (1, .ref (u))]) rfl rfl rfl rfl).trans ?_
  refine (l_wH hW hU hD hG nh 0 _ (by rw [zS0_PL U np 0 _, zS0_LL U nl 0 V6]; exact k3) (by omega)).trans ?_
  refine (ys1 136 (x := nI 0) rfl rfl rfl).trans ?_
  refine (ys5 137 (L2 := [(2, .int (nI 0)), (0, .ref (w)), (1, .ref (u))]) rfl rfl rfl rfl).trans ?_
  refine (l_wK hW hU hD hG nk 0 _ (by rw [zS0_HL U nh 0 _, zS0_PL U np 0 _, zS0_LL U nl 0 V6]; exact k4) (by omega)).trans ?_
  refine (ys36v rfl rfl).trans ?_
  unfold vcpW; rw [e]
