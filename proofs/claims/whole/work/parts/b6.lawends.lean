/-! THE LAW: mean, digest, what is no call, and the head of its loop -/
set_option maxRecDepth 20000 in
theorem lawc_1171 {μ0 μ1 μ2 : zM} {I0 I1 I2 : zFn} {c sl c1 s1 c2 s2 i x m o : Nat} {rz : zR} (hx : ztg μ0 x = 0) (hm1 : ztg μ1 m = 8) {k : UInt64} (hd : FP.dcmp k k = some .eq) (hw : zden zcds 12 23 [.ref (x)] (zwi μ0 I0) = some (0, some (.double k), c1, s1, zwi μ1 I1)) (hm : zden zcds 12 181 [.ref (m)] (zwi μ1 I1) = some (0, some (.double k), c2, s2, zwi μ2 I2)) (hk : zden1 12 (zden zcds 12) zc232 (23, [(4, .int (nI (i + 6))), (3, .ref (o)), (2, .ref (m)), (1, .ref (x)), (0, .ref (81))], [], c + c1 + c2, sl + s1 + s2, zwi μ2 I2) = some rz) : zden1 12 (zden zcds 12) zc232 (1171, [(4, .int (nI i)), (3, .ref (o)), (2, .ref (m)), (1, .ref (x)), (0, .ref (81))], [], c, sl, zwi μ0 I0) = some rz := by
  refine (ys4 1172 (v := .ref (x)) rfl rfl rfl rfl).trans ?_
  refine (yc1 1175 rfl rfl (Nat.le_of_ble_eq_true rfl) (Or.inr (by show ztg (zwi _ _) _ = _; rw [ztg_wi]; exact hx)) rfl rfl hw).trans ?_
  refine (ys5 1177 (L2 := [(5, .double (k)), (4, .int (nI i)), (3, .ref (o)), (2, .ref (m)), (1, .ref (x)), (0, .ref (81))]) rfl rfl rfl rfl).trans ?_
  refine (ys4 1178 (v := .ref (m)) rfl rfl rfl rfl).trans ?_
  refine (yc1 1181 rfl rfl (Nat.le_of_ble_eq_true rfl) (Or.inr (by show ztg (zwi _ _) _ = _; rw [ztg_wi]; exact hm1)) rfl rfl hm).trans ?_
  refine (ys5 1183 (L2 := [(7, .double (k)), (5, .double (k)), (4, .int (nI i)), (3, .ref (o)), (2, .ref (m)), (1, .ref (x)), (0, .ref (81))]) rfl rfl rfl rfl).trans ?_
  refine (ys4 1185 (v := .double (k)) rfl rfl rfl rfl).trans ?_
  refine (ys4 1187 (v := .double (k)) rfl rfl rfl rfl).trans ?_
  refine (ys12_1 1188 rfl rfl).trans ?_
  rw [hd]
  refine ys17_0 1191 rfl rfl (fun _ => ?_) (fun q => absurd rfl q)
  refine (ys19 rfl).trans ?_
  · refine (ys6 1229 (y := nI (i + 6)) (L2 := [(4, .int (nI (i + 6))), (7, .double (k)), (5, .double (k)), (3, .ref (o)), (2, .ref (m)), (1, .ref (x)), (0, .ref (81))]) rfl rfl (nI_add i 6) rfl rfl).trans ?_
    refine (ys19 rfl).trans ?_
    exact zden1_fg (zfg_cons rfl (zfg_cons rfl (zfg_cons rfl (zfg_cons rfl (zfg_cons rfl zfg_nil))))) hk

set_option maxRecDepth 20000 in
theorem lawc_1212 {μ0 μ1 μ2 : zM} {I0 I1 I2 : zFn} {c sl c1 s1 c2 s2 i x m o : Nat} {rz : zR} (hx : ztg μ0 x = 0) (hm1 : ztg μ1 m = 8) {k : Int64} (hw : zden zcds 12 24 [.ref (x)] (zwi μ0 I0) = some (0, some (.long k), c1, s1, zwi μ1 I1)) (hm : zden zcds 12 182 [.ref (m)] (zwi μ1 I1) = some (0, some (.long k), c2, s2, zwi μ2 I2)) (hk : zden1 12 (zden zcds 12) zc232 (23, [(4, .int (nI (i + 6))), (3, .ref (o)), (2, .ref (m)), (1, .ref (x)), (0, .ref (81))], [], c + c1 + c2, sl + s1 + s2, zwi μ2 I2) = some rz) : zden1 12 (zden zcds 12) zc232 (1212, [(4, .int (nI i)), (3, .ref (o)), (2, .ref (m)), (1, .ref (x)), (0, .ref (81))], [], c, sl, zwi μ0 I0) = some rz := by
  refine (ys4 1213 (v := .ref (x)) rfl rfl rfl rfl).trans ?_
  refine (yc1 1216 rfl rfl (Nat.le_of_ble_eq_true rfl) (Or.inr (by show ztg (zwi _ _) _ = _; rw [ztg_wi]; exact hx)) rfl rfl hw).trans ?_
  refine (ys4 1217 (v := .ref (m)) rfl rfl rfl rfl).trans ?_
  refine (yc1 1220 rfl rfl (Nat.le_of_ble_eq_true rfl) (Or.inr (by show ztg (zwi _ _) _ = _; rw [ztg_wi]; exact hm1)) rfl rfl hm).trans ?_
  refine (ys11 1221 rfl rfl).trans ?_
  show zden1 12 (zden zcds 12) zc232 (1221, _, .int (lg_cmp k k) :: _, _, _, _) = _
  rw [lcmp_same]
  refine ys17_0 1224 rfl rfl (fun _ => ?_) (fun q => absurd rfl q)
  · refine (ys6 1229 (y := nI (i + 6)) (L2 := [(4, .int (nI (i + 6))), (3, .ref (o)), (2, .ref (m)), (1, .ref (x)), (0, .ref (81))]) rfl rfl (nI_add i 6) rfl rfl).trans ?_
    refine (ys19 rfl).trans ?_
    exact hk

set_option maxRecDepth 20000 in
theorem lawc_1226 {μ0 : zM} {I0 : zFn} {c sl i x m o : Nat} {rz : zR} (hk : zden1 12 (zden zcds 12) zc232 (23, [(4, .int (nI (i + 6))), (3, .ref (o)), (2, .ref (m)), (1, .ref (x)), (0, .ref (81))], [], c, sl, zwi μ0 I0) = some rz) : zden1 12 (zden zcds 12) zc232 (1226, [(4, .int (nI i)), (3, .ref (o)), (2, .ref (m)), (1, .ref (x)), (0, .ref (81))], [], c, sl, zwi μ0 I0) = some rz := by
  refine (ys6 1229 (y := nI (i + 6)) (L2 := [(4, .int (nI (i + 6))), (3, .ref (o)), (2, .ref (m)), (1, .ref (x)), (0, .ref (81))]) rfl rfl (nI_add i 6) rfl rfl).trans ?_
  refine (ys19 rfl).trans ?_
  exact hk
theorem law_gt : ∀ N i : Nat, N < 2 ^ 30 → i < 2 ^ 30 → (nI N - 6 < nI i ↔ N < i + 6) := by
  intro N i hN hi
  have h1 : (nI N - 6).toInt = (N : Int) - 6 := by
    rcases Nat.lt_or_ge N 6 with h | h
    · exact (by decide +kernel : ∀ n, n < 6 → (nI n - 6).toInt = (n : Int) - 6) N h
    · rw [show nI N - 6 = nI (N - 6) from pk_sub (b := 6) (by omega), nI_toInt (by omega)]
      omega
  rw [Int32.lt_iff_toInt_lt, h1, nI_toInt (by omega)]
  omega
def lawT : List Nat := [136, 240, 296, 309, 322, 378, 446, 514, 582, 650, 718, 798, 854, 922, 978, 1046, 1102, 1158, 1171, 1212]
theorem law_tab : ∀ j, j < 32 → (if (nI j).toInt < ((0 : Nat) : Int) ∨ ((0 : Nat) : Int) + lawT.length ≤ (nI j).toInt then 1226 else lawT.getD ((nI j).toInt - ((0 : Nat) : Int)).toNat 0) = (if j < 20 then lawT.getD j 0 else 1226) := by decide +kernel
theorem zSP_al {μ : zM} {I : zFn} {N : Nat} {xs : Nat → Int32} (hS : zSP μ I N xs) : zal μ 81 = some N := by
  unfold zal
  rw [hS.1]
  dsimp only
  rw [if_pos (by decide), hS.2.1]
set_option maxRecDepth 20000 in
theorem law_head {μ : zM} {I : zFn} {c sl i N x m o : Nat} {xs : Nat → Int32} (hS : zSP μ I N xs) (hN : N < 2 ^ 30) (hi : i + 6 ≤ N) {j : Nat} (hj : j < 32) (hv : xs i &&& 31 = nI j) : zden1 12 (zden zcds 12) zc232 (23, [(4, .int (nI i)), (3, .ref (o)), (2, .ref (m)), (1, .ref (x)), (0, .ref (81))], [], c, sl, zwi μ I) = zden1 12 (zden zcds 12) zc232 ((if j < 20 then lawT.getD j 0 else 1226), [(4, .int (nI i)), (3, .ref (o)), (2, .ref (m)), (1, .ref (x)), (0, .ref (81))], [], c, sl, zwi μ I) := by
  refine (ys4 25 (v := .int (nI i)) rfl rfl rfl rfl).trans ?_
  refine (ys4 26 (v := .ref 81) rfl rfl rfl rfl).trans ?_
  refine (ys28 27 (x := nI N) rfl (zSP_al hS) rfl rfl).trans ?_
  refine (ys1 29 (x := 6) rfl rfl rfl).trans ?_
  refine (ys7_1 30 rfl rfl).trans ?_
  refine ys18_4 33 rfl rfl (fun h => absurd ((law_gt N i hN (by omega)).mp h) (by omega)) (fun h => ?_)
  refine (ys4 34 (v := .ref 81) rfl rfl rfl rfl).trans ?_
  refine (ys4 36 (v := .int (nI i)) rfl rfl rfl rfl).trans ?_
  refine (ylx 37 (N := N) rfl (j := i) rfl (Or.inr hS.1) hS.2.1 (by omega) hS.2.2.1 rfl (hS.2.2.2 i (by omega))).trans ?_
  refine (ys1 39 (x := 31) rfl rfl rfl).trans ?_
  refine (ys7_3 40 rfl rfl).trans ?_
  rw [hv]
  exact ys21k _ rfl (law_tab j hj)
set_option maxRecDepth 20000 in
theorem law_end {μ : zM} {I : zFn} {c sl i N x m o : Nat} {xs : Nat → Int32} (hS : zSP μ I N xs) (hN : N < 2 ^ 30) (hi : i < 2 ^ 30) (h6 : N < i + 6) : zden1 12 (zden zcds 12) zc232 (23, [(4, .int (nI i)), (3, .ref (o)), (2, .ref (m)), (1, .ref (x)), (0, .ref (81))], [], c, sl, zwi μ I) = some (0, some (.int 1), c, sl, zwi μ I) := by
  refine (ys4 25 (v := .int (nI i)) rfl rfl rfl rfl).trans ?_
  refine (ys4 26 (v := .ref 81) rfl rfl rfl rfl).trans ?_
  refine (ys28 27 (x := nI N) rfl (zSP_al hS) rfl rfl).trans ?_
  refine (ys1 29 (x := 6) rfl rfl rfl).trans ?_
  refine (ys7_1 30 rfl rfl).trans ?_
  refine ys18_4 33 rfl rfl (fun h => ?_) (fun h => absurd ((law_gt N i hN hi).mpr h6) h)
  refine (ys1 1233 (x := 1) rfl rfl rfl).trans ?_
  exact ys36 rfl (by decide)

