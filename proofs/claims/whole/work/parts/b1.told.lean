/-! THE REFERENCE: rows told, means, feed -/
theorem c_mlo_r2 {d : Nat} {x t s q : Nat} {X S A T J : zFn} {μ : zM} (hM : zMC μ x t s q J T) {nl np nh nk : Nat} (hN : zTN T nl np nh nk) {l : Nat} {w : Int32} (hl : l < nl) (h : rin w 0 7 = 0) : zden zcds (d + 3) 163 [.ref (x + 0), .int (nI l), .int (w)] (zwi μ (zfl (zfl (zfl J x 6 X) s 22 S) q 22 A)) = some (0, some (.int 0), 0, 0, zwi μ (zfl (zfl (zfl J x 6 (zup (zup X 0 0 0) 0 0 1)) s 22 S) q 22 A)) := by
  refine (zd_in (d := d + 2) (cd := zc163) (nL := 3) (L := [(0, .ref (x + 0)), (1, .int (nI l)), (2, .int (w))]) rfl (Nat.le_of_ble_eq_true rfl) rfl).trans ?_
  refine (ys4 1 (v := .ref (x + 0)) rfl rfl rfl rfl).trans ?_
  refine (ys1 2 (x := 0) rfl rfl rfl).trans ?_
  refine (yq 5 rfl (zFS.tag hM.1.1 (j := 0) (by decide) rfl) (zFS.k0 hM.1.1 (j := 0)) (zFS.ni hM.1.1 (j := 0) (by decide) rfl) (by decide) rfl (zx3_up hM (j := 0) (by decide))).trans ?_
  generalize hX1 : zup X 0 0 (0) = X1
  refine (ys4 6 (v := .ref (x + 0)) rfl rfl rfl rfl).trans ?_
  refine (ys4 7 (v := .int (nI l)) rfl rfl rfl rfl).trans ?_
  refine (yc2 10 rfl rfl (Nat.le_of_ble_eq_true rfl) (Or.inr (by show ztg (zwi _ _) _ = _; rw [ztg_wi]; exact (zFS.tag hM.1.1 (j := 0) (by decide) rfl))) rfl rfl (c_isL hM)).trans ?_
  rw [show (rin (nI l) 0 (T 0 0 - 1)) = 1 from (by rw [hN.1]; exact rin_1 (by have := hN.2.1; omega) rfl hl)]
  refine ys17_0 13 rfl rfl (fun h10 => absurd h10 (by decide)) (fun h10 => ?_)
  refine (ys4 14 (v := .int (w)) rfl rfl rfl rfl).trans ?_
  refine (ys1 15 (x := 0) rfl rfl rfl).trans ?_
  refine (ys1 17 (x := 7) rfl rfl rfl).trans ?_
  refine (yc3 20 rfl rfl (Nat.le_of_ble_eq_true rfl) (Or.inl rfl) rfl rfl c_rin).trans ?_
  rw [show (rin w 0 7) = 0 from h]
  refine ys17_0 23 rfl rfl (fun h20 => ?_) (fun h20 => absurd (by decide) h20)
  refine (ys4 33 (v := .ref (x + 0)) rfl rfl rfl rfl).trans ?_
  refine (ys1 34 (x := 1) rfl rfl rfl).trans ?_
  refine (yc2 37 rfl rfl (Nat.le_of_ble_eq_true rfl) (Or.inr (by show ztg (zwi _ _) _ = _; rw [ztg_wi]; exact (zFS.tag hM.1.1 (j := 0) (by decide) rfl))) rfl rfl (c_nox hM)).trans ?_
  generalize hX2 : zup X1 0 0 (1) = X2
  refine (ys36 rfl rfl).trans ?_
  subst hX2 hX1; rfl

theorem c_mlo {d : Nat} {x t s q : Nat} {X S A T J : zFn} {μ : zM} (hM : zMC μ x t s q J T) {nl np nh nk : Nat} (hN : zTN T nl np nh nk) (hI : zIN T S) {l : Nat} (hl : l < nl) {v : Nat} (hv : v < 8) : zden zcds (d + 8) 163 [.ref (x + 0), .int (nI l), .int (nI v)] (zwi μ (zfl (zfl (zfl J x 6 X) s 22 S) q 22 A)) = some (0, some (.int ((mlo S T l np nk) v)), 1, 8, zwi (μ ++ [zR8]) (zfl (zfl (zfl (zgb J μ.length (mlo S T l np nk)) x 6 (zup X 0 0 0)) s 22 S) q 22 A)) := by
  refine (zd_in (d := d + 7) (cd := zc163) (nL := 3) (L := [(0, .ref (x + 0)), (1, .int (nI l)), (2, .int (nI v))]) rfl (Nat.le_of_ble_eq_true rfl) rfl).trans ?_
  refine (ys4 1 (v := .ref (x + 0)) rfl rfl rfl rfl).trans ?_
  refine (ys1 2 (x := 0) rfl rfl rfl).trans ?_
  refine (yq 5 rfl (zFS.tag hM.1.1 (j := 0) (by decide) rfl) (zFS.k0 hM.1.1 (j := 0)) (zFS.ni hM.1.1 (j := 0) (by decide) rfl) (by decide) rfl (zx3_up hM (j := 0) (by decide))).trans ?_
  generalize hX1 : zup X 0 0 (0) = X1
  refine (ys4 6 (v := .ref (x + 0)) rfl rfl rfl rfl).trans ?_
  refine (ys4 7 (v := .int (nI l)) rfl rfl rfl rfl).trans ?_
  refine (yc2 10 rfl rfl (Nat.le_of_ble_eq_true rfl) (Or.inr (by show ztg (zwi _ _) _ = _; rw [ztg_wi]; exact (zFS.tag hM.1.1 (j := 0) (by decide) rfl))) rfl rfl (c_isL hM)).trans ?_
  rw [show (rin (nI l) 0 (T 0 0 - 1)) = 1 from (by rw [hN.1]; exact rin_1 (by have := hN.2.1; omega) rfl hl)]
  refine ys17_0 13 rfl rfl (fun h10 => absurd h10 (by decide)) (fun h10 => ?_)
  refine (ys4 14 (v := .int (nI v)) rfl rfl rfl rfl).trans ?_
  refine (ys1 15 (x := 0) rfl rfl rfl).trans ?_
  refine (ys1 17 (x := 7) rfl rfl rfl).trans ?_
  refine (yc3 20 rfl rfl (Nat.le_of_ble_eq_true rfl) (Or.inl rfl) rfl rfl c_rin).trans ?_
  rw [show (rin (nI v) 0 7) = 1 from (by have := rin_ok (m := 7) (by decide) (show v ≤ 7 by omega); exact this)]
  refine ys17_0 23 rfl rfl (fun h20 => absurd h20 (by decide)) (fun h20 => ?_)
  refine (ys4 24 (v := .ref (x + 0)) rfl rfl rfl rfl).trans ?_
  refine (ys4 25 (v := .int (nI l)) rfl rfl rfl rfl).trans ?_
  refine (ys4 26 (v := .int (nI v)) rfl rfl rfl rfl).trans ?_
  refine (yc3 29 rfl rfl (Nat.le_of_ble_eq_true rfl) (Or.inr (by show ztg (zwi _ _) _ = _; rw [ztg_wi]; exact (zFS.tag hM.1.1 (j := 0) (by decide) rfl))) rfl rfl (c_mlt2 hM hN (by have := hN.2.1; omega) hv)).trans ?_
  refine (ys19 rfl).trans ?_
  refine (ys36 rfl rfl).trans ?_
  subst hX1; rfl

theorem c_mpi_r2 {d : Nat} {x t s q : Nat} {X S A T J : zFn} {μ : zM} (hM : zMC μ x t s q J T) {nl np nh nk : Nat} (hN : zTN T nl np nh nk) {p : Nat} {w : Int32} (hp : p < np) (h : rin w 0 7 = 0) : zden zcds (d + 3) 165 [.ref (x + 0), .int (nI p), .int (w)] (zwi μ (zfl (zfl (zfl J x 6 X) s 22 S) q 22 A)) = some (0, some (.int 0), 0, 0, zwi μ (zfl (zfl (zfl J x 6 (zup (zup X 0 0 0) 0 0 1)) s 22 S) q 22 A)) := by
  refine (zd_in (d := d + 2) (cd := zc165) (nL := 3) (L := [(0, .ref (x + 0)), (1, .int (nI p)), (2, .int (w))]) rfl (Nat.le_of_ble_eq_true rfl) rfl).trans ?_
  refine (ys4 1 (v := .ref (x + 0)) rfl rfl rfl rfl).trans ?_
  refine (ys1 2 (x := 0) rfl rfl rfl).trans ?_
  refine (yq 5 rfl (zFS.tag hM.1.1 (j := 0) (by decide) rfl) (zFS.k0 hM.1.1 (j := 0)) (zFS.ni hM.1.1 (j := 0) (by decide) rfl) (by decide) rfl (zx3_up hM (j := 0) (by decide))).trans ?_
  generalize hX1 : zup X 0 0 (0) = X1
  refine (ys4 6 (v := .ref (x + 0)) rfl rfl rfl rfl).trans ?_
  refine (ys4 7 (v := .int (nI p)) rfl rfl rfl rfl).trans ?_
  refine (yc2 10 rfl rfl (Nat.le_of_ble_eq_true rfl) (Or.inr (by show ztg (zwi _ _) _ = _; rw [ztg_wi]; exact (zFS.tag hM.1.1 (j := 0) (by decide) rfl))) rfl rfl (c_isP hM)).trans ?_
  rw [show (rin (nI p) 0 (T 0 1 - 1)) = 1 from (by rw [hN.2.2.1]; exact rin_1 (by have := hN.2.2.2.1; omega) rfl hp)]
  refine ys17_0 13 rfl rfl (fun h10 => absurd h10 (by decide)) (fun h10 => ?_)
  refine (ys4 14 (v := .int (w)) rfl rfl rfl rfl).trans ?_
  refine (ys1 15 (x := 0) rfl rfl rfl).trans ?_
  refine (ys1 17 (x := 7) rfl rfl rfl).trans ?_
  refine (yc3 20 rfl rfl (Nat.le_of_ble_eq_true rfl) (Or.inl rfl) rfl rfl c_rin).trans ?_
  rw [show (rin w 0 7) = 0 from h]
  refine ys17_0 23 rfl rfl (fun h20 => ?_) (fun h20 => absurd (by decide) h20)
  refine (ys4 33 (v := .ref (x + 0)) rfl rfl rfl rfl).trans ?_
  refine (ys1 34 (x := 1) rfl rfl rfl).trans ?_
  refine (yc2 37 rfl rfl (Nat.le_of_ble_eq_true rfl) (Or.inr (by show ztg (zwi _ _) _ = _; rw [ztg_wi]; exact (zFS.tag hM.1.1 (j := 0) (by decide) rfl))) rfl rfl (c_nox hM)).trans ?_
  generalize hX2 : zup X1 0 0 (1) = X2
  refine (ys36 rfl rfl).trans ?_
  subst hX2 hX1; rfl

theorem c_mpi {d : Nat} {x t s q : Nat} {X S A T J : zFn} {μ : zM} (hM : zMC μ x t s q J T) {nl np nh nk : Nat} (hN : zTN T nl np nh nk) (hI : zIN T S) {p : Nat} (hp : p < np) {v : Nat} (hv : v < 8) : zden zcds (d + 8) 165 [.ref (x + 0), .int (nI p), .int (nI v)] (zwi μ (zfl (zfl (zfl J x 6 X) s 22 S) q 22 A)) = some (0, some (.int ((mpt S T p) v)), 1, 8, zwi (μ ++ [zR8]) (zfl (zfl (zfl (zgb J μ.length (mpt S T p)) x 6 (zup X 0 0 0)) s 22 S) q 22 A)) := by
  refine (zd_in (d := d + 7) (cd := zc165) (nL := 3) (L := [(0, .ref (x + 0)), (1, .int (nI p)), (2, .int (nI v))]) rfl (Nat.le_of_ble_eq_true rfl) rfl).trans ?_
  refine (ys4 1 (v := .ref (x + 0)) rfl rfl rfl rfl).trans ?_
  refine (ys1 2 (x := 0) rfl rfl rfl).trans ?_
  refine (yq 5 rfl (zFS.tag hM.1.1 (j := 0) (by decide) rfl) (zFS.k0 hM.1.1 (j := 0)) (zFS.ni hM.1.1 (j := 0) (by decide) rfl) (by decide) rfl (zx3_up hM (j := 0) (by decide))).trans ?_
  generalize hX1 : zup X 0 0 (0) = X1
  refine (ys4 6 (v := .ref (x + 0)) rfl rfl rfl rfl).trans ?_
  refine (ys4 7 (v := .int (nI p)) rfl rfl rfl rfl).trans ?_
  refine (yc2 10 rfl rfl (Nat.le_of_ble_eq_true rfl) (Or.inr (by show ztg (zwi _ _) _ = _; rw [ztg_wi]; exact (zFS.tag hM.1.1 (j := 0) (by decide) rfl))) rfl rfl (c_isP hM)).trans ?_
  rw [show (rin (nI p) 0 (T 0 1 - 1)) = 1 from (by rw [hN.2.2.1]; exact rin_1 (by have := hN.2.2.2.1; omega) rfl hp)]
  refine ys17_0 13 rfl rfl (fun h10 => absurd h10 (by decide)) (fun h10 => ?_)
  refine (ys4 14 (v := .int (nI v)) rfl rfl rfl rfl).trans ?_
  refine (ys1 15 (x := 0) rfl rfl rfl).trans ?_
  refine (ys1 17 (x := 7) rfl rfl rfl).trans ?_
  refine (yc3 20 rfl rfl (Nat.le_of_ble_eq_true rfl) (Or.inl rfl) rfl rfl c_rin).trans ?_
  rw [show (rin (nI v) 0 7) = 1 from (by have := rin_ok (m := 7) (by decide) (show v ≤ 7 by omega); exact this)]
  refine ys17_0 23 rfl rfl (fun h20 => absurd h20 (by decide)) (fun h20 => ?_)
  refine (ys4 24 (v := .ref (x + 0)) rfl rfl rfl rfl).trans ?_
  refine (ys4 25 (v := .int (nI p)) rfl rfl rfl rfl).trans ?_
  refine (ys4 26 (v := .int (nI v)) rfl rfl rfl rfl).trans ?_
  refine (yc3 29 rfl rfl (Nat.le_of_ble_eq_true rfl) (Or.inr (by show ztg (zwi _ _) _ = _; rw [ztg_wi]; exact (zFS.tag hM.1.1 (j := 0) (by decide) rfl))) rfl rfl (c_mpt hM hI (by have := hN.2.2.2.1; omega) hv)).trans ?_
  refine (ys19 rfl).trans ?_
  refine (ys36 rfl rfl).trans ?_
  subst hX1; rfl

theorem c_mle_r2 {d : Nat} {x t s q : Nat} {X S A T J : zFn} {μ : zM} (hM : zMC μ x t s q J T) {nl np nh nk : Nat} (hN : zTN T nl np nh nk) {k : Nat} {w : Int32} (hk : k < nk) (h : rin w 0 7 = 0) : zden zcds (d + 3) 169 [.ref (x + 0), .int (nI k), .int (w)] (zwi μ (zfl (zfl (zfl J x 6 X) s 22 S) q 22 A)) = some (0, some (.int 0), 0, 0, zwi μ (zfl (zfl (zfl J x 6 (zup (zup X 0 0 0) 0 0 1)) s 22 S) q 22 A)) := by
  refine (zd_in (d := d + 2) (cd := zc169) (nL := 3) (L := [(0, .ref (x + 0)), (1, .int (nI k)), (2, .int (w))]) rfl (Nat.le_of_ble_eq_true rfl) rfl).trans ?_
  refine (ys4 1 (v := .ref (x + 0)) rfl rfl rfl rfl).trans ?_
  refine (ys1 2 (x := 0) rfl rfl rfl).trans ?_
  refine (yq 5 rfl (zFS.tag hM.1.1 (j := 0) (by decide) rfl) (zFS.k0 hM.1.1 (j := 0)) (zFS.ni hM.1.1 (j := 0) (by decide) rfl) (by decide) rfl (zx3_up hM (j := 0) (by decide))).trans ?_
  generalize hX1 : zup X 0 0 (0) = X1
  refine (ys4 6 (v := .ref (x + 0)) rfl rfl rfl rfl).trans ?_
  refine (ys4 7 (v := .int (nI k)) rfl rfl rfl rfl).trans ?_
  refine (yc2 10 rfl rfl (Nat.le_of_ble_eq_true rfl) (Or.inr (by show ztg (zwi _ _) _ = _; rw [ztg_wi]; exact (zFS.tag hM.1.1 (j := 0) (by decide) rfl))) rfl rfl (c_isK hM)).trans ?_
  rw [show (rin (nI k) 0 (T 0 3 - 1)) = 1 from (by rw [hN.2.2.2.2.2.2.1]; exact rin_1 (by have := hN.2.2.2.2.2.2.2; omega) rfl hk)]
  refine ys17_0 13 rfl rfl (fun h10 => absurd h10 (by decide)) (fun h10 => ?_)
  refine (ys4 14 (v := .int (w)) rfl rfl rfl rfl).trans ?_
  refine (ys1 15 (x := 0) rfl rfl rfl).trans ?_
  refine (ys1 17 (x := 7) rfl rfl rfl).trans ?_
  refine (yc3 20 rfl rfl (Nat.le_of_ble_eq_true rfl) (Or.inl rfl) rfl rfl c_rin).trans ?_
  rw [show (rin w 0 7) = 0 from h]
  refine ys17_0 23 rfl rfl (fun h20 => ?_) (fun h20 => absurd (by decide) h20)
  refine (ys4 33 (v := .ref (x + 0)) rfl rfl rfl rfl).trans ?_
  refine (ys1 34 (x := 1) rfl rfl rfl).trans ?_
  refine (yc2 37 rfl rfl (Nat.le_of_ble_eq_true rfl) (Or.inr (by show ztg (zwi _ _) _ = _; rw [ztg_wi]; exact (zFS.tag hM.1.1 (j := 0) (by decide) rfl))) rfl rfl (c_nox hM)).trans ?_
  generalize hX2 : zup X1 0 0 (1) = X2
  refine (ys36 rfl rfl).trans ?_
  subst hX2 hX1; rfl

theorem c_mle {d : Nat} {x t s q : Nat} {X S A T J : zFn} {μ : zM} (hM : zMC μ x t s q J T) {nl np nh nk : Nat} (hN : zTN T nl np nh nk) (hI : zIN T S) {k : Nat} (hk : k < nk) {v : Nat} (hv : v < 8) : zden zcds (d + 8) 169 [.ref (x + 0), .int (nI k), .int (nI v)] (zwi μ (zfl (zfl (zfl J x 6 X) s 22 S) q 22 A)) = some (0, some (.int ((mlt S T k np) v)), 1, 8, zwi (μ ++ [zR8]) (zfl (zfl (zfl (zgb J μ.length (mlt S T k np)) x 6 (zup X 0 0 0)) s 22 S) q 22 A)) := by
  refine (zd_in (d := d + 7) (cd := zc169) (nL := 3) (L := [(0, .ref (x + 0)), (1, .int (nI k)), (2, .int (nI v))]) rfl (Nat.le_of_ble_eq_true rfl) rfl).trans ?_
  refine (ys4 1 (v := .ref (x + 0)) rfl rfl rfl rfl).trans ?_
  refine (ys1 2 (x := 0) rfl rfl rfl).trans ?_
  refine (yq 5 rfl (zFS.tag hM.1.1 (j := 0) (by decide) rfl) (zFS.k0 hM.1.1 (j := 0)) (zFS.ni hM.1.1 (j := 0) (by decide) rfl) (by decide) rfl (zx3_up hM (j := 0) (by decide))).trans ?_
  generalize hX1 : zup X 0 0 (0) = X1
  refine (ys4 6 (v := .ref (x + 0)) rfl rfl rfl rfl).trans ?_
  refine (ys4 7 (v := .int (nI k)) rfl rfl rfl rfl).trans ?_
  refine (yc2 10 rfl rfl (Nat.le_of_ble_eq_true rfl) (Or.inr (by show ztg (zwi _ _) _ = _; rw [ztg_wi]; exact (zFS.tag hM.1.1 (j := 0) (by decide) rfl))) rfl rfl (c_isK hM)).trans ?_
  rw [show (rin (nI k) 0 (T 0 3 - 1)) = 1 from (by rw [hN.2.2.2.2.2.2.1]; exact rin_1 (by have := hN.2.2.2.2.2.2.2; omega) rfl hk)]
  refine ys17_0 13 rfl rfl (fun h10 => absurd h10 (by decide)) (fun h10 => ?_)
  refine (ys4 14 (v := .int (nI v)) rfl rfl rfl rfl).trans ?_
  refine (ys1 15 (x := 0) rfl rfl rfl).trans ?_
  refine (ys1 17 (x := 7) rfl rfl rfl).trans ?_
  refine (yc3 20 rfl rfl (Nat.le_of_ble_eq_true rfl) (Or.inl rfl) rfl rfl c_rin).trans ?_
  rw [show (rin (nI v) 0 7) = 1 from (by have := rin_ok (m := 7) (by decide) (show v ≤ 7 by omega); exact this)]
  refine ys17_0 23 rfl rfl (fun h20 => absurd h20 (by decide)) (fun h20 => ?_)
  refine (ys4 24 (v := .ref (x + 0)) rfl rfl rfl rfl).trans ?_
  refine (ys4 25 (v := .int (nI k)) rfl rfl rfl rfl).trans ?_
  refine (ys4 26 (v := .int (nI v)) rfl rfl rfl rfl).trans ?_
  refine (yc3 29 rfl rfl (Nat.le_of_ble_eq_true rfl) (Or.inr (by show ztg (zwi _ _) _ = _; rw [ztg_wi]; exact (zFS.tag hM.1.1 (j := 0) (by decide) rfl))) rfl rfl (c_mlt hM hN hI (by have := hN.2.2.2.2.2.2.2; omega) hv)).trans ?_
  refine (ys19 rfl).trans ?_
  refine (ys36 rfl rfl).trans ?_
  subst hX1; rfl

def mthr (X : zFn) : Int32 :=
  (X 0 0)

theorem c_thr {d : Nat} {x t s q : Nat} {X S A T J : zFn} {μ : zM} (hM : zMC μ x t s q J T) : zden zcds (d + 1) 124 [.ref (x + 0)] (zwi μ (zfl (zfl (zfl J x 6 X) s 22 S) q 22 A)) = some (0, some (.int ((mthr X))), 0, 0, zwi μ (zfl (zfl (zfl J x 6 X) s 22 S) q 22 A)) := by
  refine (zd_in (d := d + 0) (cd := zc124) (nL := 1) (L := [(0, .ref (x + 0))]) rfl (Nat.le_of_ble_eq_true rfl) rfl).trans ?_
  refine (ys4 1 (v := .ref (x + 0)) rfl rfl rfl rfl).trans ?_
  refine (yg 4 rfl (zFS.tag hM.1.1 (j := 0) (by decide) rfl) (zFS.ni hM.1.1 (j := 0) (by decide) rfl) (by decide) rfl (zx3_at hM (j := 0) (by decide))).trans ?_
  refine (ys36 rfl rfl).trans ?_
  rw [show mthr X = (X 0 0) from by unfold mthr; (try dsimp only); first | done | rfl]; (first | done | rfl)

