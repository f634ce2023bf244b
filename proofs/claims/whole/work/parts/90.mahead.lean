/-! THE REFERENCE: brought, lured, hours, looking ahead -/
def mbr (X : zFn) (S : zFn) (p : Nat) (l : Nat) : Int32 × zFn × zFn :=
  let X1 := zup X 0 0 (0)
  if (S 4 p) = 0 then
    let S2 := zup S 5 p (nI l)
    ((S 5 p), X1, S2)
  else
    let X3 := zup X1 0 0 (2)
    (0, X3, S)

theorem c_mbr {d : Nat} {x t s q : Nat} {X S A T J : zFn} {μ : zM} (hM : zMC μ x t s q J T) {nl np nh nk : Nat} (hN : zTN T nl np nh nk) {p l : Nat} (hp : p < np) (hl : l < nl) : zden zcds (d + 3) 170 [.ref (x + 0), .int (nI p), .int (nI l)] (zwi μ (zfl (zfl (zfl J x 6 X) s 22 S) q 22 A)) = some (0, some (.int ((mbr X S p l).1)), 0, 0, zwi μ (zfl (zfl (zfl J x 6 ((mbr X S p l).2.1)) s 22 ((mbr X S p l).2.2)) q 22 A)) := by
  refine (zd_in (d := d + 2) (cd := zc170) (nL := 4) (L := [(0, .ref (x + 0)), (1, .int (nI p)), (2, .int (nI l))]) rfl (Nat.le_of_ble_eq_true rfl) rfl).trans ?_
  refine (ys4 1 (v := .ref (x + 0)) rfl rfl rfl rfl).trans ?_
  refine (ys1 2 (x := 0) rfl rfl rfl).trans ?_
  refine (yq 5 rfl (zFS.tag hM.1.1 (j := 0) (by decide) rfl) (zFS.k0 hM.1.1 (j := 0)) (zFS.ni hM.1.1 (j := 0) (by decide) rfl) (by decide) rfl (zx3_up hM (j := 0) (by decide))).trans ?_
  generalize hX1 : zup X 0 0 (0) = X1
  refine (ys4 6 (v := .ref (x + 0)) rfl rfl rfl rfl).trans ?_
  refine (ys4 7 (v := .int (nI p)) rfl rfl rfl rfl).trans ?_
  refine (yc2 10 rfl rfl (Nat.le_of_ble_eq_true rfl) (Or.inr (by show ztg (zwi _ _) _ = _; rw [ztg_wi]; exact (zFS.tag hM.1.1 (j := 0) (by decide) rfl))) rfl rfl (c_isP hM)).trans ?_
  rw [show (rin (nI p) 0 (T 0 1 - 1)) = 1 from (by rw [hN.2.2.1]; exact rin_1 (by have := hN.2.2.2.1; omega) rfl hp)]
  refine ys17_0 13 rfl rfl (fun h10 => absurd h10 (by decide)) (fun h10 => ?_)
  refine (ys4 14 (v := .ref (x + 0)) rfl rfl rfl rfl).trans ?_
  refine (ys4 15 (v := .int (nI l)) rfl rfl rfl rfl).trans ?_
  refine (yc2 18 rfl rfl (Nat.le_of_ble_eq_true rfl) (Or.inr (by show ztg (zwi _ _) _ = _; rw [ztg_wi]; exact (zFS.tag hM.1.1 (j := 0) (by decide) rfl))) rfl rfl (c_isL hM)).trans ?_
  rw [show (rin (nI l) 0 (T 0 0 - 1)) = 1 from (by rw [hN.1]; exact rin_1 (by have := hN.2.1; omega) rfl hl)]
  refine ys17_1 21 rfl rfl (fun h18 => absurd h18 (by decide)) (fun h18 => ?_)
  refine (ys4 28 (v := .ref (x + 0)) rfl rfl rfl rfl).trans ?_
  refine (ygr 31 rfl (zFS.tag hM.1.1 (j := 0) (by decide) rfl) rfl hM.2.2.1).trans ?_
  refine (ygr 34 rfl (zFS.tag (hMs hM).1 (j := 0) (by decide) rfl) rfl ((hMs hM).2.1 3 (by decide))).trans ?_
  refine (ys4 35 (v := .int (nI p)) rfl rfl rfl rfl).trans ?_
  refine (ylx 36 (N := 20) rfl (j := p) rfl (Or.inl (zFS.tag (hMs hM).1 (j := 4) (by decide) rfl)) (zFS.ni (hMs hM).1 (j := 4) (by decide) rfl) (by have := hN.2.2.2.1; omega) (by decide) rfl (zs3_at hM (j := 4) (by decide))).trans ?_
  refine ys17_0 39 rfl rfl (fun h36 => ?_) (fun h36 => ?_)
  · refine (ys4 46 (v := .ref (x + 0)) rfl rfl rfl rfl).trans ?_
    refine (ygr 49 rfl (zFS.tag hM.1.1 (j := 0) (by decide) rfl) rfl hM.2.2.1).trans ?_
    refine (ygr 52 rfl (zFS.tag (hMs hM).1 (j := 0) (by decide) rfl) rfl ((hMs hM).2.1 4 (by decide))).trans ?_
    refine (ys4 53 (v := .int (nI p)) rfl rfl rfl rfl).trans ?_
    refine (ylx 54 (N := 20) rfl (j := p) rfl (Or.inl (zFS.tag (hMs hM).1 (j := 5) (by decide) rfl)) (zFS.ni (hMs hM).1 (j := 5) (by decide) rfl) (by have := hN.2.2.2.1; omega) (by decide) rfl (zs3_at hM (j := 5) (by decide))).trans ?_
    refine (ys5 55 (L2 := [(3, .int ((S 5 p))), (0, .ref (x + 0)), (1, .int (nI p)), (2, .int (nI l))]) rfl rfl rfl rfl).trans ?_
    refine (ys4 56 (v := .ref (x + 0)) rfl rfl rfl rfl).trans ?_
    refine (ygr 59 rfl (zFS.tag hM.1.1 (j := 0) (by decide) rfl) rfl hM.2.2.1).trans ?_
    refine (ygr 62 rfl (zFS.tag (hMs hM).1 (j := 0) (by decide) rfl) rfl ((hMs hM).2.1 4 (by decide))).trans ?_
    refine (ys4 63 (v := .int (nI p)) rfl rfl rfl rfl).trans ?_
    refine (ys4 64 (v := .int (nI l)) rfl rfl rfl rfl).trans ?_
    refine (ywx 65 (N := 20) rfl (j := p) rfl (zFS.tag (hMs hM).1 (j := 5) (by decide) rfl) (zFS.k0 (hMs hM).1 (j := 5)) (zFS.ni (hMs hM).1 (j := 5) (by decide) rfl) (by have := hN.2.2.2.1; omega) (by decide) rfl (zs3_up hM (j := 5) (by decide))).trans ?_
    generalize hS2 : zup S 5 p (nI l) = S2
    refine (ys4 66 (v := .int ((S 5 p))) rfl rfl rfl rfl).trans ?_
    refine (ys36 rfl rfl).trans ?_
    rw [show mbr X S p l = ((S 5 p), X1, S2) from by subst hS2 hX1; unfold mbr; (try dsimp only); rw [if_pos h36]]; (first | done | rfl)
  · refine (ys4 40 (v := .ref (x + 0)) rfl rfl rfl rfl).trans ?_
    refine (ys1 41 (x := 2) rfl rfl rfl).trans ?_
    refine (yc2 44 rfl rfl (Nat.le_of_ble_eq_true rfl) (Or.inr (by show ztg (zwi _ _) _ = _; rw [ztg_wi]; exact (zFS.tag hM.1.1 (j := 0) (by decide) rfl))) rfl rfl (c_nox hM)).trans ?_
    generalize hX3 : zup X1 0 0 (2) = X3
    refine (ys36 rfl rfl).trans ?_
    rw [show mbr X S p l = (0, X3, S) from by subst hX3 hX1; unfold mbr; (try dsimp only); rw [if_neg h36]]; (first | done | rfl)

theorem c_mbr_r2 {d : Nat} {x t s q : Nat} {X S A T J : zFn} {μ : zM} (hM : zMC μ x t s q J T) {nl np nh nk : Nat} (hN : zTN T nl np nh nk) {p : Nat} {v : Int32} (hp : p < np) (h : rin v 0 (T 0 0 - 1) = 0) : zden zcds (d + 3) 170 [.ref (x + 0), .int (nI p), .int (v)] (zwi μ (zfl (zfl (zfl J x 6 X) s 22 S) q 22 A)) = some (0, some (.int 0), 0, 0, zwi μ (zfl (zfl (zfl J x 6 (zup (zup X 0 0 0) 0 0 1)) s 22 S) q 22 A)) := by
  refine (zd_in (d := d + 2) (cd := zc170) (nL := 4) (L := [(0, .ref (x + 0)), (1, .int (nI p)), (2, .int (v))]) rfl (Nat.le_of_ble_eq_true rfl) rfl).trans ?_
  refine (ys4 1 (v := .ref (x + 0)) rfl rfl rfl rfl).trans ?_
  refine (ys1 2 (x := 0) rfl rfl rfl).trans ?_
  refine (yq 5 rfl (zFS.tag hM.1.1 (j := 0) (by decide) rfl) (zFS.k0 hM.1.1 (j := 0)) (zFS.ni hM.1.1 (j := 0) (by decide) rfl) (by decide) rfl (zx3_up hM (j := 0) (by decide))).trans ?_
  generalize hX1 : zup X 0 0 (0) = X1
  refine (ys4 6 (v := .ref (x + 0)) rfl rfl rfl rfl).trans ?_
  refine (ys4 7 (v := .int (nI p)) rfl rfl rfl rfl).trans ?_
  refine (yc2 10 rfl rfl (Nat.le_of_ble_eq_true rfl) (Or.inr (by show ztg (zwi _ _) _ = _; rw [ztg_wi]; exact (zFS.tag hM.1.1 (j := 0) (by decide) rfl))) rfl rfl (c_isP hM)).trans ?_
  rw [show (rin (nI p) 0 (T 0 1 - 1)) = 1 from (by rw [hN.2.2.1]; exact rin_1 (by have := hN.2.2.2.1; omega) rfl hp)]
  refine ys17_0 13 rfl rfl (fun h10 => absurd h10 (by decide)) (fun h10 => ?_)
  refine (ys4 14 (v := .ref (x + 0)) rfl rfl rfl rfl).trans ?_
  refine (ys4 15 (v := .int (v)) rfl rfl rfl rfl).trans ?_
  refine (yc2 18 rfl rfl (Nat.le_of_ble_eq_true rfl) (Or.inr (by show ztg (zwi _ _) _ = _; rw [ztg_wi]; exact (zFS.tag hM.1.1 (j := 0) (by decide) rfl))) rfl rfl (c_isL hM)).trans ?_
  rw [show (rin v 0 (T 0 0 - 1)) = 0 from h]
  refine ys17_1 21 rfl rfl (fun h18 => ?_) (fun h18 => absurd (by decide) h18)
  refine (ys4 22 (v := .ref (x + 0)) rfl rfl rfl rfl).trans ?_
  refine (ys1 23 (x := 1) rfl rfl rfl).trans ?_
  refine (yc2 26 rfl rfl (Nat.le_of_ble_eq_true rfl) (Or.inr (by show ztg (zwi _ _) _ = _; rw [ztg_wi]; exact (zFS.tag hM.1.1 (j := 0) (by decide) rfl))) rfl rfl (c_nox hM)).trans ?_
  generalize hX2 : zup X1 0 0 (1) = X2
  refine (ys36 rfl rfl).trans ?_
  subst hX2 hX1; rfl

def mlu (X : zFn) (S : zFn) (h : Nat) (v : Int32) (w : Int32) : Int32 × zFn × zFn :=
  let X1 := zup X 0 0 (0)
  if (rin v 0 63) = 0 then
    let X2 := zup X1 0 0 (2)
    (0, X2, S)
  else
    if (rin w 0 63) = 0 then
      let X3 := zup X1 0 0 (2)
      (0, X3, S)
    else
      let S4 := zup S 13 h (v)
      let S5 := zup S4 14 h (w)
      ((rapt (S 13 h) (S 14 h) v w), X1, S5)

theorem c_mlu {d : Nat} {x t s q : Nat} {X S A T J : zFn} {μ : zM} (hM : zMC μ x t s q J T) {nl np nh nk : Nat} (hN : zTN T nl np nh nk) {h : Nat} (hh : h < nh) {v w : Int32} : zden zcds (d + 3) 171 [.ref (x + 0), .int (nI h), .int (v), .int (w)] (zwi μ (zfl (zfl (zfl J x 6 X) s 22 S) q 22 A)) = some (0, some (.int ((mlu X S h v w).1)), 0, 0, zwi μ (zfl (zfl (zfl J x 6 ((mlu X S h v w).2.1)) s 22 ((mlu X S h v w).2.2)) q 22 A)) := by
  refine (zd_in (d := d + 2) (cd := zc171) (nL := 5) (L := [(0, .ref (x + 0)), (1, .int (nI h)), (2, .int (v)), (3, .int (w))]) rfl (Nat.le_of_ble_eq_true rfl) rfl).trans ?_
  refine (ys4 1 (v := .ref (x + 0)) rfl rfl rfl rfl).trans ?_
  refine (ys1 2 (x := 0) rfl rfl rfl).trans ?_
  refine (yq 5 rfl (zFS.tag hM.1.1 (j := 0) (by decide) rfl) (zFS.k0 hM.1.1 (j := 0)) (zFS.ni hM.1.1 (j := 0) (by decide) rfl) (by decide) rfl (zx3_up hM (j := 0) (by decide))).trans ?_
  generalize hX1 : zup X 0 0 (0) = X1
  refine (ys4 6 (v := .ref (x + 0)) rfl rfl rfl rfl).trans ?_
  refine (ys4 7 (v := .int (nI h)) rfl rfl rfl rfl).trans ?_
  refine (yc2 10 rfl rfl (Nat.le_of_ble_eq_true rfl) (Or.inr (by show ztg (zwi _ _) _ = _; rw [ztg_wi]; exact (zFS.tag hM.1.1 (j := 0) (by decide) rfl))) rfl rfl (c_isH hM)).trans ?_
  rw [show (rin (nI h) 0 (T 0 2 - 1)) = 1 from (by rw [hN.2.2.2.2.1]; exact rin_1 (by have := hN.2.2.2.2.2.1; omega) rfl hh)]
  refine ys17_1 13 rfl rfl (fun h10 => absurd h10 (by decide)) (fun h10 => ?_)
  refine (ys4 20 (v := .int (v)) rfl rfl rfl rfl).trans ?_
  refine (ys1 21 (x := 0) rfl rfl rfl).trans ?_
  refine (ys1 23 (x := 63) rfl rfl rfl).trans ?_
  refine (yc3 26 rfl rfl (Nat.le_of_ble_eq_true rfl) (Or.inl rfl) rfl rfl c_rin).trans ?_
  refine ys17_0 29 rfl rfl (fun h26 => ?_) (fun h26 => ?_)
  · refine (ys4 40 (v := .ref (x + 0)) rfl rfl rfl rfl).trans ?_
    refine (ys1 41 (x := 2) rfl rfl rfl).trans ?_
    refine (yc2 44 rfl rfl (Nat.le_of_ble_eq_true rfl) (Or.inr (by show ztg (zwi _ _) _ = _; rw [ztg_wi]; exact (zFS.tag hM.1.1 (j := 0) (by decide) rfl))) rfl rfl (c_nox hM)).trans ?_
    generalize hX2 : zup X1 0 0 (2) = X2
    refine (ys36 rfl rfl).trans ?_
    rw [show mlu X S h v w = (0, X2, S) from by subst hX2 hX1; unfold mlu; (try dsimp only); rw [if_pos h26]]; (first | done | rfl)
  · refine (ys4 30 (v := .int (w)) rfl rfl rfl rfl).trans ?_
    refine (ys1 31 (x := 0) rfl rfl rfl).trans ?_
    refine (ys1 33 (x := 63) rfl rfl rfl).trans ?_
    refine (yc3 36 rfl rfl (Nat.le_of_ble_eq_true rfl) (Or.inl rfl) rfl rfl c_rin).trans ?_
    refine ys17_1 39 rfl rfl (fun h36 => ?_) (fun h36 => ?_)
    · refine (ys4 40 (v := .ref (x + 0)) rfl rfl rfl rfl).trans ?_
      refine (ys1 41 (x := 2) rfl rfl rfl).trans ?_
      refine (yc2 44 rfl rfl (Nat.le_of_ble_eq_true rfl) (Or.inr (by show ztg (zwi _ _) _ = _; rw [ztg_wi]; exact (zFS.tag hM.1.1 (j := 0) (by decide) rfl))) rfl rfl (c_nox hM)).trans ?_
      generalize hX3 : zup X1 0 0 (2) = X3
      refine (ys36 rfl rfl).trans ?_
      rw [show mlu X S h v w = (0, X3, S) from by subst hX3 hX1; unfold mlu; (try dsimp only); rw [if_neg h26, if_pos h36]]; (first | done | rfl)
    · refine (ys4 46 (v := .ref (x + 0)) rfl rfl rfl rfl).trans ?_
      refine (ygr 49 rfl (zFS.tag hM.1.1 (j := 0) (by decide) rfl) rfl hM.2.2.1).trans ?_
      refine (ygr 52 rfl (zFS.tag (hMs hM).1 (j := 0) (by decide) rfl) rfl ((hMs hM).2.1 12 (by decide))).trans ?_
      refine (ys4 53 (v := .int (nI h)) rfl rfl rfl rfl).trans ?_
      refine (ylx 54 (N := 6) rfl (j := h) rfl (Or.inl (zFS.tag (hMs hM).1 (j := 13) (by decide) rfl)) (zFS.ni (hMs hM).1 (j := 13) (by decide) rfl) (by have := hN.2.2.2.2.2.1; omega) (by decide) rfl (zs3_at hM (j := 13) (by decide))).trans ?_
      refine (ys4 55 (v := .ref (x + 0)) rfl rfl rfl rfl).trans ?_
      refine (ygr 58 rfl (zFS.tag hM.1.1 (j := 0) (by decide) rfl) rfl hM.2.2.1).trans ?_
      refine (ygr 61 rfl (zFS.tag (hMs hM).1 (j := 0) (by decide) rfl) rfl ((hMs hM).2.1 13 (by decide))).trans ?_
      refine (ys4 62 (v := .int (nI h)) rfl rfl rfl rfl).trans ?_
      refine (ylx 63 (N := 6) rfl (j := h) rfl (Or.inl (zFS.tag (hMs hM).1 (j := 14) (by decide) rfl)) (zFS.ni (hMs hM).1 (j := 14) (by decide) rfl) (by have := hN.2.2.2.2.2.1; omega) (by decide) rfl (zs3_at hM (j := 14) (by decide))).trans ?_
      refine (ys4 64 (v := .int (v)) rfl rfl rfl rfl).trans ?_
      refine (ys4 65 (v := .int (w)) rfl rfl rfl rfl).trans ?_
      refine (yc4 68 rfl rfl (Nat.le_of_ble_eq_true rfl) (Or.inl rfl) rfl rfl c_apt).trans ?_
      refine (ys5 70 (L2 := [(4, .int ((rapt (S 13 h) (S 14 h) v w))), (0, .ref (x + 0)), (1, .int (nI h)), (2, .int (v)), (3, .int (w))]) rfl rfl rfl rfl).trans ?_
      refine (ys4 71 (v := .ref (x + 0)) rfl rfl rfl rfl).trans ?_
      refine (ygr 74 rfl (zFS.tag hM.1.1 (j := 0) (by decide) rfl) rfl hM.2.2.1).trans ?_
      refine (ygr 77 rfl (zFS.tag (hMs hM).1 (j := 0) (by decide) rfl) rfl ((hMs hM).2.1 12 (by decide))).trans ?_
      refine (ys4 78 (v := .int (nI h)) rfl rfl rfl rfl).trans ?_
      refine (ys4 79 (v := .int (v)) rfl rfl rfl rfl).trans ?_
      refine (ywx 80 (N := 6) rfl (j := h) rfl (zFS.tag (hMs hM).1 (j := 13) (by decide) rfl) (zFS.k0 (hMs hM).1 (j := 13)) (zFS.ni (hMs hM).1 (j := 13) (by decide) rfl) (by have := hN.2.2.2.2.2.1; omega) (by decide) rfl (zs3_up hM (j := 13) (by decide))).trans ?_
      generalize hS4 : zup S 13 h (v) = S4
      refine (ys4 81 (v := .ref (x + 0)) rfl rfl rfl rfl).trans ?_
      refine (ygr 84 rfl (zFS.tag hM.1.1 (j := 0) (by decide) rfl) rfl hM.2.2.1).trans ?_
      refine (ygr 87 rfl (zFS.tag (hMs hM).1 (j := 0) (by decide) rfl) rfl ((hMs hM).2.1 13 (by decide))).trans ?_
      refine (ys4 88 (v := .int (nI h)) rfl rfl rfl rfl).trans ?_
      refine (ys4 89 (v := .int (w)) rfl rfl rfl rfl).trans ?_
      refine (ywx 90 (N := 6) rfl (j := h) rfl (zFS.tag (hMs hM).1 (j := 14) (by decide) rfl) (zFS.k0 (hMs hM).1 (j := 14)) (zFS.ni (hMs hM).1 (j := 14) (by decide) rfl) (by have := hN.2.2.2.2.2.1; omega) (by decide) rfl (zs3_up hM (j := 14) (by decide))).trans ?_
      generalize hS5 : zup S4 14 h (w) = S5
      refine (ys4 92 (v := .int ((rapt (S 13 h) (S 14 h) v w))) rfl rfl rfl rfl).trans ?_
      refine (ys36 rfl rfl).trans ?_
      rw [show mlu X S h v w = ((rapt (S 13 h) (S 14 h) v w), X1, S5) from by subst hS5 hS4 hX1; unfold mlu; (try dsimp only); rw [if_neg h26, if_neg h36]]; (first | done | rfl)

def mpaL (T : zFn) (nl : Nat) (np : Nat) (nh : Nat) (nk : Nat) : Nat → Nat → zFn → zFn
  | 0, i, S =>
    S
  | m + 1, i, S =>
    let S1 := rpa S T nl np nh nk
    mpaL T nl np nh nk m (i + 1) S1

theorem l_mpa {d c sl : Nat} {rz : zR} {x t s q : Nat} {X A T J : zFn} {μ : zM} (hM : zMC μ x t s q J T) {nl np nh nk : Nat} (hN : zTN T nl np nh nk) {a : Int32} {h : Nat} (hh : h < 2 ^ 31) : ∀ (m i : Nat) (S : zFn), zIN T S → i + m = h → zden1 (d + 7) (zden zcds (d + 7)) zc172 (50, [(3, .int (nI h)), (2, .int (a)), (0, .ref (x + 0)), (1, .int (nI h))], [], c, sl, zwi μ (zfl (zfl (zfl J x 6 X) s 22 ((mpaL T nl np nh nk m i S))) q 22 A)) = some rz → zden1 (d + 7) (zden zcds (d + 7)) zc172 (32, [(3, .int (nI i)), (2, .int (a)), (0, .ref (x + 0)), (1, .int (nI h))], [], c, sl, zwi μ (zfl (zfl (zfl J x 6 X) s 22 S) q 22 A)) = some rz
  | 0, i, S, hI, e, hkk => by
    have ei : h = i := by omega
    subst ei
    refine (ys4 33 (v := .int (nI h)) rfl rfl rfl rfl).trans ?_
    refine (ys4 34 (v := .int (nI h)) rfl rfl rfl rfl).trans ?_
    refine ys18_3 37 rfl rfl (fun h34 => ?_) (fun h34 => absurd (nI_le (by omega) (by omega)) h34)
    rw [show mpaL T nl np nh nk 0 h S = S from by rw [mpaL]; (try dsimp only); first | done | rfl] at hkk; exact hkk
  | m + 1, i, S, hI, e, hkk => by
    refine (ys4 33 (v := .int (nI i)) rfl rfl rfl rfl).trans ?_
    refine (ys4 34 (v := .int (nI h)) rfl rfl rfl rfl).trans ?_
    refine ys18_3 37 rfl rfl (fun h34 => absurd h34 (nI_ge (by omega) (by omega))) (fun h34 => ?_)
    refine (ys4 38 (v := .ref (x + 0)) rfl rfl rfl rfl).trans ?_
    refine (ygr 41 rfl (zFS.tag hM.1.1 (j := 0) (by decide) rfl) rfl hM.2.2.1).trans ?_
    refine (yc1 44 rfl rfl (Nat.le_of_ble_eq_true rfl) (Or.inr (by show ztg (zwi _ _) _ = _; rw [ztg_wi]; exact (zFS.tag (hMs hM).1 (j := 0) (by decide) rfl))) rfl rfl (lsm hM (fun K hC => c_rpa hC hN hI))).trans ?_
    generalize hS1 : rpa S T nl np nh nk = S1
    have hIS1 : zIN T S1 := by rw [← hS1]; exact rpa_I hN hI
    refine (ys6 47 (y := nI (i + 1)) (L2 := [(3, .int (nI (i + 1))), (2, .int (a)), (0, .ref (x + 0)), (1, .int (nI h))]) rfl rfl (nI_1 _) rfl rfl).trans ?_
    refine (ys19 rfl).trans ?_
    rw [show mpaL T nl np nh nk (m + 1) i S = mpaL T nl np nh nk m (i + 1) S1 from by subst hS1; rw [mpaL]; (try dsimp only); first | done | rfl] at hkk; exact l_mpa hM hN hh m (i + 1)  S1  hIS1 (by omega) hkk

def rps (T : zFn) (nl np nh nk : Nat) : Nat → zFn → zFn
  | 0, S => S
  | m + 1, S => rps T nl np nh nk m (rpa S T nl np nh nk)
theorem mpaL_eq (T : zFn) (nl np nh nk : Nat) : ∀ (m i : Nat) (S : zFn), mpaL T nl np nh nk m i S = rps T nl np nh nk m S
  | 0, _, _ => rfl
  | m + 1, i, S => by rw [mpaL, rps]; exact mpaL_eq T nl np nh nk m (i + 1) _
theorem rps_I {T : zFn} {nl np nh nk : Nat} (hN : zTN T nl np nh nk) : ∀ (m : Nat) (S : zFn), zIN T S → zIN T (rps T nl np nh nk m S)
  | 0, _, h => h
  | m + 1, S, h => rps_I hN m _ (rpa_I hN h)
theorem rin_h {h lo hi : Nat} (h1 : lo ≤ h) (h2 : h ≤ hi) (h3 : hi < 2 ^ 31) : rin (nI h) (nI lo) (nI hi) = 1 := by
  unfold rin
  have k1 : nI lo ≤ nI h := nI_le h1 (by omega)
  have k2 : nI h ≤ nI hi := nI_le h2 h3
  first
    | rw [if_pos k1, if_pos k2]
    | rw [if_neg (i_nlt k1), if_pos k2]
    | rw [if_neg (i_nlt k1), if_neg (i_nlt k2)]

def mpa (X : zFn) (S : zFn) (T : zFn) (nl : Nat) (np : Nat) (nh : Nat) (nk : Nat) (h : Nat) : Int32 × zFn × zFn :=
  let X1 := zup X 0 0 (0)
  let S2 := mpaL T nl np nh nk h 0 S
  (((rarL S2 T nk 0 0) - (rarL S T nk 0 0)), X1, S2)

theorem c_mpa {d : Nat} {x t s q : Nat} {X S A T J : zFn} {μ : zM} (hM : zMC μ x t s q J T) {nl np nh nk : Nat} (hN : zTN T nl np nh nk) (hI : zIN T S) {h : Nat} (h1 : 1 ≤ h) (h2 : h ≤ 200) : zden zcds (d + 8) 172 [.ref (x + 0), .int (nI h)] (zwi μ (zfl (zfl (zfl J x 6 X) s 22 S) q 22 A)) = some (0, some (.int ((mpa X S T nl np nh nk h).1)), 0, 0, zwi μ (zfl (zfl (zfl J x 6 ((mpa X S T nl np nh nk h).2.1)) s 22 ((mpa X S T nl np nh nk h).2.2)) q 22 A)) := by
  refine (zd_in (d := d + 7) (cd := zc172) (nL := 4) (L := [(0, .ref (x + 0)), (1, .int (nI h))]) rfl (Nat.le_of_ble_eq_true rfl) rfl).trans ?_
  refine (ys4 1 (v := .ref (x + 0)) rfl rfl rfl rfl).trans ?_
  refine (ys1 2 (x := 0) rfl rfl rfl).trans ?_
  refine (yq 5 rfl (zFS.tag hM.1.1 (j := 0) (by decide) rfl) (zFS.k0 hM.1.1 (j := 0)) (zFS.ni hM.1.1 (j := 0) (by decide) rfl) (by decide) rfl (zx3_up hM (j := 0) (by decide))).trans ?_
  generalize hX1 : zup X 0 0 (0) = X1
  refine (ys4 6 (v := .int (nI h)) rfl rfl rfl rfl).trans ?_
  refine (ys1 7 (x := 1) rfl rfl rfl).trans ?_
  refine (ys1 10 (x := 200) rfl rfl rfl).trans ?_
  refine (yc3 13 rfl rfl (Nat.le_of_ble_eq_true rfl) (Or.inl rfl) rfl rfl c_rin).trans ?_
  rw [show (rin (nI h) 1 200) = 1 from (rin_h (lo := 1) (hi := 200) h1 h2 (by decide))]
  refine ys17_1 16 rfl rfl (fun h13 => absurd h13 (by decide)) (fun h13 => ?_)
  refine (ys4 23 (v := .ref (x + 0)) rfl rfl rfl rfl).trans ?_
  refine (ygr 26 rfl (zFS.tag hM.1.1 (j := 0) (by decide) rfl) rfl hM.2.2.1).trans ?_
  refine (yc1 29 rfl rfl (Nat.le_of_ble_eq_true rfl) (Or.inr (by show ztg (zwi _ _) _ = _; rw [ztg_wi]; exact (zFS.tag (hMs hM).1 (j := 0) (by decide) rfl))) rfl rfl (lsm hM (fun K hC => c_rar hC hN))).trans ?_
  refine (ys5 30 (L2 := [(2, .int ((rarL S T nk 0 0))), (0, .ref (x + 0)), (1, .int (nI h))]) rfl rfl rfl rfl).trans ?_
  refine (ys1 31 (x := nI 0) rfl rfl rfl).trans ?_
  refine (ys5 32 (L2 := [(3, .int (nI 0)), (2, .int ((rarL S T nk 0 0))), (0, .ref (x + 0)), (1, .int (nI h))]) rfl rfl rfl rfl).trans ?_
  refine l_mpa hM hN (by omega) h 0 S hI (by omega) ?_
  generalize hS2 : mpaL T nl np nh nk h 0 S = S2
  have hIS2 : zIN T S2 := by rw [← hS2, mpaL_eq]; exact rps_I hN _ _ hI
  refine (ys4 51 (v := .ref (x + 0)) rfl rfl rfl rfl).trans ?_
  refine (ygr 54 rfl (zFS.tag hM.1.1 (j := 0) (by decide) rfl) rfl hM.2.2.1).trans ?_
  refine (yc1 57 rfl rfl (Nat.le_of_ble_eq_true rfl) (Or.inr (by show ztg (zwi _ _) _ = _; rw [ztg_wi]; exact (zFS.tag (hMs hM).1 (j := 0) (by decide) rfl))) rfl rfl (lsm hM (fun K hC => c_rar hC hN))).trans ?_
  refine (ys4 58 (v := .int ((rarL S T nk 0 0))) rfl rfl rfl rfl).trans ?_
  refine (ys7_1 59 rfl rfl).trans ?_
  refine (ys36 rfl rfl).trans ?_
  rw [show mpa X S T nl np nh nk h = (((rarL S2 T nk 0 0) - (rarL S T nk 0 0)), X1, S2) from by subst hS2 hX1; unfold mpa; (try dsimp only); first | done | rfl]; (first | done | rfl)

theorem c_mpa_r {d : Nat} {x t s q : Nat} {X S A T J : zFn} {μ : zM} (hM : zMC μ x t s q J T) {v : Int32} (h : rin v 1 200 = 0) : zden zcds (d + 3) 172 [.ref (x + 0), .int (v)] (zwi μ (zfl (zfl (zfl J x 6 X) s 22 S) q 22 A)) = some (0, some (.int 0), 0, 0, zwi μ (zfl (zfl (zfl J x 6 (zup (zup X 0 0 0) 0 0 1)) s 22 S) q 22 A)) := by
  refine (zd_in (d := d + 2) (cd := zc172) (nL := 4) (L := [(0, .ref (x + 0)), (1, .int (v))]) rfl (Nat.le_of_ble_eq_true rfl) rfl).trans ?_
  refine (ys4 1 (v := .ref (x + 0)) rfl rfl rfl rfl).trans ?_
  refine (ys1 2 (x := 0) rfl rfl rfl).trans ?_
  refine (yq 5 rfl (zFS.tag hM.1.1 (j := 0) (by decide) rfl) (zFS.k0 hM.1.1 (j := 0)) (zFS.ni hM.1.1 (j := 0) (by decide) rfl) (by decide) rfl (zx3_up hM (j := 0) (by decide))).trans ?_
  generalize hX1 : zup X 0 0 (0) = X1
  refine (ys4 6 (v := .int (v)) rfl rfl rfl rfl).trans ?_
  refine (ys1 7 (x := 1) rfl rfl rfl).trans ?_
  refine (ys1 10 (x := 200) rfl rfl rfl).trans ?_
  refine (yc3 13 rfl rfl (Nat.le_of_ble_eq_true rfl) (Or.inl rfl) rfl rfl c_rin).trans ?_
  rw [show (rin v 1 200) = 0 from h]
  refine ys17_1 16 rfl rfl (fun h13 => ?_) (fun h13 => absurd (by decide) h13)
  refine (ys4 17 (v := .ref (x + 0)) rfl rfl rfl rfl).trans ?_
  refine (ys1 18 (x := 1) rfl rfl rfl).trans ?_
  refine (yc2 21 rfl rfl (Nat.le_of_ble_eq_true rfl) (Or.inr (by show ztg (zwi _ _) _ = _; rw [ztg_wi]; exact (zFS.tag hM.1.1 (j := 0) (by decide) rfl))) rfl rfl (c_nox hM)).trans ?_
  generalize hX2 : zup X1 0 0 (1) = X2
  refine (ys36 rfl rfl).trans ?_
  subst hX2 hX1; rfl

theorem c_mfo_r {d : Nat} {x t s q : Nat} {X S A T J : zFn} {μ : zM} (hM : zMC μ x t s q J T) {v w : Int32} (h : rin v 1 200 = 0) : zden zcds (d + 3) 173 [.ref (x + 0), .int (v), .int (w)] (zwi μ (zfl (zfl (zfl J x 6 X) s 22 S) q 22 A)) = some (0, some (.int 0), 0, 0, zwi μ (zfl (zfl (zfl J x 6 (zup (zup X 0 0 0) 0 0 1)) s 22 S) q 22 A)) := by
  refine (zd_in (d := d + 2) (cd := zc173) (nL := 4) (L := [(0, .ref (x + 0)), (1, .int (v)), (2, .int (w))]) rfl (Nat.le_of_ble_eq_true rfl) rfl).trans ?_
  refine (ys4 1 (v := .ref (x + 0)) rfl rfl rfl rfl).trans ?_
  refine (ys1 2 (x := 0) rfl rfl rfl).trans ?_
  refine (yq 5 rfl (zFS.tag hM.1.1 (j := 0) (by decide) rfl) (zFS.k0 hM.1.1 (j := 0)) (zFS.ni hM.1.1 (j := 0) (by decide) rfl) (by decide) rfl (zx3_up hM (j := 0) (by decide))).trans ?_
  generalize hX1 : zup X 0 0 (0) = X1
  refine (ys4 6 (v := .int (v)) rfl rfl rfl rfl).trans ?_
  refine (ys1 7 (x := 1) rfl rfl rfl).trans ?_
  refine (ys1 10 (x := 200) rfl rfl rfl).trans ?_
  refine (yc3 13 rfl rfl (Nat.le_of_ble_eq_true rfl) (Or.inl rfl) rfl rfl c_rin).trans ?_
  rw [show (rin v 1 200) = 0 from h]
  refine ys17_1 16 rfl rfl (fun h13 => ?_) (fun h13 => absurd (by decide) h13)
  refine (ys4 17 (v := .ref (x + 0)) rfl rfl rfl rfl).trans ?_
  refine (ys1 18 (x := 1) rfl rfl rfl).trans ?_
  refine (yc2 21 rfl rfl (Nat.le_of_ble_eq_true rfl) (Or.inr (by show ztg (zwi _ _) _ = _; rw [ztg_wi]; exact (zFS.tag hM.1.1 (j := 0) (by decide) rfl))) rfl rfl (c_nox hM)).trans ?_
  generalize hX2 : zup X1 0 0 (1) = X2
  refine (ys36 rfl rfl).trans ?_
  subst hX2 hX1; rfl

theorem c_mfo_r2 {d : Nat} {x t s q : Nat} {X S A T J : zFn} {μ : zM} (hM : zMC μ x t s q J T) {h : Nat} (h1 : 1 ≤ h) (h2 : h ≤ 200) {w : Int32} (hz : rin w 0 2 = 0) : zden zcds (d + 3) 173 [.ref (x + 0), .int (nI h), .int (w)] (zwi μ (zfl (zfl (zfl J x 6 X) s 22 S) q 22 A)) = some (0, some (.int 0), 0, 0, zwi μ (zfl (zfl (zfl J x 6 (zup (zup X 0 0 0) 0 0 2)) s 22 S) q 22 A)) := by
  refine (zd_in (d := d + 2) (cd := zc173) (nL := 4) (L := [(0, .ref (x + 0)), (1, .int (nI h)), (2, .int (w))]) rfl (Nat.le_of_ble_eq_true rfl) rfl).trans ?_
  refine (ys4 1 (v := .ref (x + 0)) rfl rfl rfl rfl).trans ?_
  refine (ys1 2 (x := 0) rfl rfl rfl).trans ?_
  refine (yq 5 rfl (zFS.tag hM.1.1 (j := 0) (by decide) rfl) (zFS.k0 hM.1.1 (j := 0)) (zFS.ni hM.1.1 (j := 0) (by decide) rfl) (by decide) rfl (zx3_up hM (j := 0) (by decide))).trans ?_
  generalize hX1 : zup X 0 0 (0) = X1
  refine (ys4 6 (v := .int (nI h)) rfl rfl rfl rfl).trans ?_
  refine (ys1 7 (x := 1) rfl rfl rfl).trans ?_
  refine (ys1 10 (x := 200) rfl rfl rfl).trans ?_
  refine (yc3 13 rfl rfl (Nat.le_of_ble_eq_true rfl) (Or.inl rfl) rfl rfl c_rin).trans ?_
  rw [show (rin (nI h) 1 200) = 1 from (rin_h (lo := 1) (hi := 200) h1 h2 (by decide))]
  refine ys17_1 16 rfl rfl (fun h13 => absurd h13 (by decide)) (fun h13 => ?_)
  refine (ys4 23 (v := .int (w)) rfl rfl rfl rfl).trans ?_
  refine (ys1 24 (x := 0) rfl rfl rfl).trans ?_
  refine (ys1 25 (x := 2) rfl rfl rfl).trans ?_
  refine (yc3 28 rfl rfl (Nat.le_of_ble_eq_true rfl) (Or.inl rfl) rfl rfl c_rin).trans ?_
  rw [show (rin w 0 2) = 0 from hz]
  refine ys17_1 31 rfl rfl (fun h28 => ?_) (fun h28 => absurd (by decide) h28)
  refine (ys4 32 (v := .ref (x + 0)) rfl rfl rfl rfl).trans ?_
  refine (ys1 33 (x := 2) rfl rfl rfl).trans ?_
  refine (yc2 36 rfl rfl (Nat.le_of_ble_eq_true rfl) (Or.inr (by show ztg (zwi _ _) _ = _; rw [ztg_wi]; exact (zFS.tag hM.1.1 (j := 0) (by decide) rfl))) rfl rfl (c_nox hM)).trans ?_
  generalize hX2 : zup X1 0 0 (2) = X2
  refine (ys36 rfl rfl).trans ?_
  subst hX2 hX1; rfl

def mfoL (T : zFn) (nl : Nat) (np : Nat) (nh : Nat) (nk : Nat) : Nat → Nat → zFn → zFn
  | 0, i, A =>
    A
  | m + 1, i, A =>
    let A1 := rpa A T nl np nh nk
    mfoL T nl np nh nk m (i + 1) A1

theorem l_mfo {d c sl : Nat} {rz : zR} {x t s q : Nat} {X S T J : zFn} {μ : zM} (hM : zMC μ x t s q J T) {nl np nh nk : Nat} (hN : zTN T nl np nh nk) {w : Int32} {h : Nat} (hh : h < 2 ^ 31) : ∀ (m i : Nat) (A : zFn), zIN T A → i + m = h → zden1 (d + 7) (zden zcds (d + 7)) zc173 (68, [(3, .int (nI h)), (0, .ref (x + 0)), (1, .int (nI h)), (2, .int (w))], [], c, sl, zwi μ (zfl (zfl (zfl J x 6 X) s 22 S) q 22 ((mfoL T nl np nh nk m i A)))) = some rz → zden1 (d + 7) (zden zcds (d + 7)) zc173 (50, [(3, .int (nI i)), (0, .ref (x + 0)), (1, .int (nI h)), (2, .int (w))], [], c, sl, zwi μ (zfl (zfl (zfl J x 6 X) s 22 S) q 22 A)) = some rz
  | 0, i, A, hIA, e, hkk => by
    have ei : h = i := by omega
    subst ei
    refine (ys4 51 (v := .int (nI h)) rfl rfl rfl rfl).trans ?_
    refine (ys4 52 (v := .int (nI h)) rfl rfl rfl rfl).trans ?_
    refine ys18_3 55 rfl rfl (fun h52 => ?_) (fun h52 => absurd (nI_le (by omega) (by omega)) h52)
    rw [show mfoL T nl np nh nk 0 h A = A from by rw [mfoL]; (try dsimp only); first | done | rfl] at hkk; exact hkk
  | m + 1, i, A, hIA, e, hkk => by
    refine (ys4 51 (v := .int (nI i)) rfl rfl rfl rfl).trans ?_
    refine (ys4 52 (v := .int (nI h)) rfl rfl rfl rfl).trans ?_
    refine ys18_3 55 rfl rfl (fun h52 => absurd h52 (nI_ge (by omega) (by omega))) (fun h52 => ?_)
    refine (ys4 56 (v := .ref (x + 0)) rfl rfl rfl rfl).trans ?_
    refine (ygr 59 rfl (zFS.tag hM.1.1 (j := 0) (by decide) rfl) rfl hM.2.2.2.1).trans ?_
    refine (yc1 62 rfl rfl (Nat.le_of_ble_eq_true rfl) (Or.inr (by show ztg (zwi _ _) _ = _; rw [ztg_wi]; exact (zFS.tag (hMq hM (X := X) (S := S)).1 (j := 0) (by decide) rfl))) rfl rfl (c_rpa (hMq hM) hN hIA)).trans ?_
    generalize hA1 : rpa A T nl np nh nk = A1
    have hIA1 : zIN T A1 := by rw [← hA1]; exact rpa_I hN hIA
    refine (ys6 65 (y := nI (i + 1)) (L2 := [(3, .int (nI (i + 1))), (0, .ref (x + 0)), (1, .int (nI h)), (2, .int (w))]) rfl rfl (nI_1 _) rfl rfl).trans ?_
    refine (ys19 rfl).trans ?_
    rw [show mfoL T nl np nh nk (m + 1) i A = mfoL T nl np nh nk m (i + 1) A1 from by subst hA1; rw [mfoL]; (try dsimp only); first | done | rfl] at hkk; exact l_mfo hM hN hh m (i + 1)  A1  hIA1 (by omega) hkk

theorem mfoL_eq (T : zFn) (nl np nh nk : Nat) : ∀ (m i : Nat) (S : zFn), mfoL T nl np nh nk m i S = rps T nl np nh nk m S
  | 0, _, _ => rfl
  | m + 1, i, S => by rw [mfoL, rps]; exact mfoL_eq T nl np nh nk m (i + 1) _

def mfo (X : zFn) (A : zFn) (S : zFn) (T : zFn) (nl : Nat) (np : Nat) (nh : Nat) (nk : Nat) (h : Nat) (w : Int32) : Int32 × zFn × zFn :=
  let X1 := zup X 0 0 (0)
  let A2 := rbc S
  let A3 := mfoL T nl np nh nk h 0 A2
  if w = 0 then
    ((rarL A3 T nk 0 0), X1, A3)
  else
    if w = 1 then
      ((rlsL A3 T np nk 0 0), X1, A3)
    else
      ((rpgL A3 T 2 np 0 0), X1, A3)

theorem c_mfo {d : Nat} {x t s q : Nat} {X S A T J : zFn} {μ : zM} (hM : zMC μ x t s q J T) {nl np nh nk : Nat} (hN : zTN T nl np nh nk) (hI : zIN T S) {h : Nat} (h1 : 1 ≤ h) (h2 : h ≤ 200) {w : Int32} (hw : rin w 0 2 = 1) : zden zcds (d + 8) 173 [.ref (x + 0), .int (nI h), .int (w)] (zwi μ (zfl (zfl (zfl J x 6 X) s 22 S) q 22 A)) = some (0, some (.int ((mfo X A S T nl np nh nk h w).1)), 0, 0, zwi μ (zfl (zfl (zfl J x 6 ((mfo X A S T nl np nh nk h w).2.1)) s 22 S) q 22 ((mfo X A S T nl np nh nk h w).2.2))) := by
  refine (zd_in (d := d + 7) (cd := zc173) (nL := 4) (L := [(0, .ref (x + 0)), (1, .int (nI h)), (2, .int (w))]) rfl (Nat.le_of_ble_eq_true rfl) rfl).trans ?_
  refine (ys4 1 (v := .ref (x + 0)) rfl rfl rfl rfl).trans ?_
  refine (ys1 2 (x := 0) rfl rfl rfl).trans ?_
  refine (yq 5 rfl (zFS.tag hM.1.1 (j := 0) (by decide) rfl) (zFS.k0 hM.1.1 (j := 0)) (zFS.ni hM.1.1 (j := 0) (by decide) rfl) (by decide) rfl (zx3_up hM (j := 0) (by decide))).trans ?_
  generalize hX1 : zup X 0 0 (0) = X1
  refine (ys4 6 (v := .int (nI h)) rfl rfl rfl rfl).trans ?_
  refine (ys1 7 (x := 1) rfl rfl rfl).trans ?_
  refine (ys1 10 (x := 200) rfl rfl rfl).trans ?_
  refine (yc3 13 rfl rfl (Nat.le_of_ble_eq_true rfl) (Or.inl rfl) rfl rfl c_rin).trans ?_
  rw [show (rin (nI h) 1 200) = 1 from (rin_h (lo := 1) (hi := 200) h1 h2 (by decide))]
  refine ys17_1 16 rfl rfl (fun h13 => absurd h13 (by decide)) (fun h13 => ?_)
  refine (ys4 23 (v := .int (w)) rfl rfl rfl rfl).trans ?_
  refine (ys1 24 (x := 0) rfl rfl rfl).trans ?_
  refine (ys1 25 (x := 2) rfl rfl rfl).trans ?_
  refine (yc3 28 rfl rfl (Nat.le_of_ble_eq_true rfl) (Or.inl rfl) rfl rfl c_rin).trans ?_
  rw [show (rin w 0 2) = 1 from hw]
  refine ys17_1 31 rfl rfl (fun h28 => absurd h28 (by decide)) (fun h28 => ?_)
  refine (ys4 38 (v := .ref (x + 0)) rfl rfl rfl rfl).trans ?_
  refine (ygr 41 rfl (zFS.tag hM.1.1 (j := 0) (by decide) rfl) rfl hM.2.2.2.1).trans ?_
  refine (ys4 42 (v := .ref (x + 0)) rfl rfl rfl rfl).trans ?_
  refine (ygr 45 rfl (zFS.tag hM.1.1 (j := 0) (by decide) rfl) rfl hM.2.2.1).trans ?_
  refine (yc2 48 rfl rfl (Nat.le_of_ble_eq_true rfl) (Or.inr (by show ztg (zwi _ _) _ = _; rw [ztg_wi]; exact (zFS.tag (hMq hM (X := X) (S := S)).1 (j := 0) (by decide) rfl))) rfl rfl (c_bec (hMq hM) (hMo hM))).trans ?_
  generalize hA2 : rbc S = A2
  have hIA2 : zIN T A2 := by rw [← hA2]; exact zIN_bc hI
  refine (ys1 49 (x := nI 0) rfl rfl rfl).trans ?_
  refine (ys5 50 (L2 := [(3, .int (nI 0)), (0, .ref (x + 0)), (1, .int (nI h)), (2, .int (w))]) rfl rfl rfl rfl).trans ?_
  refine l_mfo hM hN (by omega) h 0 A2 hIA2 (by omega) ?_
  generalize hA3 : mfoL T nl np nh nk h 0 A2 = A3
  have hIA3 : zIN T A3 := by rw [← hA3, mfoL_eq]; exact rps_I hN _ _ hIA2
  refine (ys4 69 (v := .int (w)) rfl rfl rfl rfl).trans ?_
  refine ys17_1 72 rfl rfl (fun h69 => ?_) (fun h69 => ?_)
  · refine (ys4 73 (v := .ref (x + 0)) rfl rfl rfl rfl).trans ?_
    refine (ygr 76 rfl (zFS.tag hM.1.1 (j := 0) (by decide) rfl) rfl hM.2.2.2.1).trans ?_
    refine (yc1 79 rfl rfl (Nat.le_of_ble_eq_true rfl) (Or.inr (by show ztg (zwi _ _) _ = _; rw [ztg_wi]; exact (zFS.tag (hMq hM (X := X) (S := S)).1 (j := 0) (by decide) rfl))) rfl rfl (c_rar (hMq hM) hN)).trans ?_
    refine (ys19 rfl).trans ?_
    refine (ys36 rfl rfl).trans ?_
    rw [show mfo X A S T nl np nh nk h w = ((rarL A3 T nk 0 0), X1, A3) from by subst hA3 hA2 hX1; unfold mfo; (try dsimp only); rw [if_pos h69]]; (first | done | rfl)
  · refine (ys4 83 (v := .int (w)) rfl rfl rfl rfl).trans ?_
    refine (ys1 84 (x := 1) rfl rfl rfl).trans ?_
    refine ys18_1 87 rfl rfl (fun h84 => ?_) (fun h84 => ?_)
    · refine (ys4 88 (v := .ref (x + 0)) rfl rfl rfl rfl).trans ?_
      refine (ygr 91 rfl (zFS.tag hM.1.1 (j := 0) (by decide) rfl) rfl hM.2.2.2.1).trans ?_
      refine (yc1 94 rfl rfl (Nat.le_of_ble_eq_true rfl) (Or.inr (by show ztg (zwi _ _) _ = _; rw [ztg_wi]; exact (zFS.tag (hMq hM (X := X) (S := S)).1 (j := 0) (by decide) rfl))) rfl rfl (c_rls (hMq hM) hN hIA3)).trans ?_
      refine (ys19 rfl).trans ?_
      refine (ys36 rfl rfl).trans ?_
      rw [show mfo X A S T nl np nh nk h w = ((rlsL A3 T np nk 0 0), X1, A3) from by subst hA3 hA2 hX1; unfold mfo; (try dsimp only); rw [if_neg h69, if_pos h84]]; (first | done | rfl)
    · refine (ys4 98 (v := .ref (x + 0)) rfl rfl rfl rfl).trans ?_
      refine (ygr 101 rfl (zFS.tag hM.1.1 (j := 0) (by decide) rfl) rfl hM.2.2.2.1).trans ?_
      refine (ys1 102 (x := 2) rfl rfl rfl).trans ?_
      refine (yc2 105 rfl rfl (Nat.le_of_ble_eq_true rfl) (Or.inr (by show ztg (zwi _ _) _ = _; rw [ztg_wi]; exact (zFS.tag (hMq hM (X := X) (S := S)).1 (j := 0) (by decide) rfl))) rfl rfl (c_rpg (hMq hM) hN)).trans ?_
      refine (ys36 rfl rfl).trans ?_
      rw [show mfo X A S T nl np nh nk h w = ((rpgL A3 T 2 np 0 0), X1, A3) from by subst hA3 hA2 hX1; unfold mfo; (try dsimp only); rw [if_neg h69, if_neg h84]]; (first | done | rfl)

def maw (A : zFn) (S : zFn) (T : zFn) (nl : Nat) (np : Nat) (nh : Nat) (nk : Nat) (k : Nat) (v : Int32) : Int32 × zFn :=
  let A1 := rbc S
  let A2 := zup A1 0 2 (v)
  let r3 := ravL T k nl np nh nk 301 0 A2
  (r3.1, r3.2)

theorem c_maw {d : Nat} {x t s q : Nat} {X S A T J : zFn} {μ : zM} (hM : zMC μ x t s q J T) {nl np nh nk : Nat} (hN : zTN T nl np nh nk) (hI : zIN T S) {k : Nat} (hk : k < nk) (hk12 : k < 12) {v : Int32} : zden zcds (d + 9) 174 [.ref (x + 0), .int (nI k), .int (v)] (zwi μ (zfl (zfl (zfl J x 6 X) s 22 S) q 22 A)) = some (0, some (.int ((maw A S T nl np nh nk k v).1)), 0, 0, zwi μ (zfl (zfl (zfl J x 6 X) s 22 S) q 22 ((maw A S T nl np nh nk k v).2))) := by
  refine (zd_in (d := d + 8) (cd := zc174) (nL := 3) (L := [(0, .ref (x + 0)), (1, .int (nI k)), (2, .int (v))]) rfl (Nat.le_of_ble_eq_true rfl) rfl).trans ?_
  refine (ys4 1 (v := .ref (x + 0)) rfl rfl rfl rfl).trans ?_
  refine (ygr 4 rfl (zFS.tag hM.1.1 (j := 0) (by decide) rfl) rfl hM.2.2.2.1).trans ?_
  refine (ys4 5 (v := .ref (x + 0)) rfl rfl rfl rfl).trans ?_
  refine (ygr 8 rfl (zFS.tag hM.1.1 (j := 0) (by decide) rfl) rfl hM.2.2.1).trans ?_
  refine (yc2 11 rfl rfl (Nat.le_of_ble_eq_true rfl) (Or.inr (by show ztg (zwi _ _) _ = _; rw [ztg_wi]; exact (zFS.tag (hMq hM (X := X) (S := S)).1 (j := 0) (by decide) rfl))) rfl rfl (c_bec (hMq hM) (hMo hM))).trans ?_
  generalize hA1 : rbc S = A1
  have hIA1 : zIN T A1 := by rw [← hA1]; exact zIN_bc hI
  refine (ys4 12 (v := .ref (x + 0)) rfl rfl rfl rfl).trans ?_
  refine (ygr 15 rfl (zFS.tag hM.1.1 (j := 0) (by decide) rfl) rfl hM.2.2.2.1).trans ?_
  refine (ys4 16 (v := .int (v)) rfl rfl rfl rfl).trans ?_
  refine (yq 19 rfl (zFS.tag (hMq hM (X := X) (S := S)).1 (j := 0) (by decide) rfl) (zFS.k0 (hMq hM (X := X) (S := S)).1 (j := 0)) (zFS.ni (hMq hM (X := X) (S := S)).1 (j := 0) (by decide) rfl) (by decide) rfl (zfl_up (j := 0) (by decide))).trans ?_
  generalize hA2 : zup A1 0 2 (v) = A2
  have hIA2 : zIN T A2 := by rw [← hA2]; exact zIN_u hIA1 (by decide)
  refine (ys4 20 (v := .ref (x + 0)) rfl rfl rfl rfl).trans ?_
  refine (ygr 23 rfl (zFS.tag hM.1.1 (j := 0) (by decide) rfl) rfl hM.2.2.2.1).trans ?_
  refine (ys4 24 (v := .int (nI k)) rfl rfl rfl rfl).trans ?_
  refine (yc2 27 rfl rfl (Nat.le_of_ble_eq_true rfl) (Or.inr (by show ztg (zwi _ _) _ = _; rw [ztg_wi]; exact (zFS.tag (hMq hM (X := X) (S := S)).1 (j := 0) (by decide) rfl))) rfl rfl (c_rav (hMq hM) hk12 hN hIA2)).trans ?_
  generalize hr3 : ravL T k nl np nh nk 301 0 A2 = r3
  refine (ys36 rfl rfl).trans ?_
  rw [show maw A S T nl np nh nk k v = (r3.1, r3.2) from by subst hr3 hA2 hA1; unfold maw; (try dsimp only); first | done | rfl]; (first | done | rfl)

def mar (X : zFn) (A : zFn) (S : zFn) (T : zFn) (nl : Nat) (np : Nat) (nh : Nat) (nk : Nat) (k : Nat) : Int32 × zFn × zFn :=
  let X1 := zup X 0 0 (0)
  let r2 := maw A S T nl np nh nk k (-1)
  (r2.1, X1, r2.2)

theorem c_mar {d : Nat} {x t s q : Nat} {X S A T J : zFn} {μ : zM} (hM : zMC μ x t s q J T) {nl np nh nk : Nat} (hN : zTN T nl np nh nk) (hI : zIN T S) {k : Nat} (hk : k < nk) (hk12 : k < 12) : zden zcds (d + 10) 175 [.ref (x + 0), .int (nI k)] (zwi μ (zfl (zfl (zfl J x 6 X) s 22 S) q 22 A)) = some (0, some (.int ((mar X A S T nl np nh nk k).1)), 0, 0, zwi μ (zfl (zfl (zfl J x 6 ((mar X A S T nl np nh nk k).2.1)) s 22 S) q 22 ((mar X A S T nl np nh nk k).2.2))) := by
  refine (zd_in (d := d + 9) (cd := zc175) (nL := 2) (L := [(0, .ref (x + 0)), (1, .int (nI k))]) rfl (Nat.le_of_ble_eq_true rfl) rfl).trans ?_
  refine (ys4 1 (v := .ref (x + 0)) rfl rfl rfl rfl).trans ?_
  refine (ys1 2 (x := 0) rfl rfl rfl).trans ?_
  refine (yq 5 rfl (zFS.tag hM.1.1 (j := 0) (by decide) rfl) (zFS.k0 hM.1.1 (j := 0)) (zFS.ni hM.1.1 (j := 0) (by decide) rfl) (by decide) rfl (zx3_up hM (j := 0) (by decide))).trans ?_
  generalize hX1 : zup X 0 0 (0) = X1
  refine (ys4 6 (v := .ref (x + 0)) rfl rfl rfl rfl).trans ?_
  refine (ys4 7 (v := .int (nI k)) rfl rfl rfl rfl).trans ?_
  refine (yc2 10 rfl rfl (Nat.le_of_ble_eq_true rfl) (Or.inr (by show ztg (zwi _ _) _ = _; rw [ztg_wi]; exact (zFS.tag hM.1.1 (j := 0) (by decide) rfl))) rfl rfl (c_isK hM)).trans ?_
  rw [show (rin (nI k) 0 (T 0 3 - 1)) = 1 from (by rw [hN.2.2.2.2.2.2.1]; exact rin_1 (by have := hN.2.2.2.2.2.2.2; omega) rfl hk)]
  refine ys17_0 13 rfl rfl (fun h10 => absurd h10 (by decide)) (fun h10 => ?_)
  refine (ys4 14 (v := .ref (x + 0)) rfl rfl rfl rfl).trans ?_
  refine (ys4 15 (v := .int (nI k)) rfl rfl rfl rfl).trans ?_
  refine (ys1 16 (x := (-1)) rfl rfl rfl).trans ?_
  refine (yc3 19 rfl rfl (Nat.le_of_ble_eq_true rfl) (Or.inr (by show ztg (zwi _ _) _ = _; rw [ztg_wi]; exact (zFS.tag hM.1.1 (j := 0) (by decide) rfl))) rfl rfl (c_maw hM hN hI hk hk12)).trans ?_
  generalize hr2 : maw A S T nl np nh nk k (-1) = r2
  refine (ys19 rfl).trans ?_
  refine (ys36 rfl rfl).trans ?_
  rw [show mar X A S T nl np nh nk k = (r2.1, X1, r2.2) from by subst hr2 hX1; unfold mar; (try dsimp only); first | done | rfl]; (first | done | rfl)

def mwhL (T : zFn) (l : Nat) : Nat → Nat → zFn → zFn
  | 0, i, A =>
    A
  | m + 1, i, A =>
    let A1 := rgl A T l
    mwhL T l m (i + 1) A1

theorem l_mwh {d c sl : Nat} {rz : zR} {x t s q : Nat} {X S T J : zFn} {μ : zM} (hM : zMC μ x t s q J T) {l : Nat} (hl6 : l < 6) {h : Nat} (hh : h < 2 ^ 31) : ∀ (m i : Nat) (A : zFn), zIN T A → i + m = h → zden1 (d + 7) (zden zcds (d + 7)) zc176 (68, [(3, .int (nI h)), (0, .ref (x + 0)), (1, .int (nI l)), (2, .int (nI h))], [], c, sl, zwi μ (zfl (zfl (zfl J x 6 X) s 22 S) q 22 ((mwhL T l m i A)))) = some rz → zden1 (d + 7) (zden zcds (d + 7)) zc176 (49, [(3, .int (nI i)), (0, .ref (x + 0)), (1, .int (nI l)), (2, .int (nI h))], [], c, sl, zwi μ (zfl (zfl (zfl J x 6 X) s 22 S) q 22 A)) = some rz
  | 0, i, A, hIA, e, hkk => by
    have ei : h = i := by omega
    subst ei
    refine (ys4 50 (v := .int (nI h)) rfl rfl rfl rfl).trans ?_
    refine (ys4 51 (v := .int (nI h)) rfl rfl rfl rfl).trans ?_
    refine ys18_3 54 rfl rfl (fun h51 => ?_) (fun h51 => absurd (nI_le (by omega) (by omega)) h51)
    rw [show mwhL T l 0 h A = A from by rw [mwhL]; (try dsimp only); first | done | rfl] at hkk; exact hkk
  | m + 1, i, A, hIA, e, hkk => by
    refine (ys4 50 (v := .int (nI i)) rfl rfl rfl rfl).trans ?_
    refine (ys4 51 (v := .int (nI h)) rfl rfl rfl rfl).trans ?_
    refine ys18_3 54 rfl rfl (fun h51 => absurd h51 (nI_ge (by omega) (by omega))) (fun h51 => ?_)
    refine (ys4 55 (v := .ref (x + 0)) rfl rfl rfl rfl).trans ?_
    refine (ygr 58 rfl (zFS.tag hM.1.1 (j := 0) (by decide) rfl) rfl hM.2.2.2.1).trans ?_
    refine (ys4 59 (v := .int (nI l)) rfl rfl rfl rfl).trans ?_
    refine (yc2 62 rfl rfl (Nat.le_of_ble_eq_true rfl) (Or.inr (by show ztg (zwi _ _) _ = _; rw [ztg_wi]; exact (zFS.tag (hMq hM (X := X) (S := S)).1 (j := 0) (by decide) rfl))) rfl rfl (c_gl (hMq hM) hl6 hIA)).trans ?_
    generalize hA1 : rgl A T l = A1
    have hIA1 : zIN T A1 := by rw [← hA1]; exact rgl_I hl6 hIA
    refine (ys6 65 (y := nI (i + 1)) (L2 := [(3, .int (nI (i + 1))), (0, .ref (x + 0)), (1, .int (nI l)), (2, .int (nI h))]) rfl rfl (nI_1 _) rfl rfl).trans ?_
    refine (ys19 rfl).trans ?_
    rw [show mwhL T l (m + 1) i A = mwhL T l m (i + 1) A1 from by subst hA1; rw [mwhL]; (try dsimp only); first | done | rfl] at hkk; exact l_mwh hM hl6 hh m (i + 1)  A1  hIA1 (by omega) hkk

def mwh (X : zFn) (A : zFn) (S : zFn) (T : zFn) (l : Nat) (h : Nat) : Int32 × zFn × zFn :=
  let X1 := zup X 0 0 (0)
  let A2 := rbc S
  let A3 := mwhL T l h 0 A2
  (((64 * (A3 2 l)) + (A3 1 l)), X1, A3)

theorem c_mwh {d : Nat} {x t s q : Nat} {X S A T J : zFn} {μ : zM} (hM : zMC μ x t s q J T) {nl np nh nk : Nat} (hN : zTN T nl np nh nk) (hI : zIN T S) {l h : Nat} (hl : l < nl) (hl6 : l < 6) (hh : h ≤ 500) : zden zcds (d + 8) 176 [.ref (x + 0), .int (nI l), .int (nI h)] (zwi μ (zfl (zfl (zfl J x 6 X) s 22 S) q 22 A)) = some (0, some (.int ((mwh X A S T l h).1)), 0, 0, zwi μ (zfl (zfl (zfl J x 6 ((mwh X A S T l h).2.1)) s 22 S) q 22 ((mwh X A S T l h).2.2))) := by
  refine (zd_in (d := d + 7) (cd := zc176) (nL := 4) (L := [(0, .ref (x + 0)), (1, .int (nI l)), (2, .int (nI h))]) rfl (Nat.le_of_ble_eq_true rfl) rfl).trans ?_
  refine (ys4 1 (v := .ref (x + 0)) rfl rfl rfl rfl).trans ?_
  refine (ys1 2 (x := 0) rfl rfl rfl).trans ?_
  refine (yq 5 rfl (zFS.tag hM.1.1 (j := 0) (by decide) rfl) (zFS.k0 hM.1.1 (j := 0)) (zFS.ni hM.1.1 (j := 0) (by decide) rfl) (by decide) rfl (zx3_up hM (j := 0) (by decide))).trans ?_
  generalize hX1 : zup X 0 0 (0) = X1
  refine (ys4 6 (v := .ref (x + 0)) rfl rfl rfl rfl).trans ?_
  refine (ys4 7 (v := .int (nI l)) rfl rfl rfl rfl).trans ?_
  refine (yc2 10 rfl rfl (Nat.le_of_ble_eq_true rfl) (Or.inr (by show ztg (zwi _ _) _ = _; rw [ztg_wi]; exact (zFS.tag hM.1.1 (j := 0) (by decide) rfl))) rfl rfl (c_isL hM)).trans ?_
  rw [show (rin (nI l) 0 (T 0 0 - 1)) = 1 from (by rw [hN.1]; exact rin_1 (by have := hN.2.1; omega) rfl hl)]
  refine ys17_1 13 rfl rfl (fun h10 => absurd h10 (by decide)) (fun h10 => ?_)
  refine (ys4 20 (v := .int (nI h)) rfl rfl rfl rfl).trans ?_
  refine (ys1 21 (x := 0) rfl rfl rfl).trans ?_
  refine (ys1 24 (x := 500) rfl rfl rfl).trans ?_
  refine (yc3 27 rfl rfl (Nat.le_of_ble_eq_true rfl) (Or.inl rfl) rfl rfl c_rin).trans ?_
  rw [show (rin (nI h) 0 500) = 1 from (rin_h (lo := 0) (hi := 500) (by omega) hh (by decide))]
  refine ys17_1 30 rfl rfl (fun h27 => absurd h27 (by decide)) (fun h27 => ?_)
  refine (ys4 37 (v := .ref (x + 0)) rfl rfl rfl rfl).trans ?_
  refine (ygr 40 rfl (zFS.tag hM.1.1 (j := 0) (by decide) rfl) rfl hM.2.2.2.1).trans ?_
  refine (ys4 41 (v := .ref (x + 0)) rfl rfl rfl rfl).trans ?_
  refine (ygr 44 rfl (zFS.tag hM.1.1 (j := 0) (by decide) rfl) rfl hM.2.2.1).trans ?_
  refine (yc2 47 rfl rfl (Nat.le_of_ble_eq_true rfl) (Or.inr (by show ztg (zwi _ _) _ = _; rw [ztg_wi]; exact (zFS.tag (hMq hM (X := X) (S := S)).1 (j := 0) (by decide) rfl))) rfl rfl (c_bec (hMq hM) (hMo hM))).trans ?_
  generalize hA2 : rbc S = A2
  have hIA2 : zIN T A2 := by rw [← hA2]; exact zIN_bc hI
  refine (ys1 48 (x := nI 0) rfl rfl rfl).trans ?_
  refine (ys5 49 (L2 := [(3, .int (nI 0)), (0, .ref (x + 0)), (1, .int (nI l)), (2, .int (nI h))]) rfl rfl rfl rfl).trans ?_
  refine l_mwh hM hl6 (by omega) h 0 A2 hIA2 (by omega) ?_
  generalize hA3 : mwhL T l h 0 A2 = A3
  refine (ys1 70 (x := 64) rfl rfl rfl).trans ?_
  refine (ys4 71 (v := .ref (x + 0)) rfl rfl rfl rfl).trans ?_
  refine (ygr 74 rfl (zFS.tag hM.1.1 (j := 0) (by decide) rfl) rfl hM.2.2.2.1).trans ?_
  refine (ygr 77 rfl (zFS.tag (hMq hM (X := X) (S := S)).1 (j := 0) (by decide) rfl) rfl ((hMq hM (X := X) (S := S)).2.1 1 (by decide))).trans ?_
  refine (ys4 78 (v := .int (nI l)) rfl rfl rfl rfl).trans ?_
  refine (ylx 79 (N := 6) rfl (j := l) rfl (Or.inl (zFS.tag (hMq hM (X := X) (S := S)).1 (j := 2) (by decide) rfl)) (zFS.ni (hMq hM (X := X) (S := S)).1 (j := 2) (by decide) rfl) (by omega) (by decide) rfl (zfl_at (j := 2) (by decide))).trans ?_
  refine (ys7_2 80 rfl rfl).trans ?_
  refine (ys4 81 (v := .ref (x + 0)) rfl rfl rfl rfl).trans ?_
  refine (ygr 84 rfl (zFS.tag hM.1.1 (j := 0) (by decide) rfl) rfl hM.2.2.2.1).trans ?_
  refine (ygr 87 rfl (zFS.tag (hMq hM (X := X) (S := S)).1 (j := 0) (by decide) rfl) rfl ((hMq hM (X := X) (S := S)).2.1 0 (by decide))).trans ?_
  refine (ys4 88 (v := .int (nI l)) rfl rfl rfl rfl).trans ?_
  refine (ylx 89 (N := 6) rfl (j := l) rfl (Or.inl (zFS.tag (hMq hM (X := X) (S := S)).1 (j := 1) (by decide) rfl)) (zFS.ni (hMq hM (X := X) (S := S)).1 (j := 1) (by decide) rfl) (by omega) (by decide) rfl (zfl_at (j := 1) (by decide))).trans ?_
  refine (ys7_0 90 rfl rfl).trans ?_
  refine (ys36 rfl rfl).trans ?_
  rw [show mwh X A S T l h = (((64 * (A3 2 l)) + (A3 1 l)), X1, A3) from by subst hA3 hA2 hX1; unfold mwh; (try dsimp only); first | done | rfl]; (first | done | rfl)

theorem c_mwh_r2 {d : Nat} {x t s q : Nat} {X S A T J : zFn} {μ : zM} (hM : zMC μ x t s q J T) {nl np nh nk : Nat} (hN : zTN T nl np nh nk) {l : Nat} (hl : l < nl) {w : Int32} (h : rin w 0 500 = 0) : zden zcds (d + 3) 176 [.ref (x + 0), .int (nI l), .int (w)] (zwi μ (zfl (zfl (zfl J x 6 X) s 22 S) q 22 A)) = some (0, some (.int 0), 0, 0, zwi μ (zfl (zfl (zfl J x 6 (zup (zup X 0 0 0) 0 0 2)) s 22 S) q 22 A)) := by
  refine (zd_in (d := d + 2) (cd := zc176) (nL := 4) (L := [(0, .ref (x + 0)), (1, .int (nI l)), (2, .int (w))]) rfl (Nat.le_of_ble_eq_true rfl) rfl).trans ?_
  refine (ys4 1 (v := .ref (x + 0)) rfl rfl rfl rfl).trans ?_
  refine (ys1 2 (x := 0) rfl rfl rfl).trans ?_
  refine (yq 5 rfl (zFS.tag hM.1.1 (j := 0) (by decide) rfl) (zFS.k0 hM.1.1 (j := 0)) (zFS.ni hM.1.1 (j := 0) (by decide) rfl) (by decide) rfl (zx3_up hM (j := 0) (by decide))).trans ?_
  generalize hX1 : zup X 0 0 (0) = X1
  refine (ys4 6 (v := .ref (x + 0)) rfl rfl rfl rfl).trans ?_
  refine (ys4 7 (v := .int (nI l)) rfl rfl rfl rfl).trans ?_
  refine (yc2 10 rfl rfl (Nat.le_of_ble_eq_true rfl) (Or.inr (by show ztg (zwi _ _) _ = _; rw [ztg_wi]; exact (zFS.tag hM.1.1 (j := 0) (by decide) rfl))) rfl rfl (c_isL hM)).trans ?_
  rw [show (rin (nI l) 0 (T 0 0 - 1)) = 1 from (by rw [hN.1]; exact rin_1 (by have := hN.2.1; omega) rfl hl)]
  refine ys17_1 13 rfl rfl (fun h10 => absurd h10 (by decide)) (fun h10 => ?_)
  refine (ys4 20 (v := .int (w)) rfl rfl rfl rfl).trans ?_
  refine (ys1 21 (x := 0) rfl rfl rfl).trans ?_
  refine (ys1 24 (x := 500) rfl rfl rfl).trans ?_
  refine (yc3 27 rfl rfl (Nat.le_of_ble_eq_true rfl) (Or.inl rfl) rfl rfl c_rin).trans ?_
  rw [show (rin w 0 500) = 0 from h]
  refine ys17_1 30 rfl rfl (fun h27 => ?_) (fun h27 => absurd (by decide) h27)
  refine (ys4 31 (v := .ref (x + 0)) rfl rfl rfl rfl).trans ?_
  refine (ys1 32 (x := 2) rfl rfl rfl).trans ?_
  refine (yc2 35 rfl rfl (Nat.le_of_ble_eq_true rfl) (Or.inr (by show ztg (zwi _ _) _ = _; rw [ztg_wi]; exact (zFS.tag hM.1.1 (j := 0) (by decide) rfl))) rfl rfl (c_nox hM)).trans ?_
  generalize hX2 : zup X1 0 0 (2) = X2
  refine (ys36 rfl rfl).trans ?_
  subst hX2 hX1; rfl

def mblL (S : zFn) (T : zFn) (nl : Nat) (np : Nat) (nh : Nat) (nk : Nat) (k : Nat) : Nat → Nat → Int32 → Int32 → zFn → Int32 × zFn
  | 0, i, a, b, A =>
    (b, A)
  | m + 1, i, a, b, A =>
    let r1 := maw A S T nl np nh nk k (nI i)
    if r1.1 = (-1) then
      mblL S T nl np nh nk k m (i + 1) a b r1.2
    else
      if a = (-1) then
        mblL S T nl np nh nk k m (i + 1) r1.1 (nI i) r1.2
      else
        if r1.1 < a then
          mblL S T nl np nh nk k m (i + 1) r1.1 (nI i) r1.2
        else
          mblL S T nl np nh nk k m (i + 1) a b r1.2

theorem l_mbl {d c sl : Nat} {x t s q : Nat} {X S T J : zFn} {μ : zM} (hM : zMC μ x t s q J T) {nl np nh nk : Nat} (hN : zTN T nl np nh nk) (hI : zIN T S) {k : Nat} (hk : k < nk) (hk12 : k < 12) : ∀ (m i : Nat) (a : Int32) (b : Int32) (A : zFn), i + m = nh → zden1 (d + 10) (zden zcds (d + 10)) zc177 (31, [(4, .int (nI i)), (3, .int (b)), (2, .int (a)), (0, .ref (x + 0)), (1, .int (nI k))], [], c, sl, zwi μ (zfl (zfl (zfl J x 6 X) s 22 S) q 22 A)) = some (0, some (.int ((mblL S T nl np nh nk k m i a b A).1)), c, sl, zwi μ (zfl (zfl (zfl J x 6 X) s 22 S) q 22 ((mblL S T nl np nh nk k m i a b A).2)))
  | 0, i, a, b, A, e => by
    refine (ys4 33 (v := .int (nI i)) rfl rfl rfl rfl).trans ?_
    refine (ys4 34 (v := .ref (x + 0)) rfl rfl rfl rfl).trans ?_
    refine (ygr 37 rfl (zFS.tag hM.1.1 (j := 0) (by decide) rfl) rfl hM.2.1).trans ?_
    refine (yg 40 rfl (zFS.tag (hMq hM (X := X) (S := S)).2.2.2.1 (j := 0) (by decide) rfl) (zFS.ni (hMq hM (X := X) (S := S)).2.2.2.1 (j := 0) (by decide) rfl) (by decide) rfl (zt3_at hM (j := 0) (by decide))).trans ?_
    refine ys18_3 43 rfl rfl (fun h40 => ?_) (fun h40 => absurd (by rw [hN.2.2.2.2.1]; exact nI_le (by omega) (by have := hN.2.2.2.2.2.1; omega)) h40)
    refine (ys4 85 (v := .int (b)) rfl rfl rfl rfl).trans ?_
    refine (ys36 rfl rfl).trans ?_
    rw [show mblL S T nl np nh nk k 0 i a b A = (b, A) from by rw [mblL]; (try dsimp only); first | done | rfl]; (first | done | rfl)
  | m + 1, i, a, b, A, e => by
    refine (ys4 33 (v := .int (nI i)) rfl rfl rfl rfl).trans ?_
    refine (ys4 34 (v := .ref (x + 0)) rfl rfl rfl rfl).trans ?_
    refine (ygr 37 rfl (zFS.tag hM.1.1 (j := 0) (by decide) rfl) rfl hM.2.1).trans ?_
    refine (yg 40 rfl (zFS.tag (hMq hM (X := X) (S := S)).2.2.2.1 (j := 0) (by decide) rfl) (zFS.ni (hMq hM (X := X) (S := S)).2.2.2.1 (j := 0) (by decide) rfl) (by decide) rfl (zt3_at hM (j := 0) (by decide))).trans ?_
    refine ys18_3 43 rfl rfl (fun h40 => absurd h40 (by rw [hN.2.2.2.2.1]; exact nI_ge (by omega) (by have := hN.2.2.2.2.2.1; omega))) (fun h40 => ?_)
    refine (ys4 44 (v := .ref (x + 0)) rfl rfl rfl rfl).trans ?_
    refine (ys4 45 (v := .int (nI k)) rfl rfl rfl rfl).trans ?_
    refine (ys4 47 (v := .int (nI i)) rfl rfl rfl rfl).trans ?_
    refine (yc3 50 rfl rfl (Nat.le_of_ble_eq_true rfl) (Or.inr (by show ztg (zwi _ _) _ = _; rw [ztg_wi]; exact (zFS.tag hM.1.1 (j := 0) (by decide) rfl))) rfl rfl (c_maw hM hN hI hk hk12)).trans ?_
    generalize hr1 : maw A S T nl np nh nk k (nI i) = r1
    refine (ys5 52 (L2 := [(5, .int (r1.1)), (4, .int (nI i)), (3, .int (b)), (2, .int (a)), (0, .ref (x + 0)), (1, .int (nI k))]) rfl rfl rfl rfl).trans ?_
    refine (ys4 54 (v := .int (r1.1)) rfl rfl rfl rfl).trans ?_
    refine (ys1 55 (x := (-1)) rfl rfl rfl).trans ?_
    refine ys18_0 58 rfl rfl (fun h55 => ?_) (fun h55 => ?_)
    · refine (ys6 81 (y := nI (i + 1)) (L2 := [(4, .int (nI (i + 1))), (5, .int (r1.1)), (3, .int (b)), (2, .int (a)), (0, .ref (x + 0)), (1, .int (nI k))]) rfl rfl (nI_1 _) rfl rfl).trans ?_
      refine (ys19 rfl).trans ?_
      rw [show mblL S T nl np nh nk k (m + 1) i a b A = mblL S T nl np nh nk k m (i + 1) a b r1.2 from by subst hr1; rw [mblL]; (try dsimp only); rw [if_pos h55]]; refine zden1_fg (L := [(4, .int (nI (i + 1))), (3, .int (b)), (2, .int (a)), (0, .ref (x + 0)), (1, .int (nI k))]) (zfg_cons rfl (zfg_cons rfl (zfg_cons rfl (zfg_cons rfl (zfg_cons rfl zfg_nil))))) ?_; exact l_mbl hM hN hI hk hk12 m (i + 1) a b r1.2  (by omega)
    · refine (ys4 59 (v := .int (a)) rfl rfl rfl rfl).trans ?_
      refine (ys1 60 (x := (-1)) rfl rfl rfl).trans ?_
      refine ys18_0 63 rfl rfl (fun h60 => ?_) (fun h60 => ?_)
      · refine (ys4 74 (v := .int (r1.1)) rfl rfl rfl rfl).trans ?_
        refine (ys5 75 (L2 := [(2, .int (r1.1)), (5, .int (r1.1)), (4, .int (nI i)), (3, .int (b)), (0, .ref (x + 0)), (1, .int (nI k))]) rfl rfl rfl rfl).trans ?_
        refine (ys4 77 (v := .int (nI i)) rfl rfl rfl rfl).trans ?_
        refine (ys5 78 (L2 := [(3, .int (nI i)), (2, .int (r1.1)), (5, .int (r1.1)), (4, .int (nI i)), (0, .ref (x + 0)), (1, .int (nI k))]) rfl rfl rfl rfl).trans ?_
        refine (ys6 81 (y := nI (i + 1)) (L2 := [(4, .int (nI (i + 1))), (3, .int (nI i)), (2, .int (r1.1)), (5, .int (r1.1)), (0, .ref (x + 0)), (1, .int (nI k))]) rfl rfl (nI_1 _) rfl rfl).trans ?_
        refine (ys19 rfl).trans ?_
        rw [show mblL S T nl np nh nk k (m + 1) i a b A = mblL S T nl np nh nk k m (i + 1) r1.1 (nI i) r1.2 from by subst hr1; rw [mblL]; (try dsimp only); rw [if_neg h55, if_pos h60]]; refine zden1_fg (L := [(4, .int (nI (i + 1))), (3, .int (nI i)), (2, .int (r1.1)), (0, .ref (x + 0)), (1, .int (nI k))]) (zfg_cons rfl (zfg_cons rfl (zfg_cons rfl (zfg_cons rfl (zfg_cons rfl zfg_nil))))) ?_; exact l_mbl hM hN hI hk hk12 m (i + 1) r1.1 (nI i) r1.2  (by omega)
      · refine (ys4 65 (v := .int (r1.1)) rfl rfl rfl rfl).trans ?_
        refine (ys4 66 (v := .int (a)) rfl rfl rfl rfl).trans ?_
        refine ys18_2 69 rfl rfl (fun h66 => ?_) (fun h66 => ?_)
        · refine (ys4 74 (v := .int (r1.1)) rfl rfl rfl rfl).trans ?_
          refine (ys5 75 (L2 := [(2, .int (r1.1)), (5, .int (r1.1)), (4, .int (nI i)), (3, .int (b)), (0, .ref (x + 0)), (1, .int (nI k))]) rfl rfl rfl rfl).trans ?_
          refine (ys4 77 (v := .int (nI i)) rfl rfl rfl rfl).trans ?_
          refine (ys5 78 (L2 := [(3, .int (nI i)), (2, .int (r1.1)), (5, .int (r1.1)), (4, .int (nI i)), (0, .ref (x + 0)), (1, .int (nI k))]) rfl rfl rfl rfl).trans ?_
          refine (ys6 81 (y := nI (i + 1)) (L2 := [(4, .int (nI (i + 1))), (3, .int (nI i)), (2, .int (r1.1)), (5, .int (r1.1)), (0, .ref (x + 0)), (1, .int (nI k))]) rfl rfl (nI_1 _) rfl rfl).trans ?_
          refine (ys19 rfl).trans ?_
          rw [show mblL S T nl np nh nk k (m + 1) i a b A = mblL S T nl np nh nk k m (i + 1) r1.1 (nI i) r1.2 from by subst hr1; rw [mblL]; (try dsimp only); rw [if_neg h55, if_neg h60, if_pos h66]]; refine zden1_fg (L := [(4, .int (nI (i + 1))), (3, .int (nI i)), (2, .int (r1.1)), (0, .ref (x + 0)), (1, .int (nI k))]) (zfg_cons rfl (zfg_cons rfl (zfg_cons rfl (zfg_cons rfl (zfg_cons rfl zfg_nil))))) ?_; exact l_mbl hM hN hI hk hk12 m (i + 1) r1.1 (nI i) r1.2  (by omega)
        · refine (ys19 rfl).trans ?_
          refine (ys6 81 (y := nI (i + 1)) (L2 := [(4, .int (nI (i + 1))), (5, .int (r1.1)), (3, .int (b)), (2, .int (a)), (0, .ref (x + 0)), (1, .int (nI k))]) rfl rfl (nI_1 _) rfl rfl).trans ?_
          refine (ys19 rfl).trans ?_
          rw [show mblL S T nl np nh nk k (m + 1) i a b A = mblL S T nl np nh nk k m (i + 1) a b r1.2 from by subst hr1; rw [mblL]; (try dsimp only); rw [if_neg h55, if_neg h60, if_neg h66]]; refine zden1_fg (L := [(4, .int (nI (i + 1))), (3, .int (b)), (2, .int (a)), (0, .ref (x + 0)), (1, .int (nI k))]) (zfg_cons rfl (zfg_cons rfl (zfg_cons rfl (zfg_cons rfl (zfg_cons rfl zfg_nil))))) ?_; exact l_mbl hM hN hI hk hk12 m (i + 1) a b r1.2  (by omega)

def mbl (X : zFn) (A : zFn) (S : zFn) (T : zFn) (nl : Nat) (np : Nat) (nh : Nat) (nk : Nat) (k : Nat) : Int32 × zFn × zFn :=
  let X1 := zup X 0 0 (0)
  let r2 := maw A S T nl np nh nk k (-1)
  ((mblL S T nl np nh nk k nh 0 r2.1 (-1) r2.2).1, X1, (mblL S T nl np nh nk k nh 0 r2.1 (-1) r2.2).2)

theorem c_mbl {d : Nat} {x t s q : Nat} {X S A T J : zFn} {μ : zM} (hM : zMC μ x t s q J T) {nl np nh nk : Nat} (hN : zTN T nl np nh nk) (hI : zIN T S) {k : Nat} (hk : k < nk) (hk12 : k < 12) : zden zcds (d + 11) 177 [.ref (x + 0), .int (nI k)] (zwi μ (zfl (zfl (zfl J x 6 X) s 22 S) q 22 A)) = some (0, some (.int ((mbl X A S T nl np nh nk k).1)), 0, 0, zwi μ (zfl (zfl (zfl J x 6 ((mbl X A S T nl np nh nk k).2.1)) s 22 S) q 22 ((mbl X A S T nl np nh nk k).2.2))) := by
  refine (zd_in (d := d + 10) (cd := zc177) (nL := 6) (L := [(0, .ref (x + 0)), (1, .int (nI k))]) rfl (Nat.le_of_ble_eq_true rfl) rfl).trans ?_
  refine (ys4 1 (v := .ref (x + 0)) rfl rfl rfl rfl).trans ?_
  refine (ys1 2 (x := 0) rfl rfl rfl).trans ?_
  refine (yq 5 rfl (zFS.tag hM.1.1 (j := 0) (by decide) rfl) (zFS.k0 hM.1.1 (j := 0)) (zFS.ni hM.1.1 (j := 0) (by decide) rfl) (by decide) rfl (zx3_up hM (j := 0) (by decide))).trans ?_
  generalize hX1 : zup X 0 0 (0) = X1
  refine (ys4 6 (v := .ref (x + 0)) rfl rfl rfl rfl).trans ?_
  refine (ys4 7 (v := .int (nI k)) rfl rfl rfl rfl).trans ?_
  refine (yc2 10 rfl rfl (Nat.le_of_ble_eq_true rfl) (Or.inr (by show ztg (zwi _ _) _ = _; rw [ztg_wi]; exact (zFS.tag hM.1.1 (j := 0) (by decide) rfl))) rfl rfl (c_isK hM)).trans ?_
  rw [show (rin (nI k) 0 (T 0 3 - 1)) = 1 from (by rw [hN.2.2.2.2.2.2.1]; exact rin_1 (by have := hN.2.2.2.2.2.2.2; omega) rfl hk)]
  refine ys17_1 13 rfl rfl (fun h10 => absurd h10 (by decide)) (fun h10 => ?_)
  refine (ys4 20 (v := .ref (x + 0)) rfl rfl rfl rfl).trans ?_
  refine (ys4 21 (v := .int (nI k)) rfl rfl rfl rfl).trans ?_
  refine (ys1 22 (x := (-1)) rfl rfl rfl).trans ?_
  refine (yc3 25 rfl rfl (Nat.le_of_ble_eq_true rfl) (Or.inr (by show ztg (zwi _ _) _ = _; rw [ztg_wi]; exact (zFS.tag hM.1.1 (j := 0) (by decide) rfl))) rfl rfl (c_maw hM hN hI hk hk12)).trans ?_
  generalize hr2 : maw A S T nl np nh nk k (-1) = r2
  refine (ys5 26 (L2 := [(2, .int (r2.1)), (0, .ref (x + 0)), (1, .int (nI k))]) rfl rfl rfl rfl).trans ?_
  refine (ys1 27 (x := (-1)) rfl rfl rfl).trans ?_
  refine (ys5 28 (L2 := [(3, .int ((-1))), (2, .int (r2.1)), (0, .ref (x + 0)), (1, .int (nI k))]) rfl rfl rfl rfl).trans ?_
  refine (ys1 29 (x := nI 0) rfl rfl rfl).trans ?_
  refine (ys5 31 (L2 := [(4, .int (nI 0)), (3, .int ((-1))), (2, .int (r2.1)), (0, .ref (x + 0)), (1, .int (nI k))]) rfl rfl rfl rfl).trans ?_
  rw [show mbl X A S T nl np nh nk k = ((mblL S T nl np nh nk k nh 0 r2.1 (-1) r2.2).1, X1, (mblL S T nl np nh nk k nh 0 r2.1 (-1) r2.2).2) from by subst hr2 hX1; unfold mbl; rfl]; exact l_mbl hM hN hI hk hk12 nh 0 _ _ _ (by omega)

def mneL (S : zFn) (T : zFn) (nl : Nat) (np : Nat) (nh : Nat) (nk : Nat) : Nat → Nat → Int32 → Int32 → zFn → Int32 × zFn
  | 0, i, a, b, A =>
    (b, A)
  | m + 1, i, a, b, A =>
    if ((T 14 i) - (S 18 i)) ≤ a then
      mneL S T nl np nh nk m (i + 1) a b A
    else
      let r1 := maw A S T nl np nh nk i (-1)
      if r1.1 = (-1) then
        mneL S T nl np nh nk m (i + 1) ((T 14 i) - (S 18 i)) (nI i) r1.2
      else
        mneL S T nl np nh nk m (i + 1) a b r1.2

theorem l_mne {d c sl : Nat} {x t s q : Nat} {X S T J : zFn} {μ : zM} (hM : zMC μ x t s q J T) {nl np nh nk : Nat} (hN : zTN T nl np nh nk) (hI : zIN T S) : ∀ (m i : Nat) (a : Int32) (b : Int32) (A : zFn), i + m = nk → zden1 (d + 10) (zden zcds (d + 10)) zc180 (11, [(3, .int (nI i)), (2, .int (a)), (1, .int (b)), (0, .ref (x + 0))], [], c, sl, zwi μ (zfl (zfl (zfl J x 6 X) s 22 S) q 22 A)) = some (0, some (.int ((mneL S T nl np nh nk m i a b A).1)), c, sl, zwi μ (zfl (zfl (zfl J x 6 X) s 22 S) q 22 ((mneL S T nl np nh nk m i a b A).2)))
  | 0, i, a, b, A, e => by
    refine (ys4 12 (v := .int (nI i)) rfl rfl rfl rfl).trans ?_
    refine (ys4 13 (v := .ref (x + 0)) rfl rfl rfl rfl).trans ?_
    refine (ygr 16 rfl (zFS.tag hM.1.1 (j := 0) (by decide) rfl) rfl hM.2.1).trans ?_
    refine (yg 19 rfl (zFS.tag (hMq hM (X := X) (S := S)).2.2.2.1 (j := 0) (by decide) rfl) (zFS.ni (hMq hM (X := X) (S := S)).2.2.2.1 (j := 0) (by decide) rfl) (by decide) rfl (zt3_at hM (j := 0) (by decide))).trans ?_
    refine ys18_3 22 rfl rfl (fun h19 => ?_) (fun h19 => absurd (by rw [hN.2.2.2.2.2.2.1]; exact nI_le (by omega) (by have := hN.2.2.2.2.2.2.2; omega)) h19)
    refine (ys4 74 (v := .int (b)) rfl rfl rfl rfl).trans ?_
    refine (ys36 rfl rfl).trans ?_
    rw [show mneL S T nl np nh nk 0 i a b A = (b, A) from by rw [mneL]; (try dsimp only); first | done | rfl]; (first | done | rfl)
  | m + 1, i, a, b, A, e => by
    have hi12 : i < 12 := by have := hN.2.2.2.2.2.2.2; omega
    refine (ys4 12 (v := .int (nI i)) rfl rfl rfl rfl).trans ?_
    refine (ys4 13 (v := .ref (x + 0)) rfl rfl rfl rfl).trans ?_
    refine (ygr 16 rfl (zFS.tag hM.1.1 (j := 0) (by decide) rfl) rfl hM.2.1).trans ?_
    refine (yg 19 rfl (zFS.tag (hMq hM (X := X) (S := S)).2.2.2.1 (j := 0) (by decide) rfl) (zFS.ni (hMq hM (X := X) (S := S)).2.2.2.1 (j := 0) (by decide) rfl) (by decide) rfl (zt3_at hM (j := 0) (by decide))).trans ?_
    refine ys18_3 22 rfl rfl (fun h19 => absurd h19 (by rw [hN.2.2.2.2.2.2.1]; exact nI_ge (by omega) (by have := hN.2.2.2.2.2.2.2; omega))) (fun h19 => ?_)
    refine (ys4 23 (v := .ref (x + 0)) rfl rfl rfl rfl).trans ?_
    refine (ygr 26 rfl (zFS.tag hM.1.1 (j := 0) (by decide) rfl) rfl hM.2.1).trans ?_
    refine (ygr 29 rfl (zFS.tag (hMq hM (X := X) (S := S)).2.2.2.1 (j := 0) (by decide) rfl) rfl ((hMq hM (X := X) (S := S)).2.2.2.2.1 13 (by decide))).trans ?_
    refine (ys4 30 (v := .int (nI i)) rfl rfl rfl rfl).trans ?_
    refine (ylx 31 (N := 12) rfl (j := i) rfl (Or.inl (zFS.tag (hMq hM (X := X) (S := S)).2.2.2.1 (j := 14) (by decide) rfl)) (zFS.ni (hMq hM (X := X) (S := S)).2.2.2.1 (j := 14) (by decide) rfl) (by omega) (by decide) rfl (zt3_at hM (j := 14) (by decide))).trans ?_
    refine (ys4 32 (v := .ref (x + 0)) rfl rfl rfl rfl).trans ?_
    refine (ygr 35 rfl (zFS.tag hM.1.1 (j := 0) (by decide) rfl) rfl hM.2.2.1).trans ?_
    refine (ygr 38 rfl (zFS.tag (hMs hM).1 (j := 0) (by decide) rfl) rfl ((hMs hM).2.1 17 (by decide))).trans ?_
    refine (ys4 39 (v := .int (nI i)) rfl rfl rfl rfl).trans ?_
    refine (ylx 40 (N := 12) rfl (j := i) rfl (Or.inl (zFS.tag (hMs hM).1 (j := 18) (by decide) rfl)) (zFS.ni (hMs hM).1 (j := 18) (by decide) rfl) (by omega) (by decide) rfl (zs3_at hM (j := 18) (by decide))).trans ?_
    refine (ys7_1 41 rfl rfl).trans ?_
    refine (ys5 43 (L2 := [(4, .int (((T 14 i) - (S 18 i)))), (3, .int (nI i)), (2, .int (a)), (1, .int (b)), (0, .ref (x + 0))]) rfl rfl rfl rfl).trans ?_
    refine (ys4 45 (v := .int (((T 14 i) - (S 18 i)))) rfl rfl rfl rfl).trans ?_
    refine (ys4 46 (v := .int (a)) rfl rfl rfl rfl).trans ?_
    refine ys18_5 49 rfl rfl (fun h46 => ?_) (fun h46 => ?_)
    · refine (ys6 70 (y := nI (i + 1)) (L2 := [(3, .int (nI (i + 1))), (4, .int (((T 14 i) - (S 18 i)))), (2, .int (a)), (1, .int (b)), (0, .ref (x + 0))]) rfl rfl (nI_1 _) rfl rfl).trans ?_
      refine (ys19 rfl).trans ?_
      rw [show mneL S T nl np nh nk (m + 1) i a b A = mneL S T nl np nh nk m (i + 1) a b A from by rw [mneL]; (try dsimp only); rw [if_pos h46]]; refine zden1_fg (L := [(3, .int (nI (i + 1))), (2, .int (a)), (1, .int (b)), (0, .ref (x + 0))]) (zfg_cons rfl (zfg_cons rfl (zfg_cons rfl (zfg_cons rfl zfg_nil)))) ?_; exact l_mne hM hN hI m (i + 1) a b A  (by omega)
    · refine (ys4 50 (v := .ref (x + 0)) rfl rfl rfl rfl).trans ?_
      refine (ys4 51 (v := .int (nI i)) rfl rfl rfl rfl).trans ?_
      refine (ys1 52 (x := (-1)) rfl rfl rfl).trans ?_
      refine (yc3 55 rfl rfl (Nat.le_of_ble_eq_true rfl) (Or.inr (by show ztg (zwi _ _) _ = _; rw [ztg_wi]; exact (zFS.tag hM.1.1 (j := 0) (by decide) rfl))) rfl rfl (c_maw hM hN hI (by omega) (by omega))).trans ?_
      generalize hr1 : maw A S T nl np nh nk i (-1) = r1
      refine (ys1 56 (x := (-1)) rfl rfl rfl).trans ?_
      refine ys18_0 59 rfl rfl (fun h56 => ?_) (fun h56 => ?_)
      · refine (ys4 64 (v := .int (((T 14 i) - (S 18 i)))) rfl rfl rfl rfl).trans ?_
        refine (ys5 65 (L2 := [(2, .int (((T 14 i) - (S 18 i)))), (4, .int (((T 14 i) - (S 18 i)))), (3, .int (nI i)), (1, .int (b)), (0, .ref (x + 0))]) rfl rfl rfl rfl).trans ?_
        refine (ys4 66 (v := .int (nI i)) rfl rfl rfl rfl).trans ?_
        refine (ys5 67 (L2 := [(1, .int (nI i)), (2, .int (((T 14 i) - (S 18 i)))), (4, .int (((T 14 i) - (S 18 i)))), (3, .int (nI i)), (0, .ref (x + 0))]) rfl rfl rfl rfl).trans ?_
        refine (ys6 70 (y := nI (i + 1)) (L2 := [(3, .int (nI (i + 1))), (1, .int (nI i)), (2, .int (((T 14 i) - (S 18 i)))), (4, .int (((T 14 i) - (S 18 i)))), (0, .ref (x + 0))]) rfl rfl (nI_1 _) rfl rfl).trans ?_
        refine (ys19 rfl).trans ?_
        rw [show mneL S T nl np nh nk (m + 1) i a b A = mneL S T nl np nh nk m (i + 1) ((T 14 i) - (S 18 i)) (nI i) r1.2 from by subst hr1; rw [mneL]; (try dsimp only); rw [if_neg h46, if_pos h56]]; refine zden1_fg (L := [(3, .int (nI (i + 1))), (2, .int (((T 14 i) - (S 18 i)))), (1, .int (nI i)), (0, .ref (x + 0))]) (zfg_cons rfl (zfg_cons rfl (zfg_cons rfl (zfg_cons rfl zfg_nil)))) ?_; exact l_mne hM hN hI m (i + 1) ((T 14 i) - (S 18 i)) (nI i) r1.2  (by omega)
      · refine (ys19 rfl).trans ?_
        refine (ys6 70 (y := nI (i + 1)) (L2 := [(3, .int (nI (i + 1))), (4, .int (((T 14 i) - (S 18 i)))), (2, .int (a)), (1, .int (b)), (0, .ref (x + 0))]) rfl rfl (nI_1 _) rfl rfl).trans ?_
        refine (ys19 rfl).trans ?_
        rw [show mneL S T nl np nh nk (m + 1) i a b A = mneL S T nl np nh nk m (i + 1) a b r1.2 from by subst hr1; rw [mneL]; (try dsimp only); rw [if_neg h46, if_neg h56]]; refine zden1_fg (L := [(3, .int (nI (i + 1))), (2, .int (a)), (1, .int (b)), (0, .ref (x + 0))]) (zfg_cons rfl (zfg_cons rfl (zfg_cons rfl (zfg_cons rfl zfg_nil)))) ?_; exact l_mne hM hN hI m (i + 1) a b r1.2  (by omega)

def mne (X : zFn) (A : zFn) (S : zFn) (T : zFn) (nl : Nat) (np : Nat) (nh : Nat) (nk : Nat) : Int32 × zFn × zFn :=
  let X1 := zup X 0 0 (0)
  ((mneL S T nl np nh nk nk 0 0 (-1) A).1, X1, (mneL S T nl np nh nk nk 0 0 (-1) A).2)

theorem c_mne {d : Nat} {x t s q : Nat} {X S A T J : zFn} {μ : zM} (hM : zMC μ x t s q J T) {nl np nh nk : Nat} (hN : zTN T nl np nh nk) (hI : zIN T S) : zden zcds (d + 11) 180 [.ref (x + 0)] (zwi μ (zfl (zfl (zfl J x 6 X) s 22 S) q 22 A)) = some (0, some (.int ((mne X A S T nl np nh nk).1)), 0, 0, zwi μ (zfl (zfl (zfl J x 6 ((mne X A S T nl np nh nk).2.1)) s 22 S) q 22 ((mne X A S T nl np nh nk).2.2))) := by
  refine (zd_in (d := d + 10) (cd := zc180) (nL := 5) (L := [(0, .ref (x + 0))]) rfl (Nat.le_of_ble_eq_true rfl) rfl).trans ?_
  refine (ys4 1 (v := .ref (x + 0)) rfl rfl rfl rfl).trans ?_
  refine (ys1 2 (x := 0) rfl rfl rfl).trans ?_
  refine (yq 5 rfl (zFS.tag hM.1.1 (j := 0) (by decide) rfl) (zFS.k0 hM.1.1 (j := 0)) (zFS.ni hM.1.1 (j := 0) (by decide) rfl) (by decide) rfl (zx3_up hM (j := 0) (by decide))).trans ?_
  generalize hX1 : zup X 0 0 (0) = X1
  refine (ys1 6 (x := (-1)) rfl rfl rfl).trans ?_
  refine (ys5 7 (L2 := [(1, .int ((-1))), (0, .ref (x + 0))]) rfl rfl rfl rfl).trans ?_
  refine (ys1 8 (x := 0) rfl rfl rfl).trans ?_
  refine (ys5 9 (L2 := [(2, .int (0)), (1, .int ((-1))), (0, .ref (x + 0))]) rfl rfl rfl rfl).trans ?_
  refine (ys1 10 (x := nI 0) rfl rfl rfl).trans ?_
  refine (ys5 11 (L2 := [(3, .int (nI 0)), (2, .int (0)), (1, .int ((-1))), (0, .ref (x + 0))]) rfl rfl rfl rfl).trans ?_
  rw [show mne X A S T nl np nh nk = ((mneL S T nl np nh nk nk 0 0 (-1) A).1, X1, (mneL S T nl np nh nk nk 0 0 (-1) A).2) from by subst hX1; unfold mne; rfl]; exact l_mne hM hN hI nk 0 _ _ _ (by omega)

