/-! THE REFERENCE'S SECOND LOOK AT THE TOKENS: names, numbers, errors -/
def rfr (X : zFn) (j : Nat) : Nat := (X 3 j).toNatClampNeg
def rmn (X : zFn) (j : Nat) : Nat := (X 4 j).toNatClampNeg
/-- a token's place is there -/
def zTK (X : zFn) (j : Nat) : Prop := X 3 j = nI (rfr X j) ∧ X 4 j = nI (rmn X j) ∧ rfr X j + rmn X j ≤ 2000

def rsaL (X : zFn) (a : Nat) (b : Nat) : Nat → Nat → Int32
  | 0, i =>
    1
  | m + 1, i =>
    if (X 1 ((rfr X a) + i)) = (X 1 ((rfr X b) + i)) then
      rsaL X a b m (i + 1)
    else
      0

theorem l_rsa {d c sl : Nat} {x : Nat} {X J : zFn} {μ : zM} (hX : zMX μ x) {a b : Nat} (ha : a < 401) (hb : b < 401) (h1 : zTK X a) (h2 : zTK X b) (h3 : rmn X a ≤ rmn X b) : ∀ (m i : Nat), i + m = rmn X a → zden1 (d + 1) (zden zcds (d + 1)) zc148 (19, [(3, .int (nI i)), (0, .ref (x + 0)), (1, .int (nI a)), (2, .int (nI b))], [], c, sl, zwi μ (zfl J x 6 X)) = some (0, some (.int ((rsaL X a b m i))), c, sl, zwi μ (zfl J x 6 X))
  | 0, i, e => by
    refine (ys4 20 (v := .int (nI i)) rfl rfl rfl rfl).trans ?_
    refine (ys4 21 (v := .ref (x + 0)) rfl rfl rfl rfl).trans ?_
    refine (ygr 24 rfl (zFS.tag hX.1 (j := 0) (by decide) rfl) rfl (hX.2 3 (by decide))).trans ?_
    refine (ys4 25 (v := .int (nI a)) rfl rfl rfl rfl).trans ?_
    refine (ylx 26 (N := 401) rfl (j := a) rfl (Or.inl (zFS.tag hX.1 (j := 4) (by decide) rfl)) (zFS.ni hX.1 (j := 4) (by decide) rfl) (by omega) (by decide) rfl (Eq.trans (zfl_at (j := 4) (by decide)) (show (X 4 a) = nI (rmn X a) from (h1).2.1))).trans ?_
    refine ys18_3 29 rfl rfl (fun h26 => ?_) (fun h26 => absurd (nI_le (by omega) (by have := h1.2.2; omega)) h26)
    refine (ys1 67 (x := 1) rfl rfl rfl).trans ?_
    refine (ys36 rfl (by decide)).trans ?_
    rw [show rsaL X a b 0 i = 1 from by rw [rsaL]; (try dsimp only); first | done | rfl]; (first | done | rfl)
  | m + 1, i, e => by
    refine (ys4 20 (v := .int (nI i)) rfl rfl rfl rfl).trans ?_
    refine (ys4 21 (v := .ref (x + 0)) rfl rfl rfl rfl).trans ?_
    refine (ygr 24 rfl (zFS.tag hX.1 (j := 0) (by decide) rfl) rfl (hX.2 3 (by decide))).trans ?_
    refine (ys4 25 (v := .int (nI a)) rfl rfl rfl rfl).trans ?_
    refine (ylx 26 (N := 401) rfl (j := a) rfl (Or.inl (zFS.tag hX.1 (j := 4) (by decide) rfl)) (zFS.ni hX.1 (j := 4) (by decide) rfl) (by omega) (by decide) rfl (Eq.trans (zfl_at (j := 4) (by decide)) (show (X 4 a) = nI (rmn X a) from (h1).2.1))).trans ?_
    refine ys18_3 29 rfl rfl (fun h26 => absurd h26 (nI_ge (by omega) (by have := h1.2.2; omega))) (fun h26 => ?_)
    refine (ys4 30 (v := .ref (x + 0)) rfl rfl rfl rfl).trans ?_
    refine (ygr 33 rfl (zFS.tag hX.1 (j := 0) (by decide) rfl) rfl (hX.2 0 (by decide))).trans ?_
    refine (ys4 34 (v := .ref (x + 0)) rfl rfl rfl rfl).trans ?_
    refine (ygr 37 rfl (zFS.tag hX.1 (j := 0) (by decide) rfl) rfl (hX.2 2 (by decide))).trans ?_
    refine (ys4 38 (v := .int (nI a)) rfl rfl rfl rfl).trans ?_
    refine (ylx 39 (N := 401) rfl (j := a) rfl (Or.inl (zFS.tag hX.1 (j := 3) (by decide) rfl)) (zFS.ni hX.1 (j := 3) (by decide) rfl) (by omega) (by decide) rfl (Eq.trans (zfl_at (j := 3) (by decide)) (show (X 3 a) = nI (rfr X a) from (h1).1))).trans ?_
    refine (ys4 40 (v := .int (nI i)) rfl rfl rfl rfl).trans ?_
    refine (ys7_0 41 rfl rfl).trans ?_
    rw [show ((nI (rfr X a)) + (nI i)) = nI ((rfr X a) + i) from nI_add (rfr X a) i]
    refine (ylx 42 (N := 2000) rfl (j := ((rfr X a) + i)) rfl (Or.inl (zFS.tag hX.1 (j := 1) (by decide) rfl)) (zFS.ni hX.1 (j := 1) (by decide) rfl) (by have := h1.2.2; omega) (by decide) rfl (zfl_at (j := 1) (by decide))).trans ?_
    refine (ys4 43 (v := .ref (x + 0)) rfl rfl rfl rfl).trans ?_
    refine (ygr 46 rfl (zFS.tag hX.1 (j := 0) (by decide) rfl) rfl (hX.2 0 (by decide))).trans ?_
    refine (ys4 47 (v := .ref (x + 0)) rfl rfl rfl rfl).trans ?_
    refine (ygr 50 rfl (zFS.tag hX.1 (j := 0) (by decide) rfl) rfl (hX.2 2 (by decide))).trans ?_
    refine (ys4 51 (v := .int (nI b)) rfl rfl rfl rfl).trans ?_
    refine (ylx 52 (N := 401) rfl (j := b) rfl (Or.inl (zFS.tag hX.1 (j := 3) (by decide) rfl)) (zFS.ni hX.1 (j := 3) (by decide) rfl) (by omega) (by decide) rfl (Eq.trans (zfl_at (j := 3) (by decide)) (show (X 3 b) = nI (rfr X b) from (h2).1))).trans ?_
    refine (ys4 53 (v := .int (nI i)) rfl rfl rfl rfl).trans ?_
    refine (ys7_0 54 rfl rfl).trans ?_
    rw [show ((nI (rfr X b)) + (nI i)) = nI ((rfr X b) + i) from nI_add (rfr X b) i]
    refine (ylx 55 (N := 2000) rfl (j := ((rfr X b) + i)) rfl (Or.inl (zFS.tag hX.1 (j := 1) (by decide) rfl)) (zFS.ni hX.1 (j := 1) (by decide) rfl) (by have := h2.2.2; omega) (by decide) rfl (zfl_at (j := 1) (by decide))).trans ?_
    refine ys18_0 58 rfl rfl (fun h55 => ?_) (fun h55 => ?_)
    · refine (ys6 63 (y := nI (i + 1)) (L2 := [(3, .int (nI (i + 1))), (0, .ref (x + 0)), (1, .int (nI a)), (2, .int (nI b))]) rfl rfl (nI_1 _) rfl rfl).trans ?_
      refine (ys19 rfl).trans ?_
      rw [show rsaL X a b (m + 1) i = rsaL X a b m (i + 1) from by rw [rsaL]; (try dsimp only); rw [if_pos h55]]; exact l_rsa hX ha hb h1 h2 h3 m (i + 1)    (by omega)
    · refine (ys1 59 (x := 0) rfl rfl rfl).trans ?_
      refine (ys36 rfl (by decide)).trans ?_
      rw [show rsaL X a b (m + 1) i = 0 from by rw [rsaL]; (try dsimp only); rw [if_neg h55]]; (first | done | rfl)

def rsa (X : zFn) (a : Nat) (b : Nat) : Int32 :=
  if (nI (rmn X a)) = (nI (rmn X b)) then
    rsaL X a b (rmn X a) 0
  else
    0

theorem c_rsa {d : Nat} {x : Nat} {X J : zFn} {μ : zM} (hX : zMX μ x) {a b : Nat} (ha : a < 401) (hb : b < 401) (h1 : zTK X a) (h2 : zTK X b) : zden zcds (d + 2) 148 [.ref (x + 0), .int (nI a), .int (nI b)] (zwi μ (zfl J x 6 X)) = some (0, some (.int ((rsa X a b))), 0, 0, zwi μ (zfl J x 6 X)) := by
  refine (zd_in (d := d + 1) (cd := zc148) (nL := 4) (L := [(0, .ref (x + 0)), (1, .int (nI a)), (2, .int (nI b))]) rfl (Nat.le_of_ble_eq_true rfl) rfl).trans ?_
  refine (ys4 1 (v := .ref (x + 0)) rfl rfl rfl rfl).trans ?_
  refine (ygr 4 rfl (zFS.tag hX.1 (j := 0) (by decide) rfl) rfl (hX.2 3 (by decide))).trans ?_
  refine (ys4 5 (v := .int (nI a)) rfl rfl rfl rfl).trans ?_
  refine (ylx 6 (N := 401) rfl (j := a) rfl (Or.inl (zFS.tag hX.1 (j := 4) (by decide) rfl)) (zFS.ni hX.1 (j := 4) (by decide) rfl) (by omega) (by decide) rfl (Eq.trans (zfl_at (j := 4) (by decide)) (show (X 4 a) = nI (rmn X a) from (h1).2.1))).trans ?_
  refine (ys4 7 (v := .ref (x + 0)) rfl rfl rfl rfl).trans ?_
  refine (ygr 10 rfl (zFS.tag hX.1 (j := 0) (by decide) rfl) rfl (hX.2 3 (by decide))).trans ?_
  refine (ys4 11 (v := .int (nI b)) rfl rfl rfl rfl).trans ?_
  refine (ylx 12 (N := 401) rfl (j := b) rfl (Or.inl (zFS.tag hX.1 (j := 4) (by decide) rfl)) (zFS.ni hX.1 (j := 4) (by decide) rfl) (by omega) (by decide) rfl (Eq.trans (zfl_at (j := 4) (by decide)) (show (X 4 b) = nI (rmn X b) from (h2).2.1))).trans ?_
  refine ys18_0 15 rfl rfl (fun h12 => ?_) (fun h12 => ?_)
  · refine (ys1 18 (x := nI 0) rfl rfl rfl).trans ?_
    refine (ys5 19 (L2 := [(3, .int (nI 0)), (0, .ref (x + 0)), (1, .int (nI a)), (2, .int (nI b))]) rfl rfl rfl rfl).trans ?_
    rw [show rsa X a b = rsaL X a b (rmn X a) 0 from by unfold rsa; rw [if_pos h12]]; exact l_rsa hX ha hb h1 h2 (Nat.le_of_eq ((nI_eq (by have := h1.2.2; omega) (by have := h2.2.2; omega)).mp h12)) (rmn X a) 0 (by omega)
  · refine (ys1 16 (x := 0) rfl rfl rfl).trans ?_
    refine (ys36 rfl (by decide)).trans ?_
    rw [show rsa X a b = 0 from by unfold rsa; (try dsimp only); rw [if_neg h12]]; (first | done | rfl)

def rnmL (X : zFn) (t : Nat) (y : Int32) : Nat → Nat → Nat → Int32
  | 0, i, a =>
    (-1)
  | m + 1, i, a =>
    if (X 5 i) = y then
      if (rsa X i t) = 0 then
        rnmL X t y m (i + 1) (a + 1)
      else
        nI a
    else
      rnmL X t y m (i + 1) a

theorem l_rnm {d c sl : Nat} {x : Nat} {X J : zFn} {μ : zM} (hX : zMX μ x) {t : Nat} (ht : t < 401) (hV : ∀ j, j ≤ t → zTK X j) {y : Int32} : ∀ (m i : Nat) (a : Nat), i + m = t → zden1 (d + 3) (zden zcds (d + 3)) zc149 (5, [(4, .int (nI i)), (3, .int (nI a)), (0, .ref (x + 0)), (1, .int (nI t)), (2, .int (y))], [], c, sl, zwi μ (zfl J x 6 X)) = some (0, some (.int ((rnmL X t y m i a))), c, sl, zwi μ (zfl J x 6 X))
  | 0, i, a, e => by
    refine (ys4 7 (v := .int (nI i)) rfl rfl rfl rfl).trans ?_
    refine (ys4 8 (v := .int (nI t)) rfl rfl rfl rfl).trans ?_
    refine ys18_3 11 rfl rfl (fun h8 => ?_) (fun h8 => absurd (nI_le (by omega) (by omega)) h8)
    refine (ys1 47 (x := (-1)) rfl rfl rfl).trans ?_
    refine (ys36 rfl rfl).trans ?_
    rw [show rnmL X t y 0 i a = (-1) from by rw [rnmL]; (try dsimp only); first | done | rfl]; (first | done | rfl)
  | m + 1, i, a, e => by
    refine (ys4 7 (v := .int (nI i)) rfl rfl rfl rfl).trans ?_
    refine (ys4 8 (v := .int (nI t)) rfl rfl rfl rfl).trans ?_
    refine ys18_3 11 rfl rfl (fun h8 => absurd h8 (nI_ge (by omega) (by omega))) (fun h8 => ?_)
    refine (ys4 12 (v := .ref (x + 0)) rfl rfl rfl rfl).trans ?_
    refine (ygr 15 rfl (zFS.tag hX.1 (j := 0) (by decide) rfl) rfl (hX.2 4 (by decide))).trans ?_
    refine (ys4 17 (v := .int (nI i)) rfl rfl rfl rfl).trans ?_
    refine (ylx 18 (N := 401) rfl (j := i) rfl (Or.inl (zFS.tag hX.1 (j := 5) (by decide) rfl)) (zFS.ni hX.1 (j := 5) (by decide) rfl) (by omega) (by decide) rfl (zfl_at (j := 5) (by decide))).trans ?_
    refine (ys4 19 (v := .int (y)) rfl rfl rfl rfl).trans ?_
    refine ys18_0 22 rfl rfl (fun h19 => ?_) (fun h19 => ?_)
    · refine (ys4 26 (v := .ref (x + 0)) rfl rfl rfl rfl).trans ?_
      refine (ys4 28 (v := .int (nI i)) rfl rfl rfl rfl).trans ?_
      refine (ys4 29 (v := .int (nI t)) rfl rfl rfl rfl).trans ?_
      refine (yc3 32 rfl rfl (Nat.le_of_ble_eq_true rfl) (Or.inr (by show ztg (zwi _ _) _ = _; rw [ztg_wi]; exact (zFS.tag hX.1 (j := 0) (by decide) rfl))) rfl rfl (c_rsa hX (by omega) ht (hV i (by omega)) (hV t (Nat.le_refl _)))).trans ?_
      refine ys17_0 35 rfl rfl (fun h32 => ?_) (fun h32 => ?_)
      · refine (ys6 40 (y := nI (a + 1)) (L2 := [(3, .int (nI (a + 1))), (4, .int (nI i)), (0, .ref (x + 0)), (1, .int (nI t)), (2, .int (y))]) rfl rfl (nI_1 _) rfl rfl).trans ?_
        refine (ys6 43 (y := nI (i + 1)) (L2 := [(4, .int (nI (i + 1))), (3, .int (nI (a + 1))), (0, .ref (x + 0)), (1, .int (nI t)), (2, .int (y))]) rfl rfl (nI_1 _) rfl rfl).trans ?_
        refine (ys19 rfl).trans ?_
        rw [show rnmL X t y (m + 1) i a = rnmL X t y m (i + 1) (a + 1) from by rw [rnmL]; (try dsimp only); rw [if_pos h19, if_pos h32]]; exact l_rnm hX ht hV m (i + 1) (a + 1)   (by omega)
      · refine (ys4 36 (v := .int (nI a)) rfl rfl rfl rfl).trans ?_
        refine (ys36 rfl rfl).trans ?_
        rw [show rnmL X t y (m + 1) i a = (nI a) from by rw [rnmL]; (try dsimp only); rw [if_pos h19, if_neg h32]]; (first | done | rfl)
    · refine (ys19 rfl).trans ?_
      refine (ys6 43 (y := nI (i + 1)) (L2 := [(4, .int (nI (i + 1))), (3, .int (nI a)), (0, .ref (x + 0)), (1, .int (nI t)), (2, .int (y))]) rfl rfl (nI_1 _) rfl rfl).trans ?_
      refine (ys19 rfl).trans ?_
      rw [show rnmL X t y (m + 1) i a = rnmL X t y m (i + 1) a from by rw [rnmL]; (try dsimp only); rw [if_neg h19]]; exact l_rnm hX ht hV m (i + 1) a   (by omega)

theorem c_rnm {d : Nat} {x : Nat} {X J : zFn} {μ : zM} (hX : zMX μ x) {t : Nat} (ht : t < 401) (hV : ∀ j, j ≤ t → zTK X j) {y : Int32} : zden zcds (d + 4) 149 [.ref (x + 0), .int (nI t), .int (y)] (zwi μ (zfl J x 6 X)) = some (0, some (.int (rnmL X t y t 0 0)), 0, 0, zwi μ (zfl J x 6 X)) := by
  refine (zd_in (d := d + 3) (cd := zc149) (nL := 5) (L := [(0, .ref (x + 0)), (1, .int (nI t)), (2, .int (y))]) rfl (Nat.le_of_ble_eq_true rfl) rfl).trans ?_
  refine (ys1 1 (x := nI 0) rfl rfl rfl).trans ?_
  refine (ys5 2 (L2 := [(3, .int (nI 0)), (0, .ref (x + 0)), (1, .int (nI t)), (2, .int (y))]) rfl rfl rfl rfl).trans ?_
  refine (ys1 3 (x := nI 0) rfl rfl rfl).trans ?_
  refine (ys5 5 (L2 := [(4, .int (nI 0)), (3, .int (nI 0)), (0, .ref (x + 0)), (1, .int (nI t)), (2, .int (y))]) rfl rfl rfl rfl).trans ?_
  exact l_rnm hX ht hV t 0 0 (by omega)

def rnoL (X : zFn) (t : Nat) : Nat → Nat → Int32 → Int32
  | 0, i, y =>
    y
  | m + 1, i, y =>
    rnoL X t m (i + 1) (((10 * y) + (X 1 ((rfr X t) + i))) - 48)

theorem l_rno {d c sl : Nat} {x : Nat} {X J : zFn} {μ : zM} (hX : zMX μ x) {t : Nat} (ht : t < 401) (h1 : zTK X t) : ∀ (m i : Nat) (y : Int32), i + m = rmn X t → zden1 (d + 1) (zden zcds (d + 1)) zc150 (4, [(3, .int (nI i)), (2, .int (y)), (0, .ref (x + 0)), (1, .int (nI t))], [], c, sl, zwi μ (zfl J x 6 X)) = some (0, some (.int ((rnoL X t m i y))), c, sl, zwi μ (zfl J x 6 X))
  | 0, i, y, e => by
    refine (ys4 5 (v := .int (nI i)) rfl rfl rfl rfl).trans ?_
    refine (ys4 6 (v := .ref (x + 0)) rfl rfl rfl rfl).trans ?_
    refine (ygr 9 rfl (zFS.tag hX.1 (j := 0) (by decide) rfl) rfl (hX.2 3 (by decide))).trans ?_
    refine (ys4 10 (v := .int (nI t)) rfl rfl rfl rfl).trans ?_
    refine (ylx 11 (N := 401) rfl (j := t) rfl (Or.inl (zFS.tag hX.1 (j := 4) (by decide) rfl)) (zFS.ni hX.1 (j := 4) (by decide) rfl) (by omega) (by decide) rfl (Eq.trans (zfl_at (j := 4) (by decide)) (show (X 4 t) = nI (rmn X t) from (h1).2.1))).trans ?_
    refine ys18_3 14 rfl rfl (fun h11 => ?_) (fun h11 => absurd (nI_le (by omega) (by have := h1.2.2; omega)) h11)
    refine (ys4 43 (v := .int (y)) rfl rfl rfl rfl).trans ?_
    refine (ys36 rfl rfl).trans ?_
    rw [show rnoL X t 0 i y = y from by rw [rnoL]; (try dsimp only); first | done | rfl]; (first | done | rfl)
  | m + 1, i, y, e => by
    refine (ys4 5 (v := .int (nI i)) rfl rfl rfl rfl).trans ?_
    refine (ys4 6 (v := .ref (x + 0)) rfl rfl rfl rfl).trans ?_
    refine (ygr 9 rfl (zFS.tag hX.1 (j := 0) (by decide) rfl) rfl (hX.2 3 (by decide))).trans ?_
    refine (ys4 10 (v := .int (nI t)) rfl rfl rfl rfl).trans ?_
    refine (ylx 11 (N := 401) rfl (j := t) rfl (Or.inl (zFS.tag hX.1 (j := 4) (by decide) rfl)) (zFS.ni hX.1 (j := 4) (by decide) rfl) (by omega) (by decide) rfl (Eq.trans (zfl_at (j := 4) (by decide)) (show (X 4 t) = nI (rmn X t) from (h1).2.1))).trans ?_
    refine ys18_3 14 rfl rfl (fun h11 => absurd h11 (nI_ge (by omega) (by have := h1.2.2; omega))) (fun h11 => ?_)
    refine (ys1 16 (x := 10) rfl rfl rfl).trans ?_
    refine (ys4 17 (v := .int (y)) rfl rfl rfl rfl).trans ?_
    refine (ys7_2 18 rfl rfl).trans ?_
    refine (ys4 19 (v := .ref (x + 0)) rfl rfl rfl rfl).trans ?_
    refine (ygr 22 rfl (zFS.tag hX.1 (j := 0) (by decide) rfl) rfl (hX.2 0 (by decide))).trans ?_
    refine (ys4 23 (v := .ref (x + 0)) rfl rfl rfl rfl).trans ?_
    refine (ygr 26 rfl (zFS.tag hX.1 (j := 0) (by decide) rfl) rfl (hX.2 2 (by decide))).trans ?_
    refine (ys4 27 (v := .int (nI t)) rfl rfl rfl rfl).trans ?_
    refine (ylx 28 (N := 401) rfl (j := t) rfl (Or.inl (zFS.tag hX.1 (j := 3) (by decide) rfl)) (zFS.ni hX.1 (j := 3) (by decide) rfl) (by omega) (by decide) rfl (Eq.trans (zfl_at (j := 3) (by decide)) (show (X 3 t) = nI (rfr X t) from (h1).1))).trans ?_
    refine (ys4 29 (v := .int (nI i)) rfl rfl rfl rfl).trans ?_
    refine (ys7_0 30 rfl rfl).trans ?_
    rw [show ((nI (rfr X t)) + (nI i)) = nI ((rfr X t) + i) from nI_add (rfr X t) i]
    refine (ylx 31 (N := 2000) rfl (j := ((rfr X t) + i)) rfl (Or.inl (zFS.tag hX.1 (j := 1) (by decide) rfl)) (zFS.ni hX.1 (j := 1) (by decide) rfl) (by have := h1.2.2; omega) (by decide) rfl (zfl_at (j := 1) (by decide))).trans ?_
    refine (ys7_0 32 rfl rfl).trans ?_
    refine (ys1 34 (x := 48) rfl rfl rfl).trans ?_
    refine (ys7_1 35 rfl rfl).trans ?_
    refine (ys5 36 (L2 := [(2, .int ((((10 * y) + (X 1 ((rfr X t) + i))) - 48))), (3, .int (nI i)), (0, .ref (x + 0)), (1, .int (nI t))]) rfl rfl rfl rfl).trans ?_
    refine (ys6 39 (y := nI (i + 1)) (L2 := [(3, .int (nI (i + 1))), (2, .int ((((10 * y) + (X 1 ((rfr X t) + i))) - 48))), (0, .ref (x + 0)), (1, .int (nI t))]) rfl rfl (nI_1 _) rfl rfl).trans ?_
    refine (ys19 rfl).trans ?_
    rw [show rnoL X t (m + 1) i y = rnoL X t m (i + 1) (((10 * y) + (X 1 ((rfr X t) + i))) - 48) from by rw [rnoL]; (try dsimp only); first | done | rfl]; exact l_rno hX ht h1 m (i + 1) (((10 * y) + (X 1 ((rfr X t) + i))) - 48)   (by omega)

theorem c_rno {d : Nat} {x : Nat} {X J : zFn} {μ : zM} (hX : zMX μ x) {t : Nat} (ht : t < 401) (h1 : zTK X t) : zden zcds (d + 2) 150 [.ref (x + 0), .int (nI t)] (zwi μ (zfl J x 6 X)) = some (0, some (.int (rnoL X t (rmn X t) 0 0)), 0, 0, zwi μ (zfl J x 6 X)) := by
  refine (zd_in (d := d + 1) (cd := zc150) (nL := 4) (L := [(0, .ref (x + 0)), (1, .int (nI t))]) rfl (Nat.le_of_ble_eq_true rfl) rfl).trans ?_
  refine (ys1 1 (x := 0) rfl rfl rfl).trans ?_
  refine (ys5 2 (L2 := [(2, .int (0)), (0, .ref (x + 0)), (1, .int (nI t))]) rfl rfl rfl rfl).trans ?_
  refine (ys1 3 (x := nI 0) rfl rfl rfl).trans ?_
  refine (ys5 4 (L2 := [(3, .int (nI 0)), (2, .int (0)), (0, .ref (x + 0)), (1, .int (nI t))]) rfl rfl rfl rfl).trans ?_
  exact l_rno hX ht h1 (rmn X t) 0 0 (by omega)

def rin (a : Int32) (b : Int32) (e : Int32) : Int32 :=
  if a < b then
    0
  else
    if e < a then
      0
    else
      1

theorem c_rin {d : Nat} {a b e : Int32} {μ : zM} : zden zcds (d + 1) 126 [.int (a), .int (b), .int (e)] (μ) = some (0, some (.int ((rin a b e))), 0, 0, μ) := by
  refine (zd_in (d := d + 0) (cd := zc126) (nL := 3) (L := [(0, .int (a)), (1, .int (b)), (2, .int (e))]) rfl (Nat.le_of_ble_eq_true rfl) rfl).trans ?_
  refine (ys4 1 (v := .int (a)) rfl rfl rfl rfl).trans ?_
  refine (ys4 2 (v := .int (b)) rfl rfl rfl rfl).trans ?_
  refine ys18_2 5 rfl rfl (fun h2 => ?_) (fun h2 => ?_)
  · refine (ys1 15 (x := 0) rfl rfl rfl).trans ?_
    refine (ys36 rfl (by decide)).trans ?_
    rw [show rin a b e = 0 from by unfold rin; (try dsimp only); rw [if_pos h2]]; (first | done | rfl)
  · refine (ys4 6 (v := .int (a)) rfl rfl rfl rfl).trans ?_
    refine (ys4 7 (v := .int (e)) rfl rfl rfl rfl).trans ?_
    refine ys18_4 10 rfl rfl (fun h7 => ?_) (fun h7 => ?_)
    · refine (ys1 15 (x := 0) rfl rfl rfl).trans ?_
      refine (ys36 rfl (by decide)).trans ?_
      rw [show rin a b e = 0 from by unfold rin; (try dsimp only); rw [if_neg h2, if_pos h7]]; (first | done | rfl)
    · refine (ys1 11 (x := 1) rfl rfl rfl).trans ?_
      refine (ys19 rfl).trans ?_
      refine (ys36 rfl (by decide)).trans ?_
      rw [show rin a b e = 1 from by unfold rin; (try dsimp only); rw [if_neg h2, if_neg h7]]; (first | done | rfl)

def zUU (μ : zM) (x u : Nat) : Prop := zFS μ u [9, 20, 20, 20, 20, 20, 20, 20, 20, 20, 20, 20, 20, 20, 20, 20, 20] [4, 6, 36, 36, 6, 20, 20, 20, 20, 6, 6, 6, 6, 12, 12, 72, 1440] ∧ (∀ k, k < 16 → zgr μ (u + 0) k = some (u + (k + 1))) ∧ (x + 6 ≤ u ∨ u + 17 ≤ x) ∧ zgr μ (x + 0) 6 = some (u + 0)
theorem zUs {μ : zM} {x u : Nat} {J X T : zFn} (hU : zUU μ x u) : zfl (zfl J u 17 T) x 6 X = zfl (zfl J x 6 X) u 17 T := zfl_swap (by have := hU.2.2.1; omega)
theorem zlt' {d m : Nat} {a : List Value} {μ : zM} {I J : zFn} {v : Option Value} {c s : Nat} (e : I = J) (h : zden zcds d m a (zwi μ I) = some (0, v, c, s, zwi μ I)) : zden zcds d m a (zwi μ J) = some (0, v, c, s, zwi μ J) := e ▸ h

def rke (T : zFn) (j : Nat) (a : Nat) (v : Int32) (lo : Int32) (hi : Int32) : Int32 × zFn :=
  if (rin v lo hi) = 0 then
    (5, T)
  else
    let T1 := zup T j a (v)
    (0, T1)

theorem c_kee {d : Nat} {x u : Nat} {X T J : zFn} {μ : zM} (hX : zMX μ x) (hU : zUU μ x u) {j n a : Nat} {v lo hi : Int32} (hj : j < [9, 20, 20, 20, 20, 20, 20, 20, 20, 20, 20, 20, 20, 20, 20, 20, 20].length) (hjt : [9, 20, 20, 20, 20, 20, 20, 20, 20, 20, 20, 20, 20, 20, 20, 20, 20].getD j 0 = 20) (hjn : [4, 6, 36, 36, 6, 20, 20, 20, 20, 6, 6, 6, 6, 12, 12, 72, 1440].getD j 0 = n) (hn : n < 2 ^ 31) (ha : a < n) : zden zcds (d + 2) 151 [.ref (u + j), .int (nI a), .int (v), .int (lo), .int (hi)] (zwi μ (zfl (zfl J x 6 X) u 17 T)) = some (0, some (.int ((rke T j a v lo hi).1)), 0, 0, zwi μ (zfl (zfl J x 6 X) u 17 ((rke T j a v lo hi).2))) := by
  refine (zd_in (d := d + 1) (cd := zc151) (nL := 5) (L := [(0, .ref (u + j)), (1, .int (nI a)), (2, .int (v)), (3, .int (lo)), (4, .int (hi))]) rfl (Nat.le_of_ble_eq_true rfl) rfl).trans ?_
  refine (ys4 1 (v := .int (v)) rfl rfl rfl rfl).trans ?_
  refine (ys4 2 (v := .int (lo)) rfl rfl rfl rfl).trans ?_
  refine (ys4 4 (v := .int (hi)) rfl rfl rfl rfl).trans ?_
  refine (yc3 7 rfl rfl (Nat.le_of_ble_eq_true rfl) (Or.inl rfl) rfl rfl c_rin).trans ?_
  refine ys17_1 10 rfl rfl (fun h7 => ?_) (fun h7 => ?_)
  · refine (ys1 11 (x := 5) rfl rfl rfl).trans ?_
    refine (ys36 rfl rfl).trans ?_
    rw [show rke T j a v lo hi = (5, T) from by unfold rke; (try dsimp only); rw [if_pos h7]]; (first | done | rfl)
  · refine (ys4 13 (v := .ref (u + j)) rfl rfl rfl rfl).trans ?_
    refine (ys4 14 (v := .int (nI a)) rfl rfl rfl rfl).trans ?_
    refine (ys4 15 (v := .int (v)) rfl rfl rfl rfl).trans ?_
    refine (ywx 16 (N := n) rfl (j := a) rfl (zFS.tag hU.1 (j := j) hj hjt) (zFS.k0 hU.1 (j := j)) (zFS.ni hU.1 (j := j) hj hjn) (by omega) hn rfl (zfl_up (j := j) hj)).trans ?_
    generalize hT1 : zup T j a (v) = T1
    refine (ys1 17 (x := 0) rfl rfl rfl).trans ?_
    refine (ys36 rfl rfl).trans ?_
    rw [show rke T j a v lo hi = (0, T1) from by subst hT1; unfold rke; (try dsimp only); rw [if_neg h7]]; (first | done | rfl)

def reo1 (T : zFn) (X : zFn) (t : Nat) (l : Nat) : Int32 × zFn :=
  if (rnmL X t 1 t 0 0) = (-1) then
    if (nI l) = 6 then
      (4, T)
    else
      let T1 := zup T 1 l (1)
      let T2 := zup T1 0 0 (((nI l) + 1))
      (0, T2)
  else
    (2, T)

theorem c_eo1 {d : Nat} {x u : Nat} {X T J : zFn} {μ : zM} (hX : zMX μ x) (hU : zUU μ x u) {t : Nat} (ht : t < 401) (hV : ∀ j, j ≤ t → zTK X j) (hkind : X 2 t = 20) (hrole : X 5 t = 1) {l : Nat} (hl : T 0 0 = nI l) (hl6 : l ≤ 6) : zden zcds (d + 6) 152 [.ref (x + 0), .int (nI t)] (zwi μ (zfl (zfl J x 6 X) u 17 T)) = some (0, some (.int ((reo1 T X t l).1)), 0, 0, zwi μ (zfl (zfl J x 6 X) u 17 ((reo1 T X t l).2))) := by
  refine (zd_in (d := d + 5) (cd := zc152) (nL := 6) (L := [(0, .ref (x + 0)), (1, .int (nI t))]) rfl (Nat.le_of_ble_eq_true rfl) rfl).trans ?_
  refine (ys4 1 (v := .ref (x + 0)) rfl rfl rfl rfl).trans ?_
  refine (ygr 4 rfl (zFS.tag hX.1 (j := 0) (by decide) rfl) rfl hU.2.2.2).trans ?_
  refine (ys5 5 (L2 := [(2, .ref (u + 0)), (0, .ref (x + 0)), (1, .int (nI t))]) rfl rfl rfl rfl).trans ?_
  refine (ys4 6 (v := .ref (u + 0)) rfl rfl rfl rfl).trans ?_
  refine (yg 9 rfl (zFS.tag hU.1 (j := 0) (by decide) rfl) (zFS.ni hU.1 (j := 0) (by decide) rfl) (by decide) rfl (Eq.trans (zfl_at (j := 0) (by decide)) (show (T 0 0) = nI l from hl))).trans ?_
  refine (ys1 10 (x := 1) rfl rfl rfl).trans ?_
  refine (ys7_1 11 rfl rfl).trans ?_
  refine (ys5 12 (L2 := [(3, .int (((nI l) - 1))), (2, .ref (u + 0)), (0, .ref (x + 0)), (1, .int (nI t))]) rfl rfl rfl rfl).trans ?_
  refine (ys4 13 (v := .ref (u + 0)) rfl rfl rfl rfl).trans ?_
  refine (yg 16 rfl (zFS.tag hU.1 (j := 0) (by decide) rfl) (zFS.ni hU.1 (j := 0) (by decide) rfl) (by decide) rfl (zfl_at (j := 0) (by decide))).trans ?_
  refine (ys1 17 (x := 1) rfl rfl rfl).trans ?_
  refine (ys7_1 18 rfl rfl).trans ?_
  refine (ys5 20 (L2 := [(4, .int (((T 0 2) - 1))), (3, .int (((nI l) - 1))), (2, .ref (u + 0)), (0, .ref (x + 0)), (1, .int (nI t))]) rfl rfl rfl rfl).trans ?_
  refine (ys4 21 (v := .ref (x + 0)) rfl rfl rfl rfl).trans ?_
  refine (ygr 24 rfl (zFS.tag hX.1 (j := 0) (by decide) rfl) rfl (hX.2 1 (by decide))).trans ?_
  refine (ys4 25 (v := .int (nI t)) rfl rfl rfl rfl).trans ?_
  refine (ylx 26 (N := 401) rfl (j := t) rfl (Or.inl (zFS.tag hX.1 (j := 2) (by decide) rfl)) (zFS.ni hX.1 (j := 2) (by decide) rfl) (by omega) (by decide) rfl (Eq.trans (zfl_at2 (j := 2) hU.2.2.1 (by decide)) (show (X 2 t) = 20 from hkind))).trans ?_
  refine (ys1 28 (x := 21) rfl rfl rfl).trans ?_
  refine ys18_1 31 rfl rfl (fun h28 => absurd h28 (by decide)) (fun h28 => ?_)
  refine (ys1 40 (x := 0) rfl rfl rfl).trans ?_
  refine (ys5 42 (L2 := [(5, .int (0)), (4, .int (((T 0 2) - 1))), (3, .int (((nI l) - 1))), (2, .ref (u + 0)), (0, .ref (x + 0)), (1, .int (nI t))]) rfl rfl rfl rfl).trans ?_
  refine (ys4 43 (v := .ref (x + 0)) rfl rfl rfl rfl).trans ?_
  refine (ygr 46 rfl (zFS.tag hX.1 (j := 0) (by decide) rfl) rfl (hX.2 4 (by decide))).trans ?_
  refine (ys4 47 (v := .int (nI t)) rfl rfl rfl rfl).trans ?_
  refine (ylx 48 (N := 401) rfl (j := t) rfl (Or.inl (zFS.tag hX.1 (j := 5) (by decide) rfl)) (zFS.ni hX.1 (j := 5) (by decide) rfl) (by omega) (by decide) rfl (Eq.trans (zfl_at2 (j := 5) hU.2.2.1 (by decide)) (show (X 5 t) = 1 from hrole))).trans ?_
  refine (ys21k 128 rfl (by decide)).trans ?_
  refine (ys4 129 (v := .ref (x + 0)) rfl rfl rfl rfl).trans ?_
  refine (ys4 130 (v := .int (nI t)) rfl rfl rfl rfl).trans ?_
  refine (ys1 131 (x := 1) rfl rfl rfl).trans ?_
  refine (yc3 134 rfl rfl (Nat.le_of_ble_eq_true rfl) (Or.inr (by show ztg (zwi _ _) _ = _; rw [ztg_wi]; exact (zFS.tag hX.1 (j := 0) (by decide) rfl))) rfl rfl (zlt' (zUs hU) (c_rnm hX ht hV))).trans ?_
  refine (ys1 135 (x := (-1)) rfl rfl rfl).trans ?_
  refine ys18_0 138 rfl rfl (fun h135 => ?_) (fun h135 => ?_)
  · refine (ys4 141 (v := .ref (u + 0)) rfl rfl rfl rfl).trans ?_
    refine (yg 144 rfl (zFS.tag hU.1 (j := 0) (by decide) rfl) (zFS.ni hU.1 (j := 0) (by decide) rfl) (by decide) rfl (Eq.trans (zfl_at (j := 0) (by decide)) (show (T 0 0) = nI l from hl))).trans ?_
    refine (ys1 146 (x := 6) rfl rfl rfl).trans ?_
    refine ys18_1 149 rfl rfl (fun h146 => ?_) (fun h146 => ?_)
    · refine (ys1 150 (x := 4) rfl rfl rfl).trans ?_
      refine (ys36 rfl rfl).trans ?_
      rw [show reo1 T X t l = (4, T) from by unfold reo1; (try dsimp only); rw [if_pos h135, if_pos h146]]; (first | done | rfl)
    · refine (ys4 152 (v := .ref (u + 0)) rfl rfl rfl rfl).trans ?_
      refine (ygr 155 rfl (zFS.tag hU.1 (j := 0) (by decide) rfl) rfl (hU.2.1 0 (by decide))).trans ?_
      refine (ys4 156 (v := .ref (u + 0)) rfl rfl rfl rfl).trans ?_
      refine (yg 159 rfl (zFS.tag hU.1 (j := 0) (by decide) rfl) (zFS.ni hU.1 (j := 0) (by decide) rfl) (by decide) rfl (Eq.trans (zfl_at (j := 0) (by decide)) (show (T 0 0) = nI l from hl))).trans ?_
      refine (ys1 160 (x := 1) rfl rfl rfl).trans ?_
      refine (ywx 161 (N := 6) rfl (j := l) rfl (zFS.tag hU.1 (j := 1) (by decide) rfl) (zFS.k0 hU.1 (j := 1)) (zFS.ni hU.1 (j := 1) (by decide) rfl) (by rcases Nat.lt_or_ge l 6 with h | h; exact h; exact absurd (show nI l = 6 from by rw [show l = 6 from by omega]; rfl) h146) (by decide) rfl (zfl_up (j := 1) (by decide))).trans ?_
      generalize hT1 : zup T 1 l (1) = T1
      refine (ys4 162 (v := .ref (u + 0)) rfl rfl rfl rfl).trans ?_
      refine (ys14 163 rfl (Nat.le_of_ble_eq_true rfl) rfl).trans ?_
      refine (yg 166 rfl (zFS.tag hU.1 (j := 0) (by decide) rfl) (zFS.ni hU.1 (j := 0) (by decide) rfl) (by decide) rfl (Eq.trans (zfl_at (j := 0) (by decide)) (show (T1 0 0) = nI l from (by subst hT1; simp [zup]; exact hl)))).trans ?_
      refine (ys1 167 (x := 1) rfl rfl rfl).trans ?_
      refine (ys7_0 168 rfl rfl).trans ?_
      refine (yq 171 rfl (zFS.tag hU.1 (j := 0) (by decide) rfl) (zFS.k0 hU.1 (j := 0)) (zFS.ni hU.1 (j := 0) (by decide) rfl) (by decide) rfl (zfl_up (j := 0) (by decide))).trans ?_
      generalize hT2 : zup T1 0 0 (((nI l) + 1)) = T2
      refine (ys1 172 (x := 0) rfl rfl rfl).trans ?_
      refine (ys36 rfl rfl).trans ?_
      rw [show reo1 T X t l = (0, T2) from by subst hT2 hT1; unfold reo1; (try dsimp only); rw [if_pos h135, if_neg h146]]; (first | done | rfl)
  · refine (ys1 139 (x := 2) rfl rfl rfl).trans ?_
    refine (ys36 rfl rfl).trans ?_
    rw [show reo1 T X t l = (2, T) from by unfold reo1; (try dsimp only); rw [if_neg h135]]; (first | done | rfl)

def reo5 (T : zFn) (X : zFn) (t : Nat) (l : Nat) : Int32 × zFn :=
  if (T 1 l) = 6 then
    (4, T)
  else
    let T1 := zup T 1 l (((T 1 l) + 1))
    (0, T1)

theorem c_eo5 {d : Nat} {x u : Nat} {X T J : zFn} {μ : zM} (hX : zMX μ x) (hU : zUU μ x u) {t : Nat} (ht : t < 401) (hV : ∀ j, j ≤ t → zTK X j) (hkind : X 2 t = 2) (hrole : X 5 t = 5) {l : Nat} (hl : T 0 0 = nI (l + 1)) (hl6 : l < 6) {s : Nat} (hs : T 1 l = nI (s + 1)) (hs6 : s < 6) : zden zcds (d + 6) 152 [.ref (x + 0), .int (nI t)] (zwi μ (zfl (zfl J x 6 X) u 17 T)) = some (0, some (.int ((reo5 T X t l).1)), 0, 0, zwi μ (zfl (zfl J x 6 X) u 17 ((reo5 T X t l).2))) := by
  refine (zd_in (d := d + 5) (cd := zc152) (nL := 6) (L := [(0, .ref (x + 0)), (1, .int (nI t))]) rfl (Nat.le_of_ble_eq_true rfl) rfl).trans ?_
  refine (ys4 1 (v := .ref (x + 0)) rfl rfl rfl rfl).trans ?_
  refine (ygr 4 rfl (zFS.tag hX.1 (j := 0) (by decide) rfl) rfl hU.2.2.2).trans ?_
  refine (ys5 5 (L2 := [(2, .ref (u + 0)), (0, .ref (x + 0)), (1, .int (nI t))]) rfl rfl rfl rfl).trans ?_
  refine (ys4 6 (v := .ref (u + 0)) rfl rfl rfl rfl).trans ?_
  refine (yg 9 rfl (zFS.tag hU.1 (j := 0) (by decide) rfl) (zFS.ni hU.1 (j := 0) (by decide) rfl) (by decide) rfl (Eq.trans (zfl_at (j := 0) (by decide)) (show (T 0 0) = nI (l + 1) from hl))).trans ?_
  refine (ys1 10 (x := 1) rfl rfl rfl).trans ?_
  refine (ys7_1 11 rfl rfl).trans ?_
  rw [show ((nI (l + 1)) - 1) = (nI l) from nI_pred _]
  refine (ys5 12 (L2 := [(3, .int ((nI l))), (2, .ref (u + 0)), (0, .ref (x + 0)), (1, .int (nI t))]) rfl rfl rfl rfl).trans ?_
  refine (ys4 13 (v := .ref (u + 0)) rfl rfl rfl rfl).trans ?_
  refine (yg 16 rfl (zFS.tag hU.1 (j := 0) (by decide) rfl) (zFS.ni hU.1 (j := 0) (by decide) rfl) (by decide) rfl (zfl_at (j := 0) (by decide))).trans ?_
  refine (ys1 17 (x := 1) rfl rfl rfl).trans ?_
  refine (ys7_1 18 rfl rfl).trans ?_
  refine (ys5 20 (L2 := [(4, .int (((T 0 2) - 1))), (3, .int ((nI l))), (2, .ref (u + 0)), (0, .ref (x + 0)), (1, .int (nI t))]) rfl rfl rfl rfl).trans ?_
  refine (ys4 21 (v := .ref (x + 0)) rfl rfl rfl rfl).trans ?_
  refine (ygr 24 rfl (zFS.tag hX.1 (j := 0) (by decide) rfl) rfl (hX.2 1 (by decide))).trans ?_
  refine (ys4 25 (v := .int (nI t)) rfl rfl rfl rfl).trans ?_
  refine (ylx 26 (N := 401) rfl (j := t) rfl (Or.inl (zFS.tag hX.1 (j := 2) (by decide) rfl)) (zFS.ni hX.1 (j := 2) (by decide) rfl) (by omega) (by decide) rfl (Eq.trans (zfl_at2 (j := 2) hU.2.2.1 (by decide)) (show (X 2 t) = 2 from hkind))).trans ?_
  refine (ys1 28 (x := 21) rfl rfl rfl).trans ?_
  refine ys18_1 31 rfl rfl (fun h28 => absurd h28 (by decide)) (fun h28 => ?_)
  refine (ys1 40 (x := 0) rfl rfl rfl).trans ?_
  refine (ys5 42 (L2 := [(5, .int (0)), (4, .int (((T 0 2) - 1))), (3, .int ((nI l))), (2, .ref (u + 0)), (0, .ref (x + 0)), (1, .int (nI t))]) rfl rfl rfl rfl).trans ?_
  refine (ys4 43 (v := .ref (x + 0)) rfl rfl rfl rfl).trans ?_
  refine (ygr 46 rfl (zFS.tag hX.1 (j := 0) (by decide) rfl) rfl (hX.2 4 (by decide))).trans ?_
  refine (ys4 47 (v := .int (nI t)) rfl rfl rfl rfl).trans ?_
  refine (ylx 48 (N := 401) rfl (j := t) rfl (Or.inl (zFS.tag hX.1 (j := 5) (by decide) rfl)) (zFS.ni hX.1 (j := 5) (by decide) rfl) (by omega) (by decide) rfl (Eq.trans (zfl_at2 (j := 5) hU.2.2.1 (by decide)) (show (X 5 t) = 5 from hrole))).trans ?_
  refine (ys21k 173 rfl (by decide)).trans ?_
  refine (ys4 174 (v := .ref (u + 0)) rfl rfl rfl rfl).trans ?_
  refine (ygr 177 rfl (zFS.tag hU.1 (j := 0) (by decide) rfl) rfl (hU.2.1 0 (by decide))).trans ?_
  refine (ys4 178 (v := .int ((nI l))) rfl rfl rfl rfl).trans ?_
  refine (ylx 179 (N := 6) rfl (j := l) rfl (Or.inl (zFS.tag hU.1 (j := 1) (by decide) rfl)) (zFS.ni hU.1 (j := 1) (by decide) rfl) (by omega) (by decide) rfl (zfl_at (j := 1) (by decide))).trans ?_
  refine (ys1 181 (x := 6) rfl rfl rfl).trans ?_
  refine ys18_1 184 rfl rfl (fun h181 => ?_) (fun h181 => ?_)
  · refine (ys1 185 (x := 4) rfl rfl rfl).trans ?_
    refine (ys36 rfl rfl).trans ?_
    rw [show reo5 T X t l = (4, T) from by unfold reo5; (try dsimp only); rw [if_pos h181]]; (first | done | rfl)
  · refine (ys4 187 (v := .ref (u + 0)) rfl rfl rfl rfl).trans ?_
    refine (ygr 190 rfl (zFS.tag hU.1 (j := 0) (by decide) rfl) rfl (hU.2.1 0 (by decide))).trans ?_
    refine (ys4 191 (v := .int ((nI l))) rfl rfl rfl rfl).trans ?_
    refine (ys15 192 rfl (Nat.le_of_ble_eq_true rfl) (Nat.le_of_ble_eq_true rfl) rfl).trans ?_
    refine (ylx 193 (N := 6) rfl (j := l) rfl (Or.inl (zFS.tag hU.1 (j := 1) (by decide) rfl)) (zFS.ni hU.1 (j := 1) (by decide) rfl) (by omega) (by decide) rfl (zfl_at (j := 1) (by decide))).trans ?_
    refine (ys1 194 (x := 1) rfl rfl rfl).trans ?_
    refine (ys7_0 195 rfl rfl).trans ?_
    refine (ywx 196 (N := 6) rfl (j := l) rfl (zFS.tag hU.1 (j := 1) (by decide) rfl) (zFS.k0 hU.1 (j := 1)) (zFS.ni hU.1 (j := 1) (by decide) rfl) (by omega) (by decide) rfl (zfl_up (j := 1) (by decide))).trans ?_
    generalize hT1 : zup T 1 l (((T 1 l) + 1)) = T1
    refine (ys1 197 (x := 0) rfl rfl rfl).trans ?_
    refine (ys36 rfl rfl).trans ?_
    rw [show reo5 T X t l = (0, T1) from by subst hT1; unfold reo5; (try dsimp only); rw [if_neg h181]]; (first | done | rfl)

def reo6 (T : zFn) (X : zFn) (t : Nat) (l : Nat) (s : Nat) : Int32 × zFn :=
  let r1 := rke T 2 (6 * l + s) (rnoL X t (rmn X t) 0 0) 0 63
  (r1.1, r1.2)

theorem c_eo6 {d : Nat} {x u : Nat} {X T J : zFn} {μ : zM} (hX : zMX μ x) (hU : zUU μ x u) {t : Nat} (ht : t < 401) (hV : ∀ j, j ≤ t → zTK X j) (hkind : X 2 t = 21) (hrole : X 5 t = 6) {l : Nat} (hl : T 0 0 = nI (l + 1)) (hl6 : l < 6) {s : Nat} (hs : T 1 l = nI (s + 1)) (hs6 : s < 6) : zden zcds (d + 6) 152 [.ref (x + 0), .int (nI t)] (zwi μ (zfl (zfl J x 6 X) u 17 T)) = some (0, some (.int ((reo6 T X t l s).1)), 0, 0, zwi μ (zfl (zfl J x 6 X) u 17 ((reo6 T X t l s).2))) := by
  refine (zd_in (d := d + 5) (cd := zc152) (nL := 6) (L := [(0, .ref (x + 0)), (1, .int (nI t))]) rfl (Nat.le_of_ble_eq_true rfl) rfl).trans ?_
  refine (ys4 1 (v := .ref (x + 0)) rfl rfl rfl rfl).trans ?_
  refine (ygr 4 rfl (zFS.tag hX.1 (j := 0) (by decide) rfl) rfl hU.2.2.2).trans ?_
  refine (ys5 5 (L2 := [(2, .ref (u + 0)), (0, .ref (x + 0)), (1, .int (nI t))]) rfl rfl rfl rfl).trans ?_
  refine (ys4 6 (v := .ref (u + 0)) rfl rfl rfl rfl).trans ?_
  refine (yg 9 rfl (zFS.tag hU.1 (j := 0) (by decide) rfl) (zFS.ni hU.1 (j := 0) (by decide) rfl) (by decide) rfl (Eq.trans (zfl_at (j := 0) (by decide)) (show (T 0 0) = nI (l + 1) from hl))).trans ?_
  refine (ys1 10 (x := 1) rfl rfl rfl).trans ?_
  refine (ys7_1 11 rfl rfl).trans ?_
  rw [show ((nI (l + 1)) - 1) = (nI l) from nI_pred _]
  refine (ys5 12 (L2 := [(3, .int ((nI l))), (2, .ref (u + 0)), (0, .ref (x + 0)), (1, .int (nI t))]) rfl rfl rfl rfl).trans ?_
  refine (ys4 13 (v := .ref (u + 0)) rfl rfl rfl rfl).trans ?_
  refine (yg 16 rfl (zFS.tag hU.1 (j := 0) (by decide) rfl) (zFS.ni hU.1 (j := 0) (by decide) rfl) (by decide) rfl (zfl_at (j := 0) (by decide))).trans ?_
  refine (ys1 17 (x := 1) rfl rfl rfl).trans ?_
  refine (ys7_1 18 rfl rfl).trans ?_
  refine (ys5 20 (L2 := [(4, .int (((T 0 2) - 1))), (3, .int ((nI l))), (2, .ref (u + 0)), (0, .ref (x + 0)), (1, .int (nI t))]) rfl rfl rfl rfl).trans ?_
  refine (ys4 21 (v := .ref (x + 0)) rfl rfl rfl rfl).trans ?_
  refine (ygr 24 rfl (zFS.tag hX.1 (j := 0) (by decide) rfl) rfl (hX.2 1 (by decide))).trans ?_
  refine (ys4 25 (v := .int (nI t)) rfl rfl rfl rfl).trans ?_
  refine (ylx 26 (N := 401) rfl (j := t) rfl (Or.inl (zFS.tag hX.1 (j := 2) (by decide) rfl)) (zFS.ni hX.1 (j := 2) (by decide) rfl) (by omega) (by decide) rfl (Eq.trans (zfl_at2 (j := 2) hU.2.2.1 (by decide)) (show (X 2 t) = 21 from hkind))).trans ?_
  refine (ys1 28 (x := 21) rfl rfl rfl).trans ?_
  refine ys18_1 31 rfl rfl (fun h28 => ?_) (fun h28 => absurd (by decide) h28)
  refine (ys4 32 (v := .ref (x + 0)) rfl rfl rfl rfl).trans ?_
  refine (ys4 33 (v := .int (nI t)) rfl rfl rfl rfl).trans ?_
  refine (yc2 36 rfl rfl (Nat.le_of_ble_eq_true rfl) (Or.inr (by show ztg (zwi _ _) _ = _; rw [ztg_wi]; exact (zFS.tag hX.1 (j := 0) (by decide) rfl))) rfl rfl (zlt' (zUs hU) (c_rno hX ht (hV t (Nat.le_refl _))))).trans ?_
  refine (ys19 rfl).trans ?_
  refine (ys5 42 (L2 := [(5, .int ((rnoL X t (rmn X t) 0 0))), (4, .int (((T 0 2) - 1))), (3, .int ((nI l))), (2, .ref (u + 0)), (0, .ref (x + 0)), (1, .int (nI t))]) rfl rfl rfl rfl).trans ?_
  refine (ys4 43 (v := .ref (x + 0)) rfl rfl rfl rfl).trans ?_
  refine (ygr 46 rfl (zFS.tag hX.1 (j := 0) (by decide) rfl) rfl (hX.2 4 (by decide))).trans ?_
  refine (ys4 47 (v := .int (nI t)) rfl rfl rfl rfl).trans ?_
  refine (ylx 48 (N := 401) rfl (j := t) rfl (Or.inl (zFS.tag hX.1 (j := 5) (by decide) rfl)) (zFS.ni hX.1 (j := 5) (by decide) rfl) (by omega) (by decide) rfl (Eq.trans (zfl_at2 (j := 5) hU.2.2.1 (by decide)) (show (X 5 t) = 6 from hrole))).trans ?_
  refine (ys21k 198 rfl (by decide)).trans ?_
  refine (ys4 199 (v := .ref (u + 0)) rfl rfl rfl rfl).trans ?_
  refine (ygr 202 rfl (zFS.tag hU.1 (j := 0) (by decide) rfl) rfl (hU.2.1 1 (by decide))).trans ?_
  refine (ys1 204 (x := 6) rfl rfl rfl).trans ?_
  refine (ys4 205 (v := .int ((nI l))) rfl rfl rfl rfl).trans ?_
  refine (ys7_2 206 rfl rfl).trans ?_
  rw [show (6 * (nI l)) = nI (6 * l) from pk_mul 6 l]
  refine (ys4 207 (v := .ref (u + 0)) rfl rfl rfl rfl).trans ?_
  refine (ygr 210 rfl (zFS.tag hU.1 (j := 0) (by decide) rfl) rfl (hU.2.1 0 (by decide))).trans ?_
  refine (ys4 211 (v := .int ((nI l))) rfl rfl rfl rfl).trans ?_
  refine (ylx 212 (N := 6) rfl (j := l) rfl (Or.inl (zFS.tag hU.1 (j := 1) (by decide) rfl)) (zFS.ni hU.1 (j := 1) (by decide) rfl) (by omega) (by decide) rfl (Eq.trans (zfl_at (j := 1) (by decide)) (show (T 1 l) = nI (s + 1) from hs))).trans ?_
  refine (ys7_0 213 rfl rfl).trans ?_
  rw [show ((nI (6 * l)) + (nI (s + 1))) = nI ((6 * l) + (s + 1)) from nI_add (6 * l) (s + 1)]
  refine (ys1 214 (x := 1) rfl rfl rfl).trans ?_
  refine (ys7_1 215 rfl rfl).trans ?_
  rw [show ((nI ((6 * l) + (s + 1))) - 1) = (nI (6 * l + s)) from nI_pred _]
  refine (ys4 217 (v := .int ((rnoL X t (rmn X t) 0 0))) rfl rfl rfl rfl).trans ?_
  refine (ys1 218 (x := 0) rfl rfl rfl).trans ?_
  refine (ys1 220 (x := 63) rfl rfl rfl).trans ?_
  refine (yc5 223 rfl rfl (Nat.le_of_ble_eq_true rfl) (Or.inl rfl) rfl rfl (c_kee hX hU (j := 2) (n := 36) (by decide) rfl rfl (by decide) (by omega))).trans ?_
  generalize hr1 : rke T 2 (6 * l + s) (rnoL X t (rmn X t) 0 0) 0 63 = r1
  refine (ys36 rfl rfl).trans ?_
  rw [show reo6 T X t l s = (r1.1, r1.2) from by subst hr1; unfold reo6; (try dsimp only); first | done | rfl]; (first | done | rfl)

def reo7 (T : zFn) (X : zFn) (t : Nat) (l : Nat) (s : Nat) : Int32 × zFn :=
  let r1 := rke T 3 (6 * l + s) (rnoL X t (rmn X t) 0 0) 0 63
  (r1.1, r1.2)

theorem c_eo7 {d : Nat} {x u : Nat} {X T J : zFn} {μ : zM} (hX : zMX μ x) (hU : zUU μ x u) {t : Nat} (ht : t < 401) (hV : ∀ j, j ≤ t → zTK X j) (hkind : X 2 t = 21) (hrole : X 5 t = 7) {l : Nat} (hl : T 0 0 = nI (l + 1)) (hl6 : l < 6) {s : Nat} (hs : T 1 l = nI (s + 1)) (hs6 : s < 6) : zden zcds (d + 6) 152 [.ref (x + 0), .int (nI t)] (zwi μ (zfl (zfl J x 6 X) u 17 T)) = some (0, some (.int ((reo7 T X t l s).1)), 0, 0, zwi μ (zfl (zfl J x 6 X) u 17 ((reo7 T X t l s).2))) := by
  refine (zd_in (d := d + 5) (cd := zc152) (nL := 6) (L := [(0, .ref (x + 0)), (1, .int (nI t))]) rfl (Nat.le_of_ble_eq_true rfl) rfl).trans ?_
  refine (ys4 1 (v := .ref (x + 0)) rfl rfl rfl rfl).trans ?_
  refine (ygr 4 rfl (zFS.tag hX.1 (j := 0) (by decide) rfl) rfl hU.2.2.2).trans ?_
  refine (ys5 5 (L2 := [(2, .ref (u + 0)), (0, .ref (x + 0)), (1, .int (nI t))]) rfl rfl rfl rfl).trans ?_
  refine (ys4 6 (v := .ref (u + 0)) rfl rfl rfl rfl).trans ?_
  refine (yg 9 rfl (zFS.tag hU.1 (j := 0) (by decide) rfl) (zFS.ni hU.1 (j := 0) (by decide) rfl) (by decide) rfl (Eq.trans (zfl_at (j := 0) (by decide)) (show (T 0 0) = nI (l + 1) from hl))).trans ?_
  refine (ys1 10 (x := 1) rfl rfl rfl).trans ?_
  refine (ys7_1 11 rfl rfl).trans ?_
  rw [show ((nI (l + 1)) - 1) = (nI l) from nI_pred _]
  refine (ys5 12 (L2 := [(3, .int ((nI l))), (2, .ref (u + 0)), (0, .ref (x + 0)), (1, .int (nI t))]) rfl rfl rfl rfl).trans ?_
  refine (ys4 13 (v := .ref (u + 0)) rfl rfl rfl rfl).trans ?_
  refine (yg 16 rfl (zFS.tag hU.1 (j := 0) (by decide) rfl) (zFS.ni hU.1 (j := 0) (by decide) rfl) (by decide) rfl (zfl_at (j := 0) (by decide))).trans ?_
  refine (ys1 17 (x := 1) rfl rfl rfl).trans ?_
  refine (ys7_1 18 rfl rfl).trans ?_
  refine (ys5 20 (L2 := [(4, .int (((T 0 2) - 1))), (3, .int ((nI l))), (2, .ref (u + 0)), (0, .ref (x + 0)), (1, .int (nI t))]) rfl rfl rfl rfl).trans ?_
  refine (ys4 21 (v := .ref (x + 0)) rfl rfl rfl rfl).trans ?_
  refine (ygr 24 rfl (zFS.tag hX.1 (j := 0) (by decide) rfl) rfl (hX.2 1 (by decide))).trans ?_
  refine (ys4 25 (v := .int (nI t)) rfl rfl rfl rfl).trans ?_
  refine (ylx 26 (N := 401) rfl (j := t) rfl (Or.inl (zFS.tag hX.1 (j := 2) (by decide) rfl)) (zFS.ni hX.1 (j := 2) (by decide) rfl) (by omega) (by decide) rfl (Eq.trans (zfl_at2 (j := 2) hU.2.2.1 (by decide)) (show (X 2 t) = 21 from hkind))).trans ?_
  refine (ys1 28 (x := 21) rfl rfl rfl).trans ?_
  refine ys18_1 31 rfl rfl (fun h28 => ?_) (fun h28 => absurd (by decide) h28)
  refine (ys4 32 (v := .ref (x + 0)) rfl rfl rfl rfl).trans ?_
  refine (ys4 33 (v := .int (nI t)) rfl rfl rfl rfl).trans ?_
  refine (yc2 36 rfl rfl (Nat.le_of_ble_eq_true rfl) (Or.inr (by show ztg (zwi _ _) _ = _; rw [ztg_wi]; exact (zFS.tag hX.1 (j := 0) (by decide) rfl))) rfl rfl (zlt' (zUs hU) (c_rno hX ht (hV t (Nat.le_refl _))))).trans ?_
  refine (ys19 rfl).trans ?_
  refine (ys5 42 (L2 := [(5, .int ((rnoL X t (rmn X t) 0 0))), (4, .int (((T 0 2) - 1))), (3, .int ((nI l))), (2, .ref (u + 0)), (0, .ref (x + 0)), (1, .int (nI t))]) rfl rfl rfl rfl).trans ?_
  refine (ys4 43 (v := .ref (x + 0)) rfl rfl rfl rfl).trans ?_
  refine (ygr 46 rfl (zFS.tag hX.1 (j := 0) (by decide) rfl) rfl (hX.2 4 (by decide))).trans ?_
  refine (ys4 47 (v := .int (nI t)) rfl rfl rfl rfl).trans ?_
  refine (ylx 48 (N := 401) rfl (j := t) rfl (Or.inl (zFS.tag hX.1 (j := 5) (by decide) rfl)) (zFS.ni hX.1 (j := 5) (by decide) rfl) (by omega) (by decide) rfl (Eq.trans (zfl_at2 (j := 5) hU.2.2.1 (by decide)) (show (X 5 t) = 7 from hrole))).trans ?_
  refine (ys21k 224 rfl (by decide)).trans ?_
  refine (ys4 225 (v := .ref (u + 0)) rfl rfl rfl rfl).trans ?_
  refine (ygr 228 rfl (zFS.tag hU.1 (j := 0) (by decide) rfl) rfl (hU.2.1 2 (by decide))).trans ?_
  refine (ys1 230 (x := 6) rfl rfl rfl).trans ?_
  refine (ys4 231 (v := .int ((nI l))) rfl rfl rfl rfl).trans ?_
  refine (ys7_2 232 rfl rfl).trans ?_
  rw [show (6 * (nI l)) = nI (6 * l) from pk_mul 6 l]
  refine (ys4 233 (v := .ref (u + 0)) rfl rfl rfl rfl).trans ?_
  refine (ygr 236 rfl (zFS.tag hU.1 (j := 0) (by decide) rfl) rfl (hU.2.1 0 (by decide))).trans ?_
  refine (ys4 237 (v := .int ((nI l))) rfl rfl rfl rfl).trans ?_
  refine (ylx 238 (N := 6) rfl (j := l) rfl (Or.inl (zFS.tag hU.1 (j := 1) (by decide) rfl)) (zFS.ni hU.1 (j := 1) (by decide) rfl) (by omega) (by decide) rfl (Eq.trans (zfl_at (j := 1) (by decide)) (show (T 1 l) = nI (s + 1) from hs))).trans ?_
  refine (ys7_0 239 rfl rfl).trans ?_
  rw [show ((nI (6 * l)) + (nI (s + 1))) = nI ((6 * l) + (s + 1)) from nI_add (6 * l) (s + 1)]
  refine (ys1 240 (x := 1) rfl rfl rfl).trans ?_
  refine (ys7_1 241 rfl rfl).trans ?_
  rw [show ((nI ((6 * l) + (s + 1))) - 1) = (nI (6 * l + s)) from nI_pred _]
  refine (ys4 243 (v := .int ((rnoL X t (rmn X t) 0 0))) rfl rfl rfl rfl).trans ?_
  refine (ys1 244 (x := 0) rfl rfl rfl).trans ?_
  refine (ys1 246 (x := 63) rfl rfl rfl).trans ?_
  refine (yc5 249 rfl rfl (Nat.le_of_ble_eq_true rfl) (Or.inl rfl) rfl rfl (c_kee hX hU (j := 3) (n := 36) (by decide) rfl rfl (by decide) (by omega))).trans ?_
  generalize hr1 : rke T 3 (6 * l + s) (rnoL X t (rmn X t) 0 0) 0 63 = r1
  refine (ys36 rfl rfl).trans ?_
  rw [show reo7 T X t l s = (r1.1, r1.2) from by subst hr1; unfold reo7; (try dsimp only); first | done | rfl]; (first | done | rfl)

def reo8 (T : zFn) (X : zFn) (t : Nat) (l : Nat) : Int32 × zFn :=
  let r1 := rke T 4 l (rnoL X t (rmn X t) 0 0) 0 5
  (r1.1, r1.2)

theorem c_eo8 {d : Nat} {x u : Nat} {X T J : zFn} {μ : zM} (hX : zMX μ x) (hU : zUU μ x u) {t : Nat} (ht : t < 401) (hV : ∀ j, j ≤ t → zTK X j) (hkind : X 2 t = 21) (hrole : X 5 t = 8) {l : Nat} (hl : T 0 0 = nI (l + 1)) (hl6 : l < 6) : zden zcds (d + 6) 152 [.ref (x + 0), .int (nI t)] (zwi μ (zfl (zfl J x 6 X) u 17 T)) = some (0, some (.int ((reo8 T X t l).1)), 0, 0, zwi μ (zfl (zfl J x 6 X) u 17 ((reo8 T X t l).2))) := by
  refine (zd_in (d := d + 5) (cd := zc152) (nL := 6) (L := [(0, .ref (x + 0)), (1, .int (nI t))]) rfl (Nat.le_of_ble_eq_true rfl) rfl).trans ?_
  refine (ys4 1 (v := .ref (x + 0)) rfl rfl rfl rfl).trans ?_
  refine (ygr 4 rfl (zFS.tag hX.1 (j := 0) (by decide) rfl) rfl hU.2.2.2).trans ?_
  refine (ys5 5 (L2 := [(2, .ref (u + 0)), (0, .ref (x + 0)), (1, .int (nI t))]) rfl rfl rfl rfl).trans ?_
  refine (ys4 6 (v := .ref (u + 0)) rfl rfl rfl rfl).trans ?_
  refine (yg 9 rfl (zFS.tag hU.1 (j := 0) (by decide) rfl) (zFS.ni hU.1 (j := 0) (by decide) rfl) (by decide) rfl (Eq.trans (zfl_at (j := 0) (by decide)) (show (T 0 0) = nI (l + 1) from hl))).trans ?_
  refine (ys1 10 (x := 1) rfl rfl rfl).trans ?_
  refine (ys7_1 11 rfl rfl).trans ?_
  rw [show ((nI (l + 1)) - 1) = (nI l) from nI_pred _]
  refine (ys5 12 (L2 := [(3, .int ((nI l))), (2, .ref (u + 0)), (0, .ref (x + 0)), (1, .int (nI t))]) rfl rfl rfl rfl).trans ?_
  refine (ys4 13 (v := .ref (u + 0)) rfl rfl rfl rfl).trans ?_
  refine (yg 16 rfl (zFS.tag hU.1 (j := 0) (by decide) rfl) (zFS.ni hU.1 (j := 0) (by decide) rfl) (by decide) rfl (zfl_at (j := 0) (by decide))).trans ?_
  refine (ys1 17 (x := 1) rfl rfl rfl).trans ?_
  refine (ys7_1 18 rfl rfl).trans ?_
  refine (ys5 20 (L2 := [(4, .int (((T 0 2) - 1))), (3, .int ((nI l))), (2, .ref (u + 0)), (0, .ref (x + 0)), (1, .int (nI t))]) rfl rfl rfl rfl).trans ?_
  refine (ys4 21 (v := .ref (x + 0)) rfl rfl rfl rfl).trans ?_
  refine (ygr 24 rfl (zFS.tag hX.1 (j := 0) (by decide) rfl) rfl (hX.2 1 (by decide))).trans ?_
  refine (ys4 25 (v := .int (nI t)) rfl rfl rfl rfl).trans ?_
  refine (ylx 26 (N := 401) rfl (j := t) rfl (Or.inl (zFS.tag hX.1 (j := 2) (by decide) rfl)) (zFS.ni hX.1 (j := 2) (by decide) rfl) (by omega) (by decide) rfl (Eq.trans (zfl_at2 (j := 2) hU.2.2.1 (by decide)) (show (X 2 t) = 21 from hkind))).trans ?_
  refine (ys1 28 (x := 21) rfl rfl rfl).trans ?_
  refine ys18_1 31 rfl rfl (fun h28 => ?_) (fun h28 => absurd (by decide) h28)
  refine (ys4 32 (v := .ref (x + 0)) rfl rfl rfl rfl).trans ?_
  refine (ys4 33 (v := .int (nI t)) rfl rfl rfl rfl).trans ?_
  refine (yc2 36 rfl rfl (Nat.le_of_ble_eq_true rfl) (Or.inr (by show ztg (zwi _ _) _ = _; rw [ztg_wi]; exact (zFS.tag hX.1 (j := 0) (by decide) rfl))) rfl rfl (zlt' (zUs hU) (c_rno hX ht (hV t (Nat.le_refl _))))).trans ?_
  refine (ys19 rfl).trans ?_
  refine (ys5 42 (L2 := [(5, .int ((rnoL X t (rmn X t) 0 0))), (4, .int (((T 0 2) - 1))), (3, .int ((nI l))), (2, .ref (u + 0)), (0, .ref (x + 0)), (1, .int (nI t))]) rfl rfl rfl rfl).trans ?_
  refine (ys4 43 (v := .ref (x + 0)) rfl rfl rfl rfl).trans ?_
  refine (ygr 46 rfl (zFS.tag hX.1 (j := 0) (by decide) rfl) rfl (hX.2 4 (by decide))).trans ?_
  refine (ys4 47 (v := .int (nI t)) rfl rfl rfl rfl).trans ?_
  refine (ylx 48 (N := 401) rfl (j := t) rfl (Or.inl (zFS.tag hX.1 (j := 5) (by decide) rfl)) (zFS.ni hX.1 (j := 5) (by decide) rfl) (by omega) (by decide) rfl (Eq.trans (zfl_at2 (j := 5) hU.2.2.1 (by decide)) (show (X 5 t) = 8 from hrole))).trans ?_
  refine (ys21k 250 rfl (by decide)).trans ?_
  refine (ys4 251 (v := .ref (u + 0)) rfl rfl rfl rfl).trans ?_
  refine (ygr 254 rfl (zFS.tag hU.1 (j := 0) (by decide) rfl) rfl (hU.2.1 3 (by decide))).trans ?_
  refine (ys4 255 (v := .int ((nI l))) rfl rfl rfl rfl).trans ?_
  refine (ys4 257 (v := .int ((rnoL X t (rmn X t) 0 0))) rfl rfl rfl rfl).trans ?_
  refine (ys1 258 (x := 0) rfl rfl rfl).trans ?_
  refine (ys1 259 (x := 5) rfl rfl rfl).trans ?_
  refine (yc5 262 rfl rfl (Nat.le_of_ble_eq_true rfl) (Or.inl rfl) rfl rfl (c_kee hX hU (j := 4) (n := 6) (by decide) rfl rfl (by decide) (by omega))).trans ?_
  generalize hr1 : rke T 4 l (rnoL X t (rmn X t) 0 0) 0 5 = r1
  refine (ys36 rfl rfl).trans ?_
  rw [show reo8 T X t l = (r1.1, r1.2) from by subst hr1; unfold reo8; (try dsimp only); first | done | rfl]; (first | done | rfl)

def reo4 (T : zFn) (X : zFn) (t : Nat) (h : Nat) : Int32 × zFn :=
  if (nI h) = 6 then
    (4, T)
  else
    let T1 := zup T 12 h (4)
    let T2 := zup T1 0 2 (((nI h) + 1))
    (0, T2)

theorem c_eo4 {d : Nat} {x u : Nat} {X T J : zFn} {μ : zM} (hX : zMX μ x) (hU : zUU μ x u) {t : Nat} (ht : t < 401) (hV : ∀ j, j ≤ t → zTK X j) (hkind : X 2 t = 8) (hrole : X 5 t = 4) {h : Nat} (hh : T 0 2 = nI h) (hh6 : h ≤ 6) : zden zcds (d + 6) 152 [.ref (x + 0), .int (nI t)] (zwi μ (zfl (zfl J x 6 X) u 17 T)) = some (0, some (.int ((reo4 T X t h).1)), 0, 0, zwi μ (zfl (zfl J x 6 X) u 17 ((reo4 T X t h).2))) := by
  refine (zd_in (d := d + 5) (cd := zc152) (nL := 6) (L := [(0, .ref (x + 0)), (1, .int (nI t))]) rfl (Nat.le_of_ble_eq_true rfl) rfl).trans ?_
  refine (ys4 1 (v := .ref (x + 0)) rfl rfl rfl rfl).trans ?_
  refine (ygr 4 rfl (zFS.tag hX.1 (j := 0) (by decide) rfl) rfl hU.2.2.2).trans ?_
  refine (ys5 5 (L2 := [(2, .ref (u + 0)), (0, .ref (x + 0)), (1, .int (nI t))]) rfl rfl rfl rfl).trans ?_
  refine (ys4 6 (v := .ref (u + 0)) rfl rfl rfl rfl).trans ?_
  refine (yg 9 rfl (zFS.tag hU.1 (j := 0) (by decide) rfl) (zFS.ni hU.1 (j := 0) (by decide) rfl) (by decide) rfl (zfl_at (j := 0) (by decide))).trans ?_
  refine (ys1 10 (x := 1) rfl rfl rfl).trans ?_
  refine (ys7_1 11 rfl rfl).trans ?_
  refine (ys5 12 (L2 := [(3, .int (((T 0 0) - 1))), (2, .ref (u + 0)), (0, .ref (x + 0)), (1, .int (nI t))]) rfl rfl rfl rfl).trans ?_
  refine (ys4 13 (v := .ref (u + 0)) rfl rfl rfl rfl).trans ?_
  refine (yg 16 rfl (zFS.tag hU.1 (j := 0) (by decide) rfl) (zFS.ni hU.1 (j := 0) (by decide) rfl) (by decide) rfl (Eq.trans (zfl_at (j := 0) (by decide)) (show (T 0 2) = nI h from hh))).trans ?_
  refine (ys1 17 (x := 1) rfl rfl rfl).trans ?_
  refine (ys7_1 18 rfl rfl).trans ?_
  refine (ys5 20 (L2 := [(4, .int (((nI h) - 1))), (3, .int (((T 0 0) - 1))), (2, .ref (u + 0)), (0, .ref (x + 0)), (1, .int (nI t))]) rfl rfl rfl rfl).trans ?_
  refine (ys4 21 (v := .ref (x + 0)) rfl rfl rfl rfl).trans ?_
  refine (ygr 24 rfl (zFS.tag hX.1 (j := 0) (by decide) rfl) rfl (hX.2 1 (by decide))).trans ?_
  refine (ys4 25 (v := .int (nI t)) rfl rfl rfl rfl).trans ?_
  refine (ylx 26 (N := 401) rfl (j := t) rfl (Or.inl (zFS.tag hX.1 (j := 2) (by decide) rfl)) (zFS.ni hX.1 (j := 2) (by decide) rfl) (by omega) (by decide) rfl (Eq.trans (zfl_at2 (j := 2) hU.2.2.1 (by decide)) (show (X 2 t) = 8 from hkind))).trans ?_
  refine (ys1 28 (x := 21) rfl rfl rfl).trans ?_
  refine ys18_1 31 rfl rfl (fun h28 => absurd h28 (by decide)) (fun h28 => ?_)
  refine (ys1 40 (x := 0) rfl rfl rfl).trans ?_
  refine (ys5 42 (L2 := [(5, .int (0)), (4, .int (((nI h) - 1))), (3, .int (((T 0 0) - 1))), (2, .ref (u + 0)), (0, .ref (x + 0)), (1, .int (nI t))]) rfl rfl rfl rfl).trans ?_
  refine (ys4 43 (v := .ref (x + 0)) rfl rfl rfl rfl).trans ?_
  refine (ygr 46 rfl (zFS.tag hX.1 (j := 0) (by decide) rfl) rfl (hX.2 4 (by decide))).trans ?_
  refine (ys4 47 (v := .int (nI t)) rfl rfl rfl rfl).trans ?_
  refine (ylx 48 (N := 401) rfl (j := t) rfl (Or.inl (zFS.tag hX.1 (j := 5) (by decide) rfl)) (zFS.ni hX.1 (j := 5) (by decide) rfl) (by omega) (by decide) rfl (Eq.trans (zfl_at2 (j := 5) hU.2.2.1 (by decide)) (show (X 5 t) = 4 from hrole))).trans ?_
  refine (ys21k 263 rfl (by decide)).trans ?_
  refine (ys4 264 (v := .ref (u + 0)) rfl rfl rfl rfl).trans ?_
  refine (yg 267 rfl (zFS.tag hU.1 (j := 0) (by decide) rfl) (zFS.ni hU.1 (j := 0) (by decide) rfl) (by decide) rfl (Eq.trans (zfl_at (j := 0) (by decide)) (show (T 0 2) = nI h from hh))).trans ?_
  refine (ys1 269 (x := 6) rfl rfl rfl).trans ?_
  refine ys18_1 272 rfl rfl (fun h269 => ?_) (fun h269 => ?_)
  · refine (ys1 273 (x := 4) rfl rfl rfl).trans ?_
    refine (ys36 rfl rfl).trans ?_
    rw [show reo4 T X t h = (4, T) from by unfold reo4; (try dsimp only); rw [if_pos h269]]; (first | done | rfl)
  · refine (ys4 275 (v := .ref (u + 0)) rfl rfl rfl rfl).trans ?_
    refine (ygr 278 rfl (zFS.tag hU.1 (j := 0) (by decide) rfl) rfl (hU.2.1 11 (by decide))).trans ?_
    refine (ys4 279 (v := .ref (u + 0)) rfl rfl rfl rfl).trans ?_
    refine (yg 282 rfl (zFS.tag hU.1 (j := 0) (by decide) rfl) (zFS.ni hU.1 (j := 0) (by decide) rfl) (by decide) rfl (Eq.trans (zfl_at (j := 0) (by decide)) (show (T 0 2) = nI h from hh))).trans ?_
    refine (ys1 283 (x := 4) rfl rfl rfl).trans ?_
    refine (ywx 284 (N := 6) rfl (j := h) rfl (zFS.tag hU.1 (j := 12) (by decide) rfl) (zFS.k0 hU.1 (j := 12)) (zFS.ni hU.1 (j := 12) (by decide) rfl) (by rcases Nat.lt_or_ge h 6 with h1 | h1; exact h1; exact absurd (show nI h = 6 from by rw [show h = 6 from by omega]; rfl) h269) (by decide) rfl (zfl_up (j := 12) (by decide))).trans ?_
    generalize hT1 : zup T 12 h (4) = T1
    refine (ys4 285 (v := .ref (u + 0)) rfl rfl rfl rfl).trans ?_
    refine (ys14 286 rfl (Nat.le_of_ble_eq_true rfl) rfl).trans ?_
    refine (yg 289 rfl (zFS.tag hU.1 (j := 0) (by decide) rfl) (zFS.ni hU.1 (j := 0) (by decide) rfl) (by decide) rfl (Eq.trans (zfl_at (j := 0) (by decide)) (show (T1 0 2) = nI h from (by subst hT1; simp [zup]; exact hh)))).trans ?_
    refine (ys1 290 (x := 1) rfl rfl rfl).trans ?_
    refine (ys7_0 291 rfl rfl).trans ?_
    refine (yq 294 rfl (zFS.tag hU.1 (j := 0) (by decide) rfl) (zFS.k0 hU.1 (j := 0)) (zFS.ni hU.1 (j := 0) (by decide) rfl) (by decide) rfl (zfl_up (j := 0) (by decide))).trans ?_
    generalize hT2 : zup T1 0 2 (((nI h) + 1)) = T2
    refine (ys1 295 (x := 0) rfl rfl rfl).trans ?_
    refine (ys36 rfl rfl).trans ?_
    rw [show reo4 T X t h = (0, T2) from by subst hT2 hT1; unfold reo4; (try dsimp only); rw [if_neg h269]]; (first | done | rfl)

def reo13 (T : zFn) (X : zFn) (t : Nat) (h : Nat) : Int32 × zFn :=
  let r1 := rke T 9 h (rnoL X t (rmn X t) 0 0) 0 63
  (r1.1, r1.2)

theorem c_eo13 {d : Nat} {x u : Nat} {X T J : zFn} {μ : zM} (hX : zMX μ x) (hU : zUU μ x u) {t : Nat} (ht : t < 401) (hV : ∀ j, j ≤ t → zTK X j) (hkind : X 2 t = 21) (hrole : X 5 t = 13) {h : Nat} (hh : T 0 2 = nI (h + 1)) (hh6 : h < 6) : zden zcds (d + 6) 152 [.ref (x + 0), .int (nI t)] (zwi μ (zfl (zfl J x 6 X) u 17 T)) = some (0, some (.int ((reo13 T X t h).1)), 0, 0, zwi μ (zfl (zfl J x 6 X) u 17 ((reo13 T X t h).2))) := by
  refine (zd_in (d := d + 5) (cd := zc152) (nL := 6) (L := [(0, .ref (x + 0)), (1, .int (nI t))]) rfl (Nat.le_of_ble_eq_true rfl) rfl).trans ?_
  refine (ys4 1 (v := .ref (x + 0)) rfl rfl rfl rfl).trans ?_
  refine (ygr 4 rfl (zFS.tag hX.1 (j := 0) (by decide) rfl) rfl hU.2.2.2).trans ?_
  refine (ys5 5 (L2 := [(2, .ref (u + 0)), (0, .ref (x + 0)), (1, .int (nI t))]) rfl rfl rfl rfl).trans ?_
  refine (ys4 6 (v := .ref (u + 0)) rfl rfl rfl rfl).trans ?_
  refine (yg 9 rfl (zFS.tag hU.1 (j := 0) (by decide) rfl) (zFS.ni hU.1 (j := 0) (by decide) rfl) (by decide) rfl (zfl_at (j := 0) (by decide))).trans ?_
  refine (ys1 10 (x := 1) rfl rfl rfl).trans ?_
  refine (ys7_1 11 rfl rfl).trans ?_
  refine (ys5 12 (L2 := [(3, .int (((T 0 0) - 1))), (2, .ref (u + 0)), (0, .ref (x + 0)), (1, .int (nI t))]) rfl rfl rfl rfl).trans ?_
  refine (ys4 13 (v := .ref (u + 0)) rfl rfl rfl rfl).trans ?_
  refine (yg 16 rfl (zFS.tag hU.1 (j := 0) (by decide) rfl) (zFS.ni hU.1 (j := 0) (by decide) rfl) (by decide) rfl (Eq.trans (zfl_at (j := 0) (by decide)) (show (T 0 2) = nI (h + 1) from hh))).trans ?_
  refine (ys1 17 (x := 1) rfl rfl rfl).trans ?_
  refine (ys7_1 18 rfl rfl).trans ?_
  rw [show ((nI (h + 1)) - 1) = (nI h) from nI_pred _]
  refine (ys5 20 (L2 := [(4, .int ((nI h))), (3, .int (((T 0 0) - 1))), (2, .ref (u + 0)), (0, .ref (x + 0)), (1, .int (nI t))]) rfl rfl rfl rfl).trans ?_
  refine (ys4 21 (v := .ref (x + 0)) rfl rfl rfl rfl).trans ?_
  refine (ygr 24 rfl (zFS.tag hX.1 (j := 0) (by decide) rfl) rfl (hX.2 1 (by decide))).trans ?_
  refine (ys4 25 (v := .int (nI t)) rfl rfl rfl rfl).trans ?_
  refine (ylx 26 (N := 401) rfl (j := t) rfl (Or.inl (zFS.tag hX.1 (j := 2) (by decide) rfl)) (zFS.ni hX.1 (j := 2) (by decide) rfl) (by omega) (by decide) rfl (Eq.trans (zfl_at2 (j := 2) hU.2.2.1 (by decide)) (show (X 2 t) = 21 from hkind))).trans ?_
  refine (ys1 28 (x := 21) rfl rfl rfl).trans ?_
  refine ys18_1 31 rfl rfl (fun h28 => ?_) (fun h28 => absurd (by decide) h28)
  refine (ys4 32 (v := .ref (x + 0)) rfl rfl rfl rfl).trans ?_
  refine (ys4 33 (v := .int (nI t)) rfl rfl rfl rfl).trans ?_
  refine (yc2 36 rfl rfl (Nat.le_of_ble_eq_true rfl) (Or.inr (by show ztg (zwi _ _) _ = _; rw [ztg_wi]; exact (zFS.tag hX.1 (j := 0) (by decide) rfl))) rfl rfl (zlt' (zUs hU) (c_rno hX ht (hV t (Nat.le_refl _))))).trans ?_
  refine (ys19 rfl).trans ?_
  refine (ys5 42 (L2 := [(5, .int ((rnoL X t (rmn X t) 0 0))), (4, .int ((nI h))), (3, .int (((T 0 0) - 1))), (2, .ref (u + 0)), (0, .ref (x + 0)), (1, .int (nI t))]) rfl rfl rfl rfl).trans ?_
  refine (ys4 43 (v := .ref (x + 0)) rfl rfl rfl rfl).trans ?_
  refine (ygr 46 rfl (zFS.tag hX.1 (j := 0) (by decide) rfl) rfl (hX.2 4 (by decide))).trans ?_
  refine (ys4 47 (v := .int (nI t)) rfl rfl rfl rfl).trans ?_
  refine (ylx 48 (N := 401) rfl (j := t) rfl (Or.inl (zFS.tag hX.1 (j := 5) (by decide) rfl)) (zFS.ni hX.1 (j := 5) (by decide) rfl) (by omega) (by decide) rfl (Eq.trans (zfl_at2 (j := 5) hU.2.2.1 (by decide)) (show (X 5 t) = 13 from hrole))).trans ?_
  refine (ys21k 296 rfl (by decide)).trans ?_
  refine (ys4 297 (v := .ref (u + 0)) rfl rfl rfl rfl).trans ?_
  refine (ygr 300 rfl (zFS.tag hU.1 (j := 0) (by decide) rfl) rfl (hU.2.1 8 (by decide))).trans ?_
  refine (ys4 302 (v := .int ((nI h))) rfl rfl rfl rfl).trans ?_
  refine (ys4 304 (v := .int ((rnoL X t (rmn X t) 0 0))) rfl rfl rfl rfl).trans ?_
  refine (ys1 305 (x := 0) rfl rfl rfl).trans ?_
  refine (ys1 307 (x := 63) rfl rfl rfl).trans ?_
  refine (yc5 310 rfl rfl (Nat.le_of_ble_eq_true rfl) (Or.inl rfl) rfl rfl (c_kee hX hU (j := 9) (n := 6) (by decide) rfl rfl (by decide) (by omega))).trans ?_
  generalize hr1 : rke T 9 h (rnoL X t (rmn X t) 0 0) 0 63 = r1
  refine (ys36 rfl rfl).trans ?_
  rw [show reo13 T X t h = (r1.1, r1.2) from by subst hr1; unfold reo13; (try dsimp only); first | done | rfl]; (first | done | rfl)

def reo14 (T : zFn) (X : zFn) (t : Nat) (h : Nat) : Int32 × zFn :=
  let r1 := rke T 10 h (rnoL X t (rmn X t) 0 0) 0 63
  (r1.1, r1.2)

theorem c_eo14 {d : Nat} {x u : Nat} {X T J : zFn} {μ : zM} (hX : zMX μ x) (hU : zUU μ x u) {t : Nat} (ht : t < 401) (hV : ∀ j, j ≤ t → zTK X j) (hkind : X 2 t = 21) (hrole : X 5 t = 14) {h : Nat} (hh : T 0 2 = nI (h + 1)) (hh6 : h < 6) : zden zcds (d + 6) 152 [.ref (x + 0), .int (nI t)] (zwi μ (zfl (zfl J x 6 X) u 17 T)) = some (0, some (.int ((reo14 T X t h).1)), 0, 0, zwi μ (zfl (zfl J x 6 X) u 17 ((reo14 T X t h).2))) := by
  refine (zd_in (d := d + 5) (cd := zc152) (nL := 6) (L := [(0, .ref (x + 0)), (1, .int (nI t))]) rfl (Nat.le_of_ble_eq_true rfl) rfl).trans ?_
  refine (ys4 1 (v := .ref (x + 0)) rfl rfl rfl rfl).trans ?_
  refine (ygr 4 rfl (zFS.tag hX.1 (j := 0) (by decide) rfl) rfl hU.2.2.2).trans ?_
  refine (ys5 5 (L2 := [(2, .ref (u + 0)), (0, .ref (x + 0)), (1, .int (nI t))]) rfl rfl rfl rfl).trans ?_
  refine (ys4 6 (v := .ref (u + 0)) rfl rfl rfl rfl).trans ?_
  refine (yg 9 rfl (zFS.tag hU.1 (j := 0) (by decide) rfl) (zFS.ni hU.1 (j := 0) (by decide) rfl) (by decide) rfl (zfl_at (j := 0) (by decide))).trans ?_
  refine (ys1 10 (x := 1) rfl rfl rfl).trans ?_
  refine (ys7_1 11 rfl rfl).trans ?_
  refine (ys5 12 (L2 := [(3, .int (((T 0 0) - 1))), (2, .ref (u + 0)), (0, .ref (x + 0)), (1, .int (nI t))]) rfl rfl rfl rfl).trans ?_
  refine (ys4 13 (v := .ref (u + 0)) rfl rfl rfl rfl).trans ?_
  refine (yg 16 rfl (zFS.tag hU.1 (j := 0) (by decide) rfl) (zFS.ni hU.1 (j := 0) (by decide) rfl) (by decide) rfl (Eq.trans (zfl_at (j := 0) (by decide)) (show (T 0 2) = nI (h + 1) from hh))).trans ?_
  refine (ys1 17 (x := 1) rfl rfl rfl).trans ?_
  refine (ys7_1 18 rfl rfl).trans ?_
  rw [show ((nI (h + 1)) - 1) = (nI h) from nI_pred _]
  refine (ys5 20 (L2 := [(4, .int ((nI h))), (3, .int (((T 0 0) - 1))), (2, .ref (u + 0)), (0, .ref (x + 0)), (1, .int (nI t))]) rfl rfl rfl rfl).trans ?_
  refine (ys4 21 (v := .ref (x + 0)) rfl rfl rfl rfl).trans ?_
  refine (ygr 24 rfl (zFS.tag hX.1 (j := 0) (by decide) rfl) rfl (hX.2 1 (by decide))).trans ?_
  refine (ys4 25 (v := .int (nI t)) rfl rfl rfl rfl).trans ?_
  refine (ylx 26 (N := 401) rfl (j := t) rfl (Or.inl (zFS.tag hX.1 (j := 2) (by decide) rfl)) (zFS.ni hX.1 (j := 2) (by decide) rfl) (by omega) (by decide) rfl (Eq.trans (zfl_at2 (j := 2) hU.2.2.1 (by decide)) (show (X 2 t) = 21 from hkind))).trans ?_
  refine (ys1 28 (x := 21) rfl rfl rfl).trans ?_
  refine ys18_1 31 rfl rfl (fun h28 => ?_) (fun h28 => absurd (by decide) h28)
  refine (ys4 32 (v := .ref (x + 0)) rfl rfl rfl rfl).trans ?_
  refine (ys4 33 (v := .int (nI t)) rfl rfl rfl rfl).trans ?_
  refine (yc2 36 rfl rfl (Nat.le_of_ble_eq_true rfl) (Or.inr (by show ztg (zwi _ _) _ = _; rw [ztg_wi]; exact (zFS.tag hX.1 (j := 0) (by decide) rfl))) rfl rfl (zlt' (zUs hU) (c_rno hX ht (hV t (Nat.le_refl _))))).trans ?_
  refine (ys19 rfl).trans ?_
  refine (ys5 42 (L2 := [(5, .int ((rnoL X t (rmn X t) 0 0))), (4, .int ((nI h))), (3, .int (((T 0 0) - 1))), (2, .ref (u + 0)), (0, .ref (x + 0)), (1, .int (nI t))]) rfl rfl rfl rfl).trans ?_
  refine (ys4 43 (v := .ref (x + 0)) rfl rfl rfl rfl).trans ?_
  refine (ygr 46 rfl (zFS.tag hX.1 (j := 0) (by decide) rfl) rfl (hX.2 4 (by decide))).trans ?_
  refine (ys4 47 (v := .int (nI t)) rfl rfl rfl rfl).trans ?_
  refine (ylx 48 (N := 401) rfl (j := t) rfl (Or.inl (zFS.tag hX.1 (j := 5) (by decide) rfl)) (zFS.ni hX.1 (j := 5) (by decide) rfl) (by omega) (by decide) rfl (Eq.trans (zfl_at2 (j := 5) hU.2.2.1 (by decide)) (show (X 5 t) = 14 from hrole))).trans ?_
  refine (ys21k 311 rfl (by decide)).trans ?_
  refine (ys4 312 (v := .ref (u + 0)) rfl rfl rfl rfl).trans ?_
  refine (ygr 315 rfl (zFS.tag hU.1 (j := 0) (by decide) rfl) rfl (hU.2.1 9 (by decide))).trans ?_
  refine (ys4 317 (v := .int ((nI h))) rfl rfl rfl rfl).trans ?_
  refine (ys4 319 (v := .int ((rnoL X t (rmn X t) 0 0))) rfl rfl rfl rfl).trans ?_
  refine (ys1 320 (x := 0) rfl rfl rfl).trans ?_
  refine (ys1 322 (x := 63) rfl rfl rfl).trans ?_
  refine (yc5 325 rfl rfl (Nat.le_of_ble_eq_true rfl) (Or.inl rfl) rfl rfl (c_kee hX hU (j := 10) (n := 6) (by decide) rfl rfl (by decide) (by omega))).trans ?_
  generalize hr1 : rke T 10 h (rnoL X t (rmn X t) 0 0) 0 63 = r1
  refine (ys36 rfl rfl).trans ?_
  rw [show reo14 T X t h = (r1.1, r1.2) from by subst hr1; unfold reo14; (try dsimp only); first | done | rfl]; (first | done | rfl)

def reo15 (T : zFn) (X : zFn) (t : Nat) (h : Nat) : Int32 × zFn :=
  let r1 := rke T 11 h (rnoL X t (rmn X t) 0 0) 0 20
  (r1.1, r1.2)

theorem c_eo15 {d : Nat} {x u : Nat} {X T J : zFn} {μ : zM} (hX : zMX μ x) (hU : zUU μ x u) {t : Nat} (ht : t < 401) (hV : ∀ j, j ≤ t → zTK X j) (hkind : X 2 t = 21) (hrole : X 5 t = 15) {h : Nat} (hh : T 0 2 = nI (h + 1)) (hh6 : h < 6) : zden zcds (d + 6) 152 [.ref (x + 0), .int (nI t)] (zwi μ (zfl (zfl J x 6 X) u 17 T)) = some (0, some (.int ((reo15 T X t h).1)), 0, 0, zwi μ (zfl (zfl J x 6 X) u 17 ((reo15 T X t h).2))) := by
  refine (zd_in (d := d + 5) (cd := zc152) (nL := 6) (L := [(0, .ref (x + 0)), (1, .int (nI t))]) rfl (Nat.le_of_ble_eq_true rfl) rfl).trans ?_
  refine (ys4 1 (v := .ref (x + 0)) rfl rfl rfl rfl).trans ?_
  refine (ygr 4 rfl (zFS.tag hX.1 (j := 0) (by decide) rfl) rfl hU.2.2.2).trans ?_
  refine (ys5 5 (L2 := [(2, .ref (u + 0)), (0, .ref (x + 0)), (1, .int (nI t))]) rfl rfl rfl rfl).trans ?_
  refine (ys4 6 (v := .ref (u + 0)) rfl rfl rfl rfl).trans ?_
  refine (yg 9 rfl (zFS.tag hU.1 (j := 0) (by decide) rfl) (zFS.ni hU.1 (j := 0) (by decide) rfl) (by decide) rfl (zfl_at (j := 0) (by decide))).trans ?_
  refine (ys1 10 (x := 1) rfl rfl rfl).trans ?_
  refine (ys7_1 11 rfl rfl).trans ?_
  refine (ys5 12 (L2 := [(3, .int (((T 0 0) - 1))), (2, .ref (u + 0)), (0, .ref (x + 0)), (1, .int (nI t))]) rfl rfl rfl rfl).trans ?_
  refine (ys4 13 (v := .ref (u + 0)) rfl rfl rfl rfl).trans ?_
  refine (yg 16 rfl (zFS.tag hU.1 (j := 0) (by decide) rfl) (zFS.ni hU.1 (j := 0) (by decide) rfl) (by decide) rfl (Eq.trans (zfl_at (j := 0) (by decide)) (show (T 0 2) = nI (h + 1) from hh))).trans ?_
  refine (ys1 17 (x := 1) rfl rfl rfl).trans ?_
  refine (ys7_1 18 rfl rfl).trans ?_
  rw [show ((nI (h + 1)) - 1) = (nI h) from nI_pred _]
  refine (ys5 20 (L2 := [(4, .int ((nI h))), (3, .int (((T 0 0) - 1))), (2, .ref (u + 0)), (0, .ref (x + 0)), (1, .int (nI t))]) rfl rfl rfl rfl).trans ?_
  refine (ys4 21 (v := .ref (x + 0)) rfl rfl rfl rfl).trans ?_
  refine (ygr 24 rfl (zFS.tag hX.1 (j := 0) (by decide) rfl) rfl (hX.2 1 (by decide))).trans ?_
  refine (ys4 25 (v := .int (nI t)) rfl rfl rfl rfl).trans ?_
  refine (ylx 26 (N := 401) rfl (j := t) rfl (Or.inl (zFS.tag hX.1 (j := 2) (by decide) rfl)) (zFS.ni hX.1 (j := 2) (by decide) rfl) (by omega) (by decide) rfl (Eq.trans (zfl_at2 (j := 2) hU.2.2.1 (by decide)) (show (X 2 t) = 21 from hkind))).trans ?_
  refine (ys1 28 (x := 21) rfl rfl rfl).trans ?_
  refine ys18_1 31 rfl rfl (fun h28 => ?_) (fun h28 => absurd (by decide) h28)
  refine (ys4 32 (v := .ref (x + 0)) rfl rfl rfl rfl).trans ?_
  refine (ys4 33 (v := .int (nI t)) rfl rfl rfl rfl).trans ?_
  refine (yc2 36 rfl rfl (Nat.le_of_ble_eq_true rfl) (Or.inr (by show ztg (zwi _ _) _ = _; rw [ztg_wi]; exact (zFS.tag hX.1 (j := 0) (by decide) rfl))) rfl rfl (zlt' (zUs hU) (c_rno hX ht (hV t (Nat.le_refl _))))).trans ?_
  refine (ys19 rfl).trans ?_
  refine (ys5 42 (L2 := [(5, .int ((rnoL X t (rmn X t) 0 0))), (4, .int ((nI h))), (3, .int (((T 0 0) - 1))), (2, .ref (u + 0)), (0, .ref (x + 0)), (1, .int (nI t))]) rfl rfl rfl rfl).trans ?_
  refine (ys4 43 (v := .ref (x + 0)) rfl rfl rfl rfl).trans ?_
  refine (ygr 46 rfl (zFS.tag hX.1 (j := 0) (by decide) rfl) rfl (hX.2 4 (by decide))).trans ?_
  refine (ys4 47 (v := .int (nI t)) rfl rfl rfl rfl).trans ?_
  refine (ylx 48 (N := 401) rfl (j := t) rfl (Or.inl (zFS.tag hX.1 (j := 5) (by decide) rfl)) (zFS.ni hX.1 (j := 5) (by decide) rfl) (by omega) (by decide) rfl (Eq.trans (zfl_at2 (j := 5) hU.2.2.1 (by decide)) (show (X 5 t) = 15 from hrole))).trans ?_
  refine (ys21k 326 rfl (by decide)).trans ?_
  refine (ys4 327 (v := .ref (u + 0)) rfl rfl rfl rfl).trans ?_
  refine (ygr 330 rfl (zFS.tag hU.1 (j := 0) (by decide) rfl) rfl (hU.2.1 10 (by decide))).trans ?_
  refine (ys4 332 (v := .int ((nI h))) rfl rfl rfl rfl).trans ?_
  refine (ys4 334 (v := .int ((rnoL X t (rmn X t) 0 0))) rfl rfl rfl rfl).trans ?_
  refine (ys1 335 (x := 0) rfl rfl rfl).trans ?_
  refine (ys1 337 (x := 20) rfl rfl rfl).trans ?_
  refine (yc5 340 rfl rfl (Nat.le_of_ble_eq_true rfl) (Or.inl rfl) rfl rfl (c_kee hX hU (j := 11) (n := 6) (by decide) rfl rfl (by decide) (by omega))).trans ?_
  generalize hr1 : rke T 11 h (rnoL X t (rmn X t) 0 0) 0 20 = r1
  refine (ys36 rfl rfl).trans ?_
  rw [show reo15 T X t h = (r1.1, r1.2) from by subst hr1; unfold reo15; (try dsimp only); first | done | rfl]; (first | done | rfl)

def reo16 (T : zFn) (X : zFn) (t : Nat) (h : Nat) : Int32 × zFn :=
  let r1 := rke T 12 h (rnoL X t (rmn X t) 0 0) 1 24
  (r1.1, r1.2)

theorem c_eo16 {d : Nat} {x u : Nat} {X T J : zFn} {μ : zM} (hX : zMX μ x) (hU : zUU μ x u) {t : Nat} (ht : t < 401) (hV : ∀ j, j ≤ t → zTK X j) (hkind : X 2 t = 21) (hrole : X 5 t = 16) {h : Nat} (hh : T 0 2 = nI (h + 1)) (hh6 : h < 6) : zden zcds (d + 6) 152 [.ref (x + 0), .int (nI t)] (zwi μ (zfl (zfl J x 6 X) u 17 T)) = some (0, some (.int ((reo16 T X t h).1)), 0, 0, zwi μ (zfl (zfl J x 6 X) u 17 ((reo16 T X t h).2))) := by
  refine (zd_in (d := d + 5) (cd := zc152) (nL := 6) (L := [(0, .ref (x + 0)), (1, .int (nI t))]) rfl (Nat.le_of_ble_eq_true rfl) rfl).trans ?_
  refine (ys4 1 (v := .ref (x + 0)) rfl rfl rfl rfl).trans ?_
  refine (ygr 4 rfl (zFS.tag hX.1 (j := 0) (by decide) rfl) rfl hU.2.2.2).trans ?_
  refine (ys5 5 (L2 := [(2, .ref (u + 0)), (0, .ref (x + 0)), (1, .int (nI t))]) rfl rfl rfl rfl).trans ?_
  refine (ys4 6 (v := .ref (u + 0)) rfl rfl rfl rfl).trans ?_
  refine (yg 9 rfl (zFS.tag hU.1 (j := 0) (by decide) rfl) (zFS.ni hU.1 (j := 0) (by decide) rfl) (by decide) rfl (zfl_at (j := 0) (by decide))).trans ?_
  refine (ys1 10 (x := 1) rfl rfl rfl).trans ?_
  refine (ys7_1 11 rfl rfl).trans ?_
  refine (ys5 12 (L2 := [(3, .int (((T 0 0) - 1))), (2, .ref (u + 0)), (0, .ref (x + 0)), (1, .int (nI t))]) rfl rfl rfl rfl).trans ?_
  refine (ys4 13 (v := .ref (u + 0)) rfl rfl rfl rfl).trans ?_
  refine (yg 16 rfl (zFS.tag hU.1 (j := 0) (by decide) rfl) (zFS.ni hU.1 (j := 0) (by decide) rfl) (by decide) rfl (Eq.trans (zfl_at (j := 0) (by decide)) (show (T 0 2) = nI (h + 1) from hh))).trans ?_
  refine (ys1 17 (x := 1) rfl rfl rfl).trans ?_
  refine (ys7_1 18 rfl rfl).trans ?_
  rw [show ((nI (h + 1)) - 1) = (nI h) from nI_pred _]
  refine (ys5 20 (L2 := [(4, .int ((nI h))), (3, .int (((T 0 0) - 1))), (2, .ref (u + 0)), (0, .ref (x + 0)), (1, .int (nI t))]) rfl rfl rfl rfl).trans ?_
  refine (ys4 21 (v := .ref (x + 0)) rfl rfl rfl rfl).trans ?_
  refine (ygr 24 rfl (zFS.tag hX.1 (j := 0) (by decide) rfl) rfl (hX.2 1 (by decide))).trans ?_
  refine (ys4 25 (v := .int (nI t)) rfl rfl rfl rfl).trans ?_
  refine (ylx 26 (N := 401) rfl (j := t) rfl (Or.inl (zFS.tag hX.1 (j := 2) (by decide) rfl)) (zFS.ni hX.1 (j := 2) (by decide) rfl) (by omega) (by decide) rfl (Eq.trans (zfl_at2 (j := 2) hU.2.2.1 (by decide)) (show (X 2 t) = 21 from hkind))).trans ?_
  refine (ys1 28 (x := 21) rfl rfl rfl).trans ?_
  refine ys18_1 31 rfl rfl (fun h28 => ?_) (fun h28 => absurd (by decide) h28)
  refine (ys4 32 (v := .ref (x + 0)) rfl rfl rfl rfl).trans ?_
  refine (ys4 33 (v := .int (nI t)) rfl rfl rfl rfl).trans ?_
  refine (yc2 36 rfl rfl (Nat.le_of_ble_eq_true rfl) (Or.inr (by show ztg (zwi _ _) _ = _; rw [ztg_wi]; exact (zFS.tag hX.1 (j := 0) (by decide) rfl))) rfl rfl (zlt' (zUs hU) (c_rno hX ht (hV t (Nat.le_refl _))))).trans ?_
  refine (ys19 rfl).trans ?_
  refine (ys5 42 (L2 := [(5, .int ((rnoL X t (rmn X t) 0 0))), (4, .int ((nI h))), (3, .int (((T 0 0) - 1))), (2, .ref (u + 0)), (0, .ref (x + 0)), (1, .int (nI t))]) rfl rfl rfl rfl).trans ?_
  refine (ys4 43 (v := .ref (x + 0)) rfl rfl rfl rfl).trans ?_
  refine (ygr 46 rfl (zFS.tag hX.1 (j := 0) (by decide) rfl) rfl (hX.2 4 (by decide))).trans ?_
  refine (ys4 47 (v := .int (nI t)) rfl rfl rfl rfl).trans ?_
  refine (ylx 48 (N := 401) rfl (j := t) rfl (Or.inl (zFS.tag hX.1 (j := 5) (by decide) rfl)) (zFS.ni hX.1 (j := 5) (by decide) rfl) (by omega) (by decide) rfl (Eq.trans (zfl_at2 (j := 5) hU.2.2.1 (by decide)) (show (X 5 t) = 16 from hrole))).trans ?_
  refine (ys21k 341 rfl (by decide)).trans ?_
  refine (ys4 342 (v := .ref (u + 0)) rfl rfl rfl rfl).trans ?_
  refine (ygr 345 rfl (zFS.tag hU.1 (j := 0) (by decide) rfl) rfl (hU.2.1 11 (by decide))).trans ?_
  refine (ys4 347 (v := .int ((nI h))) rfl rfl rfl rfl).trans ?_
  refine (ys4 349 (v := .int ((rnoL X t (rmn X t) 0 0))) rfl rfl rfl rfl).trans ?_
  refine (ys1 350 (x := 1) rfl rfl rfl).trans ?_
  refine (ys1 352 (x := 24) rfl rfl rfl).trans ?_
  refine (yc5 355 rfl rfl (Nat.le_of_ble_eq_true rfl) (Or.inl rfl) rfl rfl (c_kee hX hU (j := 12) (n := 6) (by decide) rfl rfl (by decide) (by omega))).trans ?_
  generalize hr1 : rke T 12 h (rnoL X t (rmn X t) 0 0) 1 24 = r1
  refine (ys36 rfl rfl).trans ?_
  rw [show reo16 T X t h = (r1.1, r1.2) from by subst hr1; unfold reo16; (try dsimp only); first | done | rfl]; (first | done | rfl)

def reo0 (T : zFn) (X : zFn) (t : Nat) : Int32 :=
  if (X 2 t) = 21 then
    0
  else
    0

theorem c_eo0 {d : Nat} {x u : Nat} {X T J : zFn} {μ : zM} (hX : zMX μ x) (hU : zUU μ x u) {t : Nat} (ht : t < 401) (hV : ∀ j, j ≤ t → zTK X j) (hrole : X 5 t = 0) : zden zcds (d + 6) 152 [.ref (x + 0), .int (nI t)] (zwi μ (zfl (zfl J x 6 X) u 17 T)) = some (0, some (.int ((reo0 T X t))), 0, 0, zwi μ (zfl (zfl J x 6 X) u 17 T)) := by
  refine (zd_in (d := d + 5) (cd := zc152) (nL := 6) (L := [(0, .ref (x + 0)), (1, .int (nI t))]) rfl (Nat.le_of_ble_eq_true rfl) rfl).trans ?_
  refine (ys4 1 (v := .ref (x + 0)) rfl rfl rfl rfl).trans ?_
  refine (ygr 4 rfl (zFS.tag hX.1 (j := 0) (by decide) rfl) rfl hU.2.2.2).trans ?_
  refine (ys5 5 (L2 := [(2, .ref (u + 0)), (0, .ref (x + 0)), (1, .int (nI t))]) rfl rfl rfl rfl).trans ?_
  refine (ys4 6 (v := .ref (u + 0)) rfl rfl rfl rfl).trans ?_
  refine (yg 9 rfl (zFS.tag hU.1 (j := 0) (by decide) rfl) (zFS.ni hU.1 (j := 0) (by decide) rfl) (by decide) rfl (zfl_at (j := 0) (by decide))).trans ?_
  refine (ys1 10 (x := 1) rfl rfl rfl).trans ?_
  refine (ys7_1 11 rfl rfl).trans ?_
  refine (ys5 12 (L2 := [(3, .int (((T 0 0) - 1))), (2, .ref (u + 0)), (0, .ref (x + 0)), (1, .int (nI t))]) rfl rfl rfl rfl).trans ?_
  refine (ys4 13 (v := .ref (u + 0)) rfl rfl rfl rfl).trans ?_
  refine (yg 16 rfl (zFS.tag hU.1 (j := 0) (by decide) rfl) (zFS.ni hU.1 (j := 0) (by decide) rfl) (by decide) rfl (zfl_at (j := 0) (by decide))).trans ?_
  refine (ys1 17 (x := 1) rfl rfl rfl).trans ?_
  refine (ys7_1 18 rfl rfl).trans ?_
  refine (ys5 20 (L2 := [(4, .int (((T 0 2) - 1))), (3, .int (((T 0 0) - 1))), (2, .ref (u + 0)), (0, .ref (x + 0)), (1, .int (nI t))]) rfl rfl rfl rfl).trans ?_
  refine (ys4 21 (v := .ref (x + 0)) rfl rfl rfl rfl).trans ?_
  refine (ygr 24 rfl (zFS.tag hX.1 (j := 0) (by decide) rfl) rfl (hX.2 1 (by decide))).trans ?_
  refine (ys4 25 (v := .int (nI t)) rfl rfl rfl rfl).trans ?_
  refine (ylx 26 (N := 401) rfl (j := t) rfl (Or.inl (zFS.tag hX.1 (j := 2) (by decide) rfl)) (zFS.ni hX.1 (j := 2) (by decide) rfl) (by omega) (by decide) rfl (zfl_at2 (j := 2) hU.2.2.1 (by decide))).trans ?_
  refine (ys1 28 (x := 21) rfl rfl rfl).trans ?_
  refine ys18_1 31 rfl rfl (fun h28 => ?_) (fun h28 => ?_)
  · refine (ys4 32 (v := .ref (x + 0)) rfl rfl rfl rfl).trans ?_
    refine (ys4 33 (v := .int (nI t)) rfl rfl rfl rfl).trans ?_
    refine (yc2 36 rfl rfl (Nat.le_of_ble_eq_true rfl) (Or.inr (by show ztg (zwi _ _) _ = _; rw [ztg_wi]; exact (zFS.tag hX.1 (j := 0) (by decide) rfl))) rfl rfl (zlt' (zUs hU) (c_rno hX ht (hV t (Nat.le_refl _))))).trans ?_
    refine (ys19 rfl).trans ?_
    refine (ys5 42 (L2 := [(5, .int ((rnoL X t (rmn X t) 0 0))), (4, .int (((T 0 2) - 1))), (3, .int (((T 0 0) - 1))), (2, .ref (u + 0)), (0, .ref (x + 0)), (1, .int (nI t))]) rfl rfl rfl rfl).trans ?_
    refine (ys4 43 (v := .ref (x + 0)) rfl rfl rfl rfl).trans ?_
    refine (ygr 46 rfl (zFS.tag hX.1 (j := 0) (by decide) rfl) rfl (hX.2 4 (by decide))).trans ?_
    refine (ys4 47 (v := .int (nI t)) rfl rfl rfl rfl).trans ?_
    refine (ylx 48 (N := 401) rfl (j := t) rfl (Or.inl (zFS.tag hX.1 (j := 5) (by decide) rfl)) (zFS.ni hX.1 (j := 5) (by decide) rfl) (by omega) (by decide) rfl (Eq.trans (zfl_at2 (j := 5) hU.2.2.1 (by decide)) (show (X 5 t) = 0 from hrole))).trans ?_
    refine (ys21k 356 rfl (by decide)).trans ?_
    refine (ys4 357 (v := .ref (x + 0)) rfl rfl rfl rfl).trans ?_
    refine (ygr 360 rfl (zFS.tag hX.1 (j := 0) (by decide) rfl) rfl (hX.2 4 (by decide))).trans ?_
    refine (ys4 361 (v := .int (nI t)) rfl rfl rfl rfl).trans ?_
    refine (ylx 362 (N := 401) rfl (j := t) rfl (Or.inl (zFS.tag hX.1 (j := 5) (by decide) rfl)) (zFS.ni hX.1 (j := 5) (by decide) rfl) (by omega) (by decide) rfl (Eq.trans (zfl_at2 (j := 5) hU.2.2.1 (by decide)) (show (X 5 t) = 0 from hrole))).trans ?_
    refine ys17_1 365 rfl rfl (fun h362 => ?_) (fun h362 => absurd (by decide) h362)
    refine (ys1 366 (x := 0) rfl rfl rfl).trans ?_
    refine (ys19 rfl).trans ?_
    refine (ys36 rfl rfl).trans ?_
    rw [show reo0 T X t = 0 from by unfold reo0; (try dsimp only); rw [if_pos h28]]; (first | done | rfl)
  · refine (ys1 40 (x := 0) rfl rfl rfl).trans ?_
    refine (ys5 42 (L2 := [(5, .int (0)), (4, .int (((T 0 2) - 1))), (3, .int (((T 0 0) - 1))), (2, .ref (u + 0)), (0, .ref (x + 0)), (1, .int (nI t))]) rfl rfl rfl rfl).trans ?_
    refine (ys4 43 (v := .ref (x + 0)) rfl rfl rfl rfl).trans ?_
    refine (ygr 46 rfl (zFS.tag hX.1 (j := 0) (by decide) rfl) rfl (hX.2 4 (by decide))).trans ?_
    refine (ys4 47 (v := .int (nI t)) rfl rfl rfl rfl).trans ?_
    refine (ylx 48 (N := 401) rfl (j := t) rfl (Or.inl (zFS.tag hX.1 (j := 5) (by decide) rfl)) (zFS.ni hX.1 (j := 5) (by decide) rfl) (by omega) (by decide) rfl (Eq.trans (zfl_at2 (j := 5) hU.2.2.1 (by decide)) (show (X 5 t) = 0 from hrole))).trans ?_
    refine (ys21k 356 rfl (by decide)).trans ?_
    refine (ys4 357 (v := .ref (x + 0)) rfl rfl rfl rfl).trans ?_
    refine (ygr 360 rfl (zFS.tag hX.1 (j := 0) (by decide) rfl) rfl (hX.2 4 (by decide))).trans ?_
    refine (ys4 361 (v := .int (nI t)) rfl rfl rfl rfl).trans ?_
    refine (ylx 362 (N := 401) rfl (j := t) rfl (Or.inl (zFS.tag hX.1 (j := 5) (by decide) rfl)) (zFS.ni hX.1 (j := 5) (by decide) rfl) (by omega) (by decide) rfl (Eq.trans (zfl_at2 (j := 5) hU.2.2.1 (by decide)) (show (X 5 t) = 0 from hrole))).trans ?_
    refine ys17_1 365 rfl rfl (fun h362 => ?_) (fun h362 => absurd (by decide) h362)
    refine (ys1 366 (x := 0) rfl rfl rfl).trans ?_
    refine (ys19 rfl).trans ?_
    refine (ys36 rfl rfl).trans ?_
    rw [show reo0 T X t = 0 from by unfold reo0; (try dsimp only); rw [if_neg h28]]; (first | done | rfl)

def rep2 (T : zFn) (X : zFn) (t : Nat) (v : Int32) (p : Nat) : Int32 × zFn :=
  if (rnmL X t 2 t 0 0) = (-1) then
    if (nI p) = 20 then
      (4, T)
    else
      let T1 := zup T 7 p (8)
      let T2 := zup T1 8 p (3)
      let T3 := zup T2 0 1 (((nI p) + 1))
      (0, T3)
  else
    (2, T)

theorem c_ep2 {d : Nat} {x u : Nat} {X T J : zFn} {μ : zM} (hX : zMX μ x) (hU : zUU μ x u) {t : Nat} (ht : t < 401) (hV : ∀ j, j ≤ t → zTK X j) (hrole : X 5 t = 2) {v : Int32} {p : Nat} (hp : T 0 1 = nI p) (hp20 : p ≤ 20) : zden zcds (d + 5) 153 [.ref (x + 0), .int (nI t), .int (v)] (zwi μ (zfl (zfl J x 6 X) u 17 T)) = some (0, some (.int ((rep2 T X t v p).1)), 0, 0, zwi μ (zfl (zfl J x 6 X) u 17 ((rep2 T X t v p).2))) := by
  refine (zd_in (d := d + 4) (cd := zc153) (nL := 6) (L := [(0, .ref (x + 0)), (1, .int (nI t)), (2, .int (v))]) rfl (Nat.le_of_ble_eq_true rfl) rfl).trans ?_
  refine (ys4 1 (v := .ref (x + 0)) rfl rfl rfl rfl).trans ?_
  refine (ygr 4 rfl (zFS.tag hX.1 (j := 0) (by decide) rfl) rfl hU.2.2.2).trans ?_
  refine (ys5 5 (L2 := [(3, .ref (u + 0)), (0, .ref (x + 0)), (1, .int (nI t)), (2, .int (v))]) rfl rfl rfl rfl).trans ?_
  refine (ys4 6 (v := .ref (u + 0)) rfl rfl rfl rfl).trans ?_
  refine (yg 9 rfl (zFS.tag hU.1 (j := 0) (by decide) rfl) (zFS.ni hU.1 (j := 0) (by decide) rfl) (by decide) rfl (Eq.trans (zfl_at (j := 0) (by decide)) (show (T 0 1) = nI p from hp))).trans ?_
  refine (ys1 10 (x := 1) rfl rfl rfl).trans ?_
  refine (ys7_1 11 rfl rfl).trans ?_
  refine (ys5 13 (L2 := [(4, .int (((nI p) - 1))), (3, .ref (u + 0)), (0, .ref (x + 0)), (1, .int (nI t)), (2, .int (v))]) rfl rfl rfl rfl).trans ?_
  refine (ys4 14 (v := .ref (x + 0)) rfl rfl rfl rfl).trans ?_
  refine (ys4 15 (v := .int (nI t)) rfl rfl rfl rfl).trans ?_
  refine (ys1 16 (x := 1) rfl rfl rfl).trans ?_
  refine (yc3 19 rfl rfl (Nat.le_of_ble_eq_true rfl) (Or.inr (by show ztg (zwi _ _) _ = _; rw [ztg_wi]; exact (zFS.tag hX.1 (j := 0) (by decide) rfl))) rfl rfl (zlt' (zUs hU) (c_rnm hX ht hV))).trans ?_
  refine (ys5 21 (L2 := [(5, .int ((rnmL X t 1 t 0 0))), (4, .int (((nI p) - 1))), (3, .ref (u + 0)), (0, .ref (x + 0)), (1, .int (nI t)), (2, .int (v))]) rfl rfl rfl rfl).trans ?_
  refine (ys4 22 (v := .ref (x + 0)) rfl rfl rfl rfl).trans ?_
  refine (ygr 25 rfl (zFS.tag hX.1 (j := 0) (by decide) rfl) rfl (hX.2 4 (by decide))).trans ?_
  refine (ys4 26 (v := .int (nI t)) rfl rfl rfl rfl).trans ?_
  refine (ylx 27 (N := 401) rfl (j := t) rfl (Or.inl (zFS.tag hX.1 (j := 5) (by decide) rfl)) (zFS.ni hX.1 (j := 5) (by decide) rfl) (by omega) (by decide) rfl (Eq.trans (zfl_at2 (j := 5) hU.2.2.1 (by decide)) (show (X 5 t) = 2 from hrole))).trans ?_
  refine (ys21k 104 rfl (by decide)).trans ?_
  refine (ys4 105 (v := .ref (x + 0)) rfl rfl rfl rfl).trans ?_
  refine (ys4 106 (v := .int (nI t)) rfl rfl rfl rfl).trans ?_
  refine (ys1 107 (x := 2) rfl rfl rfl).trans ?_
  refine (yc3 110 rfl rfl (Nat.le_of_ble_eq_true rfl) (Or.inr (by show ztg (zwi _ _) _ = _; rw [ztg_wi]; exact (zFS.tag hX.1 (j := 0) (by decide) rfl))) rfl rfl (zlt' (zUs hU) (c_rnm hX ht hV))).trans ?_
  refine (ys1 111 (x := (-1)) rfl rfl rfl).trans ?_
  refine ys18_0 114 rfl rfl (fun h111 => ?_) (fun h111 => ?_)
  · refine (ys4 117 (v := .ref (u + 0)) rfl rfl rfl rfl).trans ?_
    refine (yg 120 rfl (zFS.tag hU.1 (j := 0) (by decide) rfl) (zFS.ni hU.1 (j := 0) (by decide) rfl) (by decide) rfl (Eq.trans (zfl_at (j := 0) (by decide)) (show (T 0 1) = nI p from hp))).trans ?_
    refine (ys1 122 (x := 20) rfl rfl rfl).trans ?_
    refine ys18_1 125 rfl rfl (fun h122 => ?_) (fun h122 => ?_)
    · refine (ys1 126 (x := 4) rfl rfl rfl).trans ?_
      refine (ys36 rfl rfl).trans ?_
      rw [show rep2 T X t v p = (4, T) from by unfold rep2; (try dsimp only); rw [if_pos h111, if_pos h122]]; (first | done | rfl)
    · refine (ys4 128 (v := .ref (u + 0)) rfl rfl rfl rfl).trans ?_
      refine (ygr 131 rfl (zFS.tag hU.1 (j := 0) (by decide) rfl) rfl (hU.2.1 6 (by decide))).trans ?_
      refine (ys4 132 (v := .ref (u + 0)) rfl rfl rfl rfl).trans ?_
      refine (yg 135 rfl (zFS.tag hU.1 (j := 0) (by decide) rfl) (zFS.ni hU.1 (j := 0) (by decide) rfl) (by decide) rfl (Eq.trans (zfl_at (j := 0) (by decide)) (show (T 0 1) = nI p from hp))).trans ?_
      refine (ys1 137 (x := 8) rfl rfl rfl).trans ?_
      refine (ywx 138 (N := 20) rfl (j := p) rfl (zFS.tag hU.1 (j := 7) (by decide) rfl) (zFS.k0 hU.1 (j := 7)) (zFS.ni hU.1 (j := 7) (by decide) rfl) (by rcases Nat.lt_or_ge p 20 with h1 | h1; exact h1; exact absurd (show nI p = 20 from by rw [show p = 20 from by omega]; rfl) h122) (by decide) rfl (zfl_up (j := 7) (by decide))).trans ?_
      generalize hT1 : zup T 7 p (8) = T1
      refine (ys4 139 (v := .ref (u + 0)) rfl rfl rfl rfl).trans ?_
      refine (ygr 142 rfl (zFS.tag hU.1 (j := 0) (by decide) rfl) rfl (hU.2.1 7 (by decide))).trans ?_
      refine (ys4 143 (v := .ref (u + 0)) rfl rfl rfl rfl).trans ?_
      refine (yg 146 rfl (zFS.tag hU.1 (j := 0) (by decide) rfl) (zFS.ni hU.1 (j := 0) (by decide) rfl) (by decide) rfl (Eq.trans (zfl_at (j := 0) (by decide)) (show (T1 0 1) = nI p from (by subst hT1; simp [zup]; exact hp)))).trans ?_
      refine (ys1 147 (x := 3) rfl rfl rfl).trans ?_
      refine (ywx 148 (N := 20) rfl (j := p) rfl (zFS.tag hU.1 (j := 8) (by decide) rfl) (zFS.k0 hU.1 (j := 8)) (zFS.ni hU.1 (j := 8) (by decide) rfl) (by rcases Nat.lt_or_ge p 20 with h1 | h1; exact h1; exact absurd (show nI p = 20 from by rw [show p = 20 from by omega]; rfl) h122) (by decide) rfl (zfl_up (j := 8) (by decide))).trans ?_
      generalize hT2 : zup T1 8 p (3) = T2
      refine (ys4 149 (v := .ref (u + 0)) rfl rfl rfl rfl).trans ?_
      refine (ys14 150 rfl (Nat.le_of_ble_eq_true rfl) rfl).trans ?_
      refine (yg 153 rfl (zFS.tag hU.1 (j := 0) (by decide) rfl) (zFS.ni hU.1 (j := 0) (by decide) rfl) (by decide) rfl (Eq.trans (zfl_at (j := 0) (by decide)) (show (T2 0 1) = nI p from (by subst hT2 hT1; simp [zup]; exact hp)))).trans ?_
      refine (ys1 154 (x := 1) rfl rfl rfl).trans ?_
      refine (ys7_0 155 rfl rfl).trans ?_
      refine (yq 158 rfl (zFS.tag hU.1 (j := 0) (by decide) rfl) (zFS.k0 hU.1 (j := 0)) (zFS.ni hU.1 (j := 0) (by decide) rfl) (by decide) rfl (zfl_up (j := 0) (by decide))).trans ?_
      generalize hT3 : zup T2 0 1 (((nI p) + 1)) = T3
      refine (ys1 159 (x := 0) rfl rfl rfl).trans ?_
      refine (ys36 rfl rfl).trans ?_
      rw [show rep2 T X t v p = (0, T3) from by subst hT3 hT2 hT1; unfold rep2; (try dsimp only); rw [if_pos h111, if_neg h122]]; (first | done | rfl)
  · refine (ys1 115 (x := 2) rfl rfl rfl).trans ?_
    refine (ys36 rfl rfl).trans ?_
    rw [show rep2 T X t v p = (2, T) from by unfold rep2; (try dsimp only); rw [if_neg h111]]; (first | done | rfl)

def rep9 (T : zFn) (X : zFn) (t : Nat) (v : Int32) (p : Nat) : Int32 × zFn :=
  let T1 := zup T 5 p ((rnmL X t 1 t 0 0))
  let T2 := zup T1 6 p ((rnmL X t 1 t 0 0))
  if (rnmL X t 1 t 0 0) = (-1) then
    (3, T2)
  else
    (0, T2)

theorem c_ep9 {d : Nat} {x u : Nat} {X T J : zFn} {μ : zM} (hX : zMX μ x) (hU : zUU μ x u) {t : Nat} (ht : t < 401) (hV : ∀ j, j ≤ t → zTK X j) (hrole : X 5 t = 9) {v : Int32} {p : Nat} (hp : T 0 1 = nI (p + 1)) (hp20 : p < 20) : zden zcds (d + 5) 153 [.ref (x + 0), .int (nI t), .int (v)] (zwi μ (zfl (zfl J x 6 X) u 17 T)) = some (0, some (.int ((rep9 T X t v p).1)), 0, 0, zwi μ (zfl (zfl J x 6 X) u 17 ((rep9 T X t v p).2))) := by
  refine (zd_in (d := d + 4) (cd := zc153) (nL := 6) (L := [(0, .ref (x + 0)), (1, .int (nI t)), (2, .int (v))]) rfl (Nat.le_of_ble_eq_true rfl) rfl).trans ?_
  refine (ys4 1 (v := .ref (x + 0)) rfl rfl rfl rfl).trans ?_
  refine (ygr 4 rfl (zFS.tag hX.1 (j := 0) (by decide) rfl) rfl hU.2.2.2).trans ?_
  refine (ys5 5 (L2 := [(3, .ref (u + 0)), (0, .ref (x + 0)), (1, .int (nI t)), (2, .int (v))]) rfl rfl rfl rfl).trans ?_
  refine (ys4 6 (v := .ref (u + 0)) rfl rfl rfl rfl).trans ?_
  refine (yg 9 rfl (zFS.tag hU.1 (j := 0) (by decide) rfl) (zFS.ni hU.1 (j := 0) (by decide) rfl) (by decide) rfl (Eq.trans (zfl_at (j := 0) (by decide)) (show (T 0 1) = nI (p + 1) from hp))).trans ?_
  refine (ys1 10 (x := 1) rfl rfl rfl).trans ?_
  refine (ys7_1 11 rfl rfl).trans ?_
  rw [show ((nI (p + 1)) - 1) = (nI p) from nI_pred _]
  refine (ys5 13 (L2 := [(4, .int ((nI p))), (3, .ref (u + 0)), (0, .ref (x + 0)), (1, .int (nI t)), (2, .int (v))]) rfl rfl rfl rfl).trans ?_
  refine (ys4 14 (v := .ref (x + 0)) rfl rfl rfl rfl).trans ?_
  refine (ys4 15 (v := .int (nI t)) rfl rfl rfl rfl).trans ?_
  refine (ys1 16 (x := 1) rfl rfl rfl).trans ?_
  refine (yc3 19 rfl rfl (Nat.le_of_ble_eq_true rfl) (Or.inr (by show ztg (zwi _ _) _ = _; rw [ztg_wi]; exact (zFS.tag hX.1 (j := 0) (by decide) rfl))) rfl rfl (zlt' (zUs hU) (c_rnm hX ht hV))).trans ?_
  refine (ys5 21 (L2 := [(5, .int ((rnmL X t 1 t 0 0))), (4, .int ((nI p))), (3, .ref (u + 0)), (0, .ref (x + 0)), (1, .int (nI t)), (2, .int (v))]) rfl rfl rfl rfl).trans ?_
  refine (ys4 22 (v := .ref (x + 0)) rfl rfl rfl rfl).trans ?_
  refine (ygr 25 rfl (zFS.tag hX.1 (j := 0) (by decide) rfl) rfl (hX.2 4 (by decide))).trans ?_
  refine (ys4 26 (v := .int (nI t)) rfl rfl rfl rfl).trans ?_
  refine (ylx 27 (N := 401) rfl (j := t) rfl (Or.inl (zFS.tag hX.1 (j := 5) (by decide) rfl)) (zFS.ni hX.1 (j := 5) (by decide) rfl) (by omega) (by decide) rfl (Eq.trans (zfl_at2 (j := 5) hU.2.2.1 (by decide)) (show (X 5 t) = 9 from hrole))).trans ?_
  refine (ys21k 160 rfl (by decide)).trans ?_
  refine (ys4 161 (v := .ref (u + 0)) rfl rfl rfl rfl).trans ?_
  refine (ygr 164 rfl (zFS.tag hU.1 (j := 0) (by decide) rfl) rfl (hU.2.1 4 (by decide))).trans ?_
  refine (ys4 166 (v := .int ((nI p))) rfl rfl rfl rfl).trans ?_
  refine (ys4 168 (v := .int ((rnmL X t 1 t 0 0))) rfl rfl rfl rfl).trans ?_
  refine (ywx 169 (N := 20) rfl (j := p) rfl (zFS.tag hU.1 (j := 5) (by decide) rfl) (zFS.k0 hU.1 (j := 5)) (zFS.ni hU.1 (j := 5) (by decide) rfl) (by omega) (by decide) rfl (zfl_up (j := 5) (by decide))).trans ?_
  generalize hT1 : zup T 5 p ((rnmL X t 1 t 0 0)) = T1
  refine (ys4 170 (v := .ref (u + 0)) rfl rfl rfl rfl).trans ?_
  refine (ygr 173 rfl (zFS.tag hU.1 (j := 0) (by decide) rfl) rfl (hU.2.1 5 (by decide))).trans ?_
  refine (ys4 175 (v := .int ((nI p))) rfl rfl rfl rfl).trans ?_
  refine (ys4 177 (v := .int ((rnmL X t 1 t 0 0))) rfl rfl rfl rfl).trans ?_
  refine (ywx 178 (N := 20) rfl (j := p) rfl (zFS.tag hU.1 (j := 6) (by decide) rfl) (zFS.k0 hU.1 (j := 6)) (zFS.ni hU.1 (j := 6) (by decide) rfl) (by omega) (by decide) rfl (zfl_up (j := 6) (by decide))).trans ?_
  generalize hT2 : zup T1 6 p ((rnmL X t 1 t 0 0)) = T2
  refine (ys4 180 (v := .int ((rnmL X t 1 t 0 0))) rfl rfl rfl rfl).trans ?_
  refine (ys1 181 (x := (-1)) rfl rfl rfl).trans ?_
  refine ys18_1 184 rfl rfl (fun h181 => ?_) (fun h181 => ?_)
  · refine (ys1 185 (x := 3) rfl rfl rfl).trans ?_
    refine (ys19 rfl).trans ?_
    refine (ys36 rfl rfl).trans ?_
    rw [show rep9 T X t v p = (3, T2) from by subst hT2 hT1; unfold rep9; (try dsimp only); rw [if_pos h181]]; (first | done | rfl)
  · refine (ys1 189 (x := 0) rfl rfl rfl).trans ?_
    refine (ys36 rfl rfl).trans ?_
    rw [show rep9 T X t v p = (0, T2) from by subst hT2 hT1; unfold rep9; (try dsimp only); rw [if_neg h181]]; (first | done | rfl)

def rep10 (T : zFn) (X : zFn) (t : Nat) (v : Int32) (p : Nat) : Int32 × zFn :=
  let T1 := zup T 6 p ((rnmL X t 1 t 0 0))
  if (rnmL X t 1 t 0 0) = (-1) then
    (3, T1)
  else
    (0, T1)

theorem c_ep10 {d : Nat} {x u : Nat} {X T J : zFn} {μ : zM} (hX : zMX μ x) (hU : zUU μ x u) {t : Nat} (ht : t < 401) (hV : ∀ j, j ≤ t → zTK X j) (hrole : X 5 t = 10) {v : Int32} {p : Nat} (hp : T 0 1 = nI (p + 1)) (hp20 : p < 20) : zden zcds (d + 5) 153 [.ref (x + 0), .int (nI t), .int (v)] (zwi μ (zfl (zfl J x 6 X) u 17 T)) = some (0, some (.int ((rep10 T X t v p).1)), 0, 0, zwi μ (zfl (zfl J x 6 X) u 17 ((rep10 T X t v p).2))) := by
  refine (zd_in (d := d + 4) (cd := zc153) (nL := 6) (L := [(0, .ref (x + 0)), (1, .int (nI t)), (2, .int (v))]) rfl (Nat.le_of_ble_eq_true rfl) rfl).trans ?_
  refine (ys4 1 (v := .ref (x + 0)) rfl rfl rfl rfl).trans ?_
  refine (ygr 4 rfl (zFS.tag hX.1 (j := 0) (by decide) rfl) rfl hU.2.2.2).trans ?_
  refine (ys5 5 (L2 := [(3, .ref (u + 0)), (0, .ref (x + 0)), (1, .int (nI t)), (2, .int (v))]) rfl rfl rfl rfl).trans ?_
  refine (ys4 6 (v := .ref (u + 0)) rfl rfl rfl rfl).trans ?_
  refine (yg 9 rfl (zFS.tag hU.1 (j := 0) (by decide) rfl) (zFS.ni hU.1 (j := 0) (by decide) rfl) (by decide) rfl (Eq.trans (zfl_at (j := 0) (by decide)) (show (T 0 1) = nI (p + 1) from hp))).trans ?_
  refine (ys1 10 (x := 1) rfl rfl rfl).trans ?_
  refine (ys7_1 11 rfl rfl).trans ?_
  rw [show ((nI (p + 1)) - 1) = (nI p) from nI_pred _]
  refine (ys5 13 (L2 := [(4, .int ((nI p))), (3, .ref (u + 0)), (0, .ref (x + 0)), (1, .int (nI t)), (2, .int (v))]) rfl rfl rfl rfl).trans ?_
  refine (ys4 14 (v := .ref (x + 0)) rfl rfl rfl rfl).trans ?_
  refine (ys4 15 (v := .int (nI t)) rfl rfl rfl rfl).trans ?_
  refine (ys1 16 (x := 1) rfl rfl rfl).trans ?_
  refine (yc3 19 rfl rfl (Nat.le_of_ble_eq_true rfl) (Or.inr (by show ztg (zwi _ _) _ = _; rw [ztg_wi]; exact (zFS.tag hX.1 (j := 0) (by decide) rfl))) rfl rfl (zlt' (zUs hU) (c_rnm hX ht hV))).trans ?_
  refine (ys5 21 (L2 := [(5, .int ((rnmL X t 1 t 0 0))), (4, .int ((nI p))), (3, .ref (u + 0)), (0, .ref (x + 0)), (1, .int (nI t)), (2, .int (v))]) rfl rfl rfl rfl).trans ?_
  refine (ys4 22 (v := .ref (x + 0)) rfl rfl rfl rfl).trans ?_
  refine (ygr 25 rfl (zFS.tag hX.1 (j := 0) (by decide) rfl) rfl (hX.2 4 (by decide))).trans ?_
  refine (ys4 26 (v := .int (nI t)) rfl rfl rfl rfl).trans ?_
  refine (ylx 27 (N := 401) rfl (j := t) rfl (Or.inl (zFS.tag hX.1 (j := 5) (by decide) rfl)) (zFS.ni hX.1 (j := 5) (by decide) rfl) (by omega) (by decide) rfl (Eq.trans (zfl_at2 (j := 5) hU.2.2.1 (by decide)) (show (X 5 t) = 10 from hrole))).trans ?_
  refine (ys21k 190 rfl (by decide)).trans ?_
  refine (ys4 191 (v := .ref (u + 0)) rfl rfl rfl rfl).trans ?_
  refine (ygr 194 rfl (zFS.tag hU.1 (j := 0) (by decide) rfl) rfl (hU.2.1 5 (by decide))).trans ?_
  refine (ys4 196 (v := .int ((nI p))) rfl rfl rfl rfl).trans ?_
  refine (ys4 198 (v := .int ((rnmL X t 1 t 0 0))) rfl rfl rfl rfl).trans ?_
  refine (ywx 199 (N := 20) rfl (j := p) rfl (zFS.tag hU.1 (j := 6) (by decide) rfl) (zFS.k0 hU.1 (j := 6)) (zFS.ni hU.1 (j := 6) (by decide) rfl) (by omega) (by decide) rfl (zfl_up (j := 6) (by decide))).trans ?_
  generalize hT1 : zup T 6 p ((rnmL X t 1 t 0 0)) = T1
  refine (ys4 201 (v := .int ((rnmL X t 1 t 0 0))) rfl rfl rfl rfl).trans ?_
  refine (ys1 202 (x := (-1)) rfl rfl rfl).trans ?_
  refine ys18_1 205 rfl rfl (fun h202 => ?_) (fun h202 => ?_)
  · refine (ys1 206 (x := 3) rfl rfl rfl).trans ?_
    refine (ys19 rfl).trans ?_
    refine (ys36 rfl rfl).trans ?_
    rw [show rep10 T X t v p = (3, T1) from by subst hT1; unfold rep10; (try dsimp only); rw [if_pos h202]]; (first | done | rfl)
  · refine (ys1 210 (x := 0) rfl rfl rfl).trans ?_
    refine (ys36 rfl rfl).trans ?_
    rw [show rep10 T X t v p = (0, T1) from by subst hT1; unfold rep10; (try dsimp only); rw [if_neg h202]]; (first | done | rfl)

def rep11 (T : zFn) (X : zFn) (t : Nat) (v : Int32) (p : Nat) : Int32 × zFn :=
  let r1 := rke T 7 p v 1 20
  (r1.1, r1.2)

theorem c_ep11 {d : Nat} {x u : Nat} {X T J : zFn} {μ : zM} (hX : zMX μ x) (hU : zUU μ x u) {t : Nat} (ht : t < 401) (hV : ∀ j, j ≤ t → zTK X j) (hrole : X 5 t = 11) {v : Int32} {p : Nat} (hp : T 0 1 = nI (p + 1)) (hp20 : p < 20) : zden zcds (d + 5) 153 [.ref (x + 0), .int (nI t), .int (v)] (zwi μ (zfl (zfl J x 6 X) u 17 T)) = some (0, some (.int ((rep11 T X t v p).1)), 0, 0, zwi μ (zfl (zfl J x 6 X) u 17 ((rep11 T X t v p).2))) := by
  refine (zd_in (d := d + 4) (cd := zc153) (nL := 6) (L := [(0, .ref (x + 0)), (1, .int (nI t)), (2, .int (v))]) rfl (Nat.le_of_ble_eq_true rfl) rfl).trans ?_
  refine (ys4 1 (v := .ref (x + 0)) rfl rfl rfl rfl).trans ?_
  refine (ygr 4 rfl (zFS.tag hX.1 (j := 0) (by decide) rfl) rfl hU.2.2.2).trans ?_
  refine (ys5 5 (L2 := [(3, .ref (u + 0)), (0, .ref (x + 0)), (1, .int (nI t)), (2, .int (v))]) rfl rfl rfl rfl).trans ?_
  refine (ys4 6 (v := .ref (u + 0)) rfl rfl rfl rfl).trans ?_
  refine (yg 9 rfl (zFS.tag hU.1 (j := 0) (by decide) rfl) (zFS.ni hU.1 (j := 0) (by decide) rfl) (by decide) rfl (Eq.trans (zfl_at (j := 0) (by decide)) (show (T 0 1) = nI (p + 1) from hp))).trans ?_
  refine (ys1 10 (x := 1) rfl rfl rfl).trans ?_
  refine (ys7_1 11 rfl rfl).trans ?_
  rw [show ((nI (p + 1)) - 1) = (nI p) from nI_pred _]
  refine (ys5 13 (L2 := [(4, .int ((nI p))), (3, .ref (u + 0)), (0, .ref (x + 0)), (1, .int (nI t)), (2, .int (v))]) rfl rfl rfl rfl).trans ?_
  refine (ys4 14 (v := .ref (x + 0)) rfl rfl rfl rfl).trans ?_
  refine (ys4 15 (v := .int (nI t)) rfl rfl rfl rfl).trans ?_
  refine (ys1 16 (x := 1) rfl rfl rfl).trans ?_
  refine (yc3 19 rfl rfl (Nat.le_of_ble_eq_true rfl) (Or.inr (by show ztg (zwi _ _) _ = _; rw [ztg_wi]; exact (zFS.tag hX.1 (j := 0) (by decide) rfl))) rfl rfl (zlt' (zUs hU) (c_rnm hX ht hV))).trans ?_
  refine (ys5 21 (L2 := [(5, .int ((rnmL X t 1 t 0 0))), (4, .int ((nI p))), (3, .ref (u + 0)), (0, .ref (x + 0)), (1, .int (nI t)), (2, .int (v))]) rfl rfl rfl rfl).trans ?_
  refine (ys4 22 (v := .ref (x + 0)) rfl rfl rfl rfl).trans ?_
  refine (ygr 25 rfl (zFS.tag hX.1 (j := 0) (by decide) rfl) rfl (hX.2 4 (by decide))).trans ?_
  refine (ys4 26 (v := .int (nI t)) rfl rfl rfl rfl).trans ?_
  refine (ylx 27 (N := 401) rfl (j := t) rfl (Or.inl (zFS.tag hX.1 (j := 5) (by decide) rfl)) (zFS.ni hX.1 (j := 5) (by decide) rfl) (by omega) (by decide) rfl (Eq.trans (zfl_at2 (j := 5) hU.2.2.1 (by decide)) (show (X 5 t) = 11 from hrole))).trans ?_
  refine (ys21k 211 rfl (by decide)).trans ?_
  refine (ys4 212 (v := .ref (u + 0)) rfl rfl rfl rfl).trans ?_
  refine (ygr 215 rfl (zFS.tag hU.1 (j := 0) (by decide) rfl) rfl (hU.2.1 6 (by decide))).trans ?_
  refine (ys4 217 (v := .int ((nI p))) rfl rfl rfl rfl).trans ?_
  refine (ys4 218 (v := .int (v)) rfl rfl rfl rfl).trans ?_
  refine (ys1 219 (x := 1) rfl rfl rfl).trans ?_
  refine (ys1 221 (x := 20) rfl rfl rfl).trans ?_
  refine (yc5 224 rfl rfl (Nat.le_of_ble_eq_true rfl) (Or.inl rfl) rfl rfl (c_kee hX hU (j := 7) (n := 20) (by decide) rfl rfl (by decide) (by omega))).trans ?_
  generalize hr1 : rke T 7 p v 1 20 = r1
  refine (ys36 rfl rfl).trans ?_
  rw [show rep11 T X t v p = (r1.1, r1.2) from by subst hr1; unfold rep11; (try dsimp only); first | done | rfl]; (first | done | rfl)

def rep12 (T : zFn) (X : zFn) (t : Nat) (v : Int32) (p : Nat) : Int32 × zFn :=
  let r1 := rke T 8 p v 0 20
  (r1.1, r1.2)

theorem c_ep12 {d : Nat} {x u : Nat} {X T J : zFn} {μ : zM} (hX : zMX μ x) (hU : zUU μ x u) {t : Nat} (ht : t < 401) (hV : ∀ j, j ≤ t → zTK X j) (hrole : X 5 t = 12) {v : Int32} {p : Nat} (hp : T 0 1 = nI (p + 1)) (hp20 : p < 20) : zden zcds (d + 5) 153 [.ref (x + 0), .int (nI t), .int (v)] (zwi μ (zfl (zfl J x 6 X) u 17 T)) = some (0, some (.int ((rep12 T X t v p).1)), 0, 0, zwi μ (zfl (zfl J x 6 X) u 17 ((rep12 T X t v p).2))) := by
  refine (zd_in (d := d + 4) (cd := zc153) (nL := 6) (L := [(0, .ref (x + 0)), (1, .int (nI t)), (2, .int (v))]) rfl (Nat.le_of_ble_eq_true rfl) rfl).trans ?_
  refine (ys4 1 (v := .ref (x + 0)) rfl rfl rfl rfl).trans ?_
  refine (ygr 4 rfl (zFS.tag hX.1 (j := 0) (by decide) rfl) rfl hU.2.2.2).trans ?_
  refine (ys5 5 (L2 := [(3, .ref (u + 0)), (0, .ref (x + 0)), (1, .int (nI t)), (2, .int (v))]) rfl rfl rfl rfl).trans ?_
  refine (ys4 6 (v := .ref (u + 0)) rfl rfl rfl rfl).trans ?_
  refine (yg 9 rfl (zFS.tag hU.1 (j := 0) (by decide) rfl) (zFS.ni hU.1 (j := 0) (by decide) rfl) (by decide) rfl (Eq.trans (zfl_at (j := 0) (by decide)) (show (T 0 1) = nI (p + 1) from hp))).trans ?_
  refine (ys1 10 (x := 1) rfl rfl rfl).trans ?_
  refine (ys7_1 11 rfl rfl).trans ?_
  rw [show ((nI (p + 1)) - 1) = (nI p) from nI_pred _]
  refine (ys5 13 (L2 := [(4, .int ((nI p))), (3, .ref (u + 0)), (0, .ref (x + 0)), (1, .int (nI t)), (2, .int (v))]) rfl rfl rfl rfl).trans ?_
  refine (ys4 14 (v := .ref (x + 0)) rfl rfl rfl rfl).trans ?_
  refine (ys4 15 (v := .int (nI t)) rfl rfl rfl rfl).trans ?_
  refine (ys1 16 (x := 1) rfl rfl rfl).trans ?_
  refine (yc3 19 rfl rfl (Nat.le_of_ble_eq_true rfl) (Or.inr (by show ztg (zwi _ _) _ = _; rw [ztg_wi]; exact (zFS.tag hX.1 (j := 0) (by decide) rfl))) rfl rfl (zlt' (zUs hU) (c_rnm hX ht hV))).trans ?_
  refine (ys5 21 (L2 := [(5, .int ((rnmL X t 1 t 0 0))), (4, .int ((nI p))), (3, .ref (u + 0)), (0, .ref (x + 0)), (1, .int (nI t)), (2, .int (v))]) rfl rfl rfl rfl).trans ?_
  refine (ys4 22 (v := .ref (x + 0)) rfl rfl rfl rfl).trans ?_
  refine (ygr 25 rfl (zFS.tag hX.1 (j := 0) (by decide) rfl) rfl (hX.2 4 (by decide))).trans ?_
  refine (ys4 26 (v := .int (nI t)) rfl rfl rfl rfl).trans ?_
  refine (ylx 27 (N := 401) rfl (j := t) rfl (Or.inl (zFS.tag hX.1 (j := 5) (by decide) rfl)) (zFS.ni hX.1 (j := 5) (by decide) rfl) (by omega) (by decide) rfl (Eq.trans (zfl_at2 (j := 5) hU.2.2.1 (by decide)) (show (X 5 t) = 12 from hrole))).trans ?_
  refine (ys21k 225 rfl (by decide)).trans ?_
  refine (ys4 226 (v := .ref (u + 0)) rfl rfl rfl rfl).trans ?_
  refine (ygr 229 rfl (zFS.tag hU.1 (j := 0) (by decide) rfl) rfl (hU.2.1 7 (by decide))).trans ?_
  refine (ys4 231 (v := .int ((nI p))) rfl rfl rfl rfl).trans ?_
  refine (ys4 232 (v := .int (v)) rfl rfl rfl rfl).trans ?_
  refine (ys1 233 (x := 0) rfl rfl rfl).trans ?_
  refine (ys1 235 (x := 20) rfl rfl rfl).trans ?_
  refine (yc5 238 rfl rfl (Nat.le_of_ble_eq_true rfl) (Or.inl rfl) rfl rfl (c_kee hX hU (j := 8) (n := 20) (by decide) rfl rfl (by decide) (by omega))).trans ?_
  generalize hr1 : rke T 8 p v 0 20 = r1
  refine (ys36 rfl rfl).trans ?_
  rw [show rep12 T X t v p = (r1.1, r1.2) from by subst hr1; unfold rep12; (try dsimp only); first | done | rfl]; (first | done | rfl)

def rep3 (T : zFn) (X : zFn) (t : Nat) (v : Int32) (k : Nat) : Int32 × zFn :=
  if (rnmL X t 3 t 0 0) = (-1) then
    if (nI k) = 12 then
      (4, T)
    else
      let T1 := zup T 0 3 (((nI k) + 1))
      (0, T1)
  else
    (2, T)

theorem c_ep3 {d : Nat} {x u : Nat} {X T J : zFn} {μ : zM} (hX : zMX μ x) (hU : zUU μ x u) {t : Nat} (ht : t < 401) (hV : ∀ j, j ≤ t → zTK X j) (hrole : X 5 t = 3) {v : Int32} {k : Nat} (hk : T 0 3 = nI k) (hk12 : k ≤ 12) : zden zcds (d + 5) 153 [.ref (x + 0), .int (nI t), .int (v)] (zwi μ (zfl (zfl J x 6 X) u 17 T)) = some (0, some (.int ((rep3 T X t v k).1)), 0, 0, zwi μ (zfl (zfl J x 6 X) u 17 ((rep3 T X t v k).2))) := by
  refine (zd_in (d := d + 4) (cd := zc153) (nL := 6) (L := [(0, .ref (x + 0)), (1, .int (nI t)), (2, .int (v))]) rfl (Nat.le_of_ble_eq_true rfl) rfl).trans ?_
  refine (ys4 1 (v := .ref (x + 0)) rfl rfl rfl rfl).trans ?_
  refine (ygr 4 rfl (zFS.tag hX.1 (j := 0) (by decide) rfl) rfl hU.2.2.2).trans ?_
  refine (ys5 5 (L2 := [(3, .ref (u + 0)), (0, .ref (x + 0)), (1, .int (nI t)), (2, .int (v))]) rfl rfl rfl rfl).trans ?_
  refine (ys4 6 (v := .ref (u + 0)) rfl rfl rfl rfl).trans ?_
  refine (yg 9 rfl (zFS.tag hU.1 (j := 0) (by decide) rfl) (zFS.ni hU.1 (j := 0) (by decide) rfl) (by decide) rfl (zfl_at (j := 0) (by decide))).trans ?_
  refine (ys1 10 (x := 1) rfl rfl rfl).trans ?_
  refine (ys7_1 11 rfl rfl).trans ?_
  refine (ys5 13 (L2 := [(4, .int (((T 0 1) - 1))), (3, .ref (u + 0)), (0, .ref (x + 0)), (1, .int (nI t)), (2, .int (v))]) rfl rfl rfl rfl).trans ?_
  refine (ys4 14 (v := .ref (x + 0)) rfl rfl rfl rfl).trans ?_
  refine (ys4 15 (v := .int (nI t)) rfl rfl rfl rfl).trans ?_
  refine (ys1 16 (x := 1) rfl rfl rfl).trans ?_
  refine (yc3 19 rfl rfl (Nat.le_of_ble_eq_true rfl) (Or.inr (by show ztg (zwi _ _) _ = _; rw [ztg_wi]; exact (zFS.tag hX.1 (j := 0) (by decide) rfl))) rfl rfl (zlt' (zUs hU) (c_rnm hX ht hV))).trans ?_
  refine (ys5 21 (L2 := [(5, .int ((rnmL X t 1 t 0 0))), (4, .int (((T 0 1) - 1))), (3, .ref (u + 0)), (0, .ref (x + 0)), (1, .int (nI t)), (2, .int (v))]) rfl rfl rfl rfl).trans ?_
  refine (ys4 22 (v := .ref (x + 0)) rfl rfl rfl rfl).trans ?_
  refine (ygr 25 rfl (zFS.tag hX.1 (j := 0) (by decide) rfl) rfl (hX.2 4 (by decide))).trans ?_
  refine (ys4 26 (v := .int (nI t)) rfl rfl rfl rfl).trans ?_
  refine (ylx 27 (N := 401) rfl (j := t) rfl (Or.inl (zFS.tag hX.1 (j := 5) (by decide) rfl)) (zFS.ni hX.1 (j := 5) (by decide) rfl) (by omega) (by decide) rfl (Eq.trans (zfl_at2 (j := 5) hU.2.2.1 (by decide)) (show (X 5 t) = 3 from hrole))).trans ?_
  refine (ys21k 239 rfl (by decide)).trans ?_
  refine (ys4 240 (v := .ref (x + 0)) rfl rfl rfl rfl).trans ?_
  refine (ys4 241 (v := .int (nI t)) rfl rfl rfl rfl).trans ?_
  refine (ys1 242 (x := 3) rfl rfl rfl).trans ?_
  refine (yc3 245 rfl rfl (Nat.le_of_ble_eq_true rfl) (Or.inr (by show ztg (zwi _ _) _ = _; rw [ztg_wi]; exact (zFS.tag hX.1 (j := 0) (by decide) rfl))) rfl rfl (zlt' (zUs hU) (c_rnm hX ht hV))).trans ?_
  refine (ys1 246 (x := (-1)) rfl rfl rfl).trans ?_
  refine ys18_0 249 rfl rfl (fun h246 => ?_) (fun h246 => ?_)
  · refine (ys4 252 (v := .ref (u + 0)) rfl rfl rfl rfl).trans ?_
    refine (yg 255 rfl (zFS.tag hU.1 (j := 0) (by decide) rfl) (zFS.ni hU.1 (j := 0) (by decide) rfl) (by decide) rfl (Eq.trans (zfl_at (j := 0) (by decide)) (show (T 0 3) = nI k from hk))).trans ?_
    refine (ys1 257 (x := 12) rfl rfl rfl).trans ?_
    refine ys18_1 260 rfl rfl (fun h257 => ?_) (fun h257 => ?_)
    · refine (ys1 261 (x := 4) rfl rfl rfl).trans ?_
      refine (ys36 rfl rfl).trans ?_
      rw [show rep3 T X t v k = (4, T) from by unfold rep3; (try dsimp only); rw [if_pos h246, if_pos h257]]; (first | done | rfl)
    · refine (ys4 263 (v := .ref (u + 0)) rfl rfl rfl rfl).trans ?_
      refine (ys14 264 rfl (Nat.le_of_ble_eq_true rfl) rfl).trans ?_
      refine (yg 267 rfl (zFS.tag hU.1 (j := 0) (by decide) rfl) (zFS.ni hU.1 (j := 0) (by decide) rfl) (by decide) rfl (Eq.trans (zfl_at (j := 0) (by decide)) (show (T 0 3) = nI k from hk))).trans ?_
      refine (ys1 268 (x := 1) rfl rfl rfl).trans ?_
      refine (ys7_0 269 rfl rfl).trans ?_
      refine (yq 272 rfl (zFS.tag hU.1 (j := 0) (by decide) rfl) (zFS.k0 hU.1 (j := 0)) (zFS.ni hU.1 (j := 0) (by decide) rfl) (by decide) rfl (zfl_up (j := 0) (by decide))).trans ?_
      generalize hT1 : zup T 0 3 (((nI k) + 1)) = T1
      refine (ys1 273 (x := 0) rfl rfl rfl).trans ?_
      refine (ys36 rfl rfl).trans ?_
      rw [show rep3 T X t v k = (0, T1) from by subst hT1; unfold rep3; (try dsimp only); rw [if_pos h246, if_neg h257]]; (first | done | rfl)
  · refine (ys1 250 (x := 2) rfl rfl rfl).trans ?_
    refine (ys36 rfl rfl).trans ?_
    rw [show rep3 T X t v k = (2, T) from by unfold rep3; (try dsimp only); rw [if_neg h246]]; (first | done | rfl)

def rep17 (T : zFn) (X : zFn) (t : Nat) (v : Int32) (k : Nat) : Int32 × zFn :=
  let T1 := zup T 13 k ((rnmL X t 1 t 0 0))
  if (rnmL X t 1 t 0 0) = (-1) then
    (3, T1)
  else
    (0, T1)

theorem c_ep17 {d : Nat} {x u : Nat} {X T J : zFn} {μ : zM} (hX : zMX μ x) (hU : zUU μ x u) {t : Nat} (ht : t < 401) (hV : ∀ j, j ≤ t → zTK X j) (hrole : X 5 t = 17) {v : Int32} {k : Nat} (hk : T 0 3 = nI (k + 1)) (hk12 : k < 12) : zden zcds (d + 5) 153 [.ref (x + 0), .int (nI t), .int (v)] (zwi μ (zfl (zfl J x 6 X) u 17 T)) = some (0, some (.int ((rep17 T X t v k).1)), 0, 0, zwi μ (zfl (zfl J x 6 X) u 17 ((rep17 T X t v k).2))) := by
  refine (zd_in (d := d + 4) (cd := zc153) (nL := 6) (L := [(0, .ref (x + 0)), (1, .int (nI t)), (2, .int (v))]) rfl (Nat.le_of_ble_eq_true rfl) rfl).trans ?_
  refine (ys4 1 (v := .ref (x + 0)) rfl rfl rfl rfl).trans ?_
  refine (ygr 4 rfl (zFS.tag hX.1 (j := 0) (by decide) rfl) rfl hU.2.2.2).trans ?_
  refine (ys5 5 (L2 := [(3, .ref (u + 0)), (0, .ref (x + 0)), (1, .int (nI t)), (2, .int (v))]) rfl rfl rfl rfl).trans ?_
  refine (ys4 6 (v := .ref (u + 0)) rfl rfl rfl rfl).trans ?_
  refine (yg 9 rfl (zFS.tag hU.1 (j := 0) (by decide) rfl) (zFS.ni hU.1 (j := 0) (by decide) rfl) (by decide) rfl (zfl_at (j := 0) (by decide))).trans ?_
  refine (ys1 10 (x := 1) rfl rfl rfl).trans ?_
  refine (ys7_1 11 rfl rfl).trans ?_
  refine (ys5 13 (L2 := [(4, .int (((T 0 1) - 1))), (3, .ref (u + 0)), (0, .ref (x + 0)), (1, .int (nI t)), (2, .int (v))]) rfl rfl rfl rfl).trans ?_
  refine (ys4 14 (v := .ref (x + 0)) rfl rfl rfl rfl).trans ?_
  refine (ys4 15 (v := .int (nI t)) rfl rfl rfl rfl).trans ?_
  refine (ys1 16 (x := 1) rfl rfl rfl).trans ?_
  refine (yc3 19 rfl rfl (Nat.le_of_ble_eq_true rfl) (Or.inr (by show ztg (zwi _ _) _ = _; rw [ztg_wi]; exact (zFS.tag hX.1 (j := 0) (by decide) rfl))) rfl rfl (zlt' (zUs hU) (c_rnm hX ht hV))).trans ?_
  refine (ys5 21 (L2 := [(5, .int ((rnmL X t 1 t 0 0))), (4, .int (((T 0 1) - 1))), (3, .ref (u + 0)), (0, .ref (x + 0)), (1, .int (nI t)), (2, .int (v))]) rfl rfl rfl rfl).trans ?_
  refine (ys4 22 (v := .ref (x + 0)) rfl rfl rfl rfl).trans ?_
  refine (ygr 25 rfl (zFS.tag hX.1 (j := 0) (by decide) rfl) rfl (hX.2 4 (by decide))).trans ?_
  refine (ys4 26 (v := .int (nI t)) rfl rfl rfl rfl).trans ?_
  refine (ylx 27 (N := 401) rfl (j := t) rfl (Or.inl (zFS.tag hX.1 (j := 5) (by decide) rfl)) (zFS.ni hX.1 (j := 5) (by decide) rfl) (by omega) (by decide) rfl (Eq.trans (zfl_at2 (j := 5) hU.2.2.1 (by decide)) (show (X 5 t) = 17 from hrole))).trans ?_
  refine (ys21k 274 rfl (by decide)).trans ?_
  refine (ys4 275 (v := .ref (u + 0)) rfl rfl rfl rfl).trans ?_
  refine (ygr 278 rfl (zFS.tag hU.1 (j := 0) (by decide) rfl) rfl (hU.2.1 12 (by decide))).trans ?_
  refine (ys4 279 (v := .ref (u + 0)) rfl rfl rfl rfl).trans ?_
  refine (yg 282 rfl (zFS.tag hU.1 (j := 0) (by decide) rfl) (zFS.ni hU.1 (j := 0) (by decide) rfl) (by decide) rfl (Eq.trans (zfl_at (j := 0) (by decide)) (show (T 0 3) = nI (k + 1) from hk))).trans ?_
  refine (ys1 283 (x := 1) rfl rfl rfl).trans ?_
  refine (ys7_1 284 rfl rfl).trans ?_
  rw [show ((nI (k + 1)) - 1) = (nI k) from nI_pred _]
  refine (ys4 286 (v := .int ((rnmL X t 1 t 0 0))) rfl rfl rfl rfl).trans ?_
  refine (ywx 287 (N := 12) rfl (j := k) rfl (zFS.tag hU.1 (j := 13) (by decide) rfl) (zFS.k0 hU.1 (j := 13)) (zFS.ni hU.1 (j := 13) (by decide) rfl) (by omega) (by decide) rfl (zfl_up (j := 13) (by decide))).trans ?_
  generalize hT1 : zup T 13 k ((rnmL X t 1 t 0 0)) = T1
  refine (ys4 289 (v := .int ((rnmL X t 1 t 0 0))) rfl rfl rfl rfl).trans ?_
  refine (ys1 290 (x := (-1)) rfl rfl rfl).trans ?_
  refine ys18_1 293 rfl rfl (fun h290 => ?_) (fun h290 => ?_)
  · refine (ys1 294 (x := 3) rfl rfl rfl).trans ?_
    refine (ys19 rfl).trans ?_
    refine (ys36 rfl rfl).trans ?_
    rw [show rep17 T X t v k = (3, T1) from by subst hT1; unfold rep17; (try dsimp only); rw [if_pos h290]]; (first | done | rfl)
  · refine (ys1 298 (x := 0) rfl rfl rfl).trans ?_
    refine (ys36 rfl rfl).trans ?_
    rw [show rep17 T X t v k = (0, T1) from by subst hT1; unfold rep17; (try dsimp only); rw [if_neg h290]]; (first | done | rfl)

