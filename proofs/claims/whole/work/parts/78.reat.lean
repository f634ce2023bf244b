/-! THE REFERENCE CUTS INTO TOKENS, and reads whether they are a text -/
def re1 (X : zFn) : Nat → Nat → Nat
  | 0, i => i
  | m + 1, i => if rsm (rby X i) = 0 then if rdg (rby X i) = 0 then i else re1 X m (i + 1) else re1 X m (i + 1)
def re2 (X : zFn) : Nat → Nat → Nat
  | 0, i => i
  | m + 1, i => if rdg (rby X i) = 0 then i else re2 X m (i + 1)
def rea (X : zFn) (n a : Nat) : Nat := if rsm (rby X a) = 0 then if rdg (rby X a) = 0 then a + 1 else re2 X (n - (a + 1)) (a + 1) else re1 X (n - (a + 1)) (a + 1)
theorem rka1_eq (X : zFn) (a t : Nat) (y : Int32) : ∀ (m i : Nat), rka1 X a t y m i = rkaT X a t y (re1 X m i)
  | 0, i => by rw [rka1, re1]
  | m + 1, i => by
    rw [rka1, re1]
    repeat' split
    all_goals first | rfl | exact rka1_eq X a t y m (i + 1)
theorem rka2_eq (X : zFn) (a t : Nat) (y : Int32) : ∀ (m i : Nat), rka2 X a t y m i = rkaT X a t y (re2 X m i)
  | 0, i => by rw [rka2, re2]
  | m + 1, i => by
    rw [rka2, re2]
    repeat' split
    all_goals first | rfl | exact rka2_eq X a t y m (i + 1)
theorem rka_eq (X : zFn) (n a t : Nat) : rka X n a t = rkaT X a t (rby X a) (rea X n a) := by
  unfold rka rea
  split
  · split
    · rfl
    · exact rka2_eq _ _ _ _ _ _
  · exact rka1_eq _ _ _ _ _ _
theorem re1_ge (X : zFn) : ∀ (m i : Nat), i ≤ re1 X m i ∧ re1 X m i ≤ i + m
  | 0, i => ⟨Nat.le_refl _, Nat.le_refl _⟩
  | m + 1, i => by
    have h := re1_ge X m (i + 1)
    rw [re1]
    repeat' split
    all_goals constructor <;> omega
theorem re2_ge (X : zFn) : ∀ (m i : Nat), i ≤ re2 X m i ∧ re2 X m i ≤ i + m
  | 0, i => ⟨Nat.le_refl _, Nat.le_refl _⟩
  | m + 1, i => by
    have h := re2_ge X m (i + 1)
    rw [re2]
    repeat' split
    all_goals constructor <;> omega
theorem rea_ge (X : zFn) {n a : Nat} : a + 1 ≤ rea X n a ∧ (a < n → rea X n a ≤ n) := by
  have h1 := re1_ge X (n - (a + 1)) (a + 1)
  have h2 := re2_ge X (n - (a + 1)) (a + 1)
  unfold rea
  repeat' split
  all_goals constructor <;> omega
theorem rwd1_cg {X Y : zFn} (h : ∀ k, Y 1 k = X 1 k) (k a : Nat) : ∀ (m i : Nat) (f : Int32), rwd1 Y k a m i f = rwd1 X k a m i f
  | 0, i, f => by rw [rwd1, rwd1]
  | m + 1, i, f => by
    rw [rwd1, rwd1]
    simp only [h, rwd1_cg h k a m]
theorem rwd_cg {X Y : zFn} (h : ∀ k, Y 1 k = X 1 k) (a l : Nat) : ∀ (m i : Nat), rwd Y a l m i = rwd X a l m i
  | 0, i => by rw [rwd, rwd]
  | m + 1, i => by
    rw [rwd, rwd]
    simp only [rwd1_cg h, rwd_cg h a l m]
/-- the kind of the token from a to e whose first byte is y -/
def rkd (X : zFn) (a : Nat) (y : Int32) (e : Nat) : Int32 :=
  if rsm y = 0 then
    if rdg y = 0 then if y = 44 then 22 else if y = 59 then 23 else if y = (-1) then 30 else 31
    else if nI (e - a) ≤ 6 then 21 else 31
  else if nI (e - a) ≤ 10 then nI (rwd X a (e - a) 14 0) else 31
theorem rkaT_eq (X : zFn) (a t : Nat) (y : Int32) (e : Nat) : rkaT X a t y e = (rkd X a y e, zup X 4 t (nI (e - a))) := by
  unfold rkaT rkd
  dsimp only
  rw [rwd_cg (X := X) (Y := zup X 4 t (nI (e - a))) (fun k => zup_ne' (by omega))]
  repeat' split
  all_goals rfl
theorem c_rkx {d : Nat} {x : Nat} {X J : zFn} {μ : zM} (hX : zMX μ x) {n : Nat} (hl : X 0 1 = nI n) (hn : n ≤ 2000) {a t : Nat} (ha : a ≤ n) (ht : t < 401) (hS : zMS μ J) : zden zcds (d + 7) 136 [.ref (x + 0), .int (nI a), .int (nI t)] (zwi μ (zfl J x 6 X)) = some (0, some (.int (rkd X a (rby X a) (rea X n a))), 0, 0, zwi μ (zfl J x 6 (zup X 4 t (nI (rea X n a - a))))) := by
  have h := c_rka (d := d) hX hl hn ha ht hS
  rw [rka_eq, rkaT_eq] at h
  exact h
theorem rkd_end {X : zFn} {n a e : Nat} (hl : X 0 1 = nI n) (hn : n ≤ 2000) (ha : a = n) : rkd X a (rby X a) e = 30 := by
  unfold rkd
  rw [rby_end hl hn ha, if_pos (by decide), if_pos (by decide), if_neg (by decide), if_neg (by decide), if_pos rfl]

def rbb (X : zFn) : Nat → Nat → Nat
  | 0, i =>
    i
  | m + 1, i =>
    if (rby X i) = 32 then
      rbb X m (i + 1)
    else
      if (rby X i) = 10 then
        rbb X m (i + 1)
      else
        i

theorem l_rbb {d c sl : Nat} {rz : zR} {x : Nat} {X J : zFn} {μ : zM} (hX : zMX μ x) {n : Nat} (hl : X 0 1 = nI n) (hn : n ≤ 2000) {t : Nat} : ∀ (m i : Nat), i + m = n → zden1 (d + 8) (zden zcds (d + 8)) zc138 (37, [(2, .int (nI t)), (1, .int (nI ((rbb X m i)))), (0, .ref (x + 0))], [], c, sl, zwi μ (zfl J x 6 X)) = some rz → zden1 (d + 8) (zden zcds (d + 8)) zc138 (11, [(2, .int (nI t)), (1, .int (nI i)), (0, .ref (x + 0))], [], c, sl, zwi μ (zfl J x 6 X)) = some rz
  | 0, i, e, hkk => by
    have ei : i = n := by omega
    subst ei
    refine (ys4 12 (v := .ref (x + 0)) rfl rfl rfl rfl).trans ?_
    refine (ys4 13 (v := .int (nI i)) rfl rfl rfl rfl).trans ?_
    refine (yc2 16 rfl rfl (Nat.le_of_ble_eq_true rfl) (Or.inr (by show ztg (zwi _ _) _ = _; rw [ztg_wi]; exact (zFS.tag hX.1 (j := 0) (by decide) rfl))) rfl rfl (c_rby hX hl hn (by omega))).trans ?_
    rw [show (rby X i) = (-1) from rby_end hl hn (by omega)]
    refine (ys1 18 (x := 32) rfl rfl rfl).trans ?_
    refine ys18_0 21 rfl rfl (fun h18 => absurd h18 (by decide)) (fun h18 => ?_)
    refine (ys4 22 (v := .ref (x + 0)) rfl rfl rfl rfl).trans ?_
    refine (ys4 23 (v := .int (nI i)) rfl rfl rfl rfl).trans ?_
    refine (yc2 26 rfl rfl (Nat.le_of_ble_eq_true rfl) (Or.inr (by show ztg (zwi _ _) _ = _; rw [ztg_wi]; exact (zFS.tag hX.1 (j := 0) (by decide) rfl))) rfl rfl (c_rby hX hl hn (by omega))).trans ?_
    rw [show (rby X i) = (-1) from rby_end hl hn (by omega)]
    refine (ys1 28 (x := 10) rfl rfl rfl).trans ?_
    refine ys18_1 31 rfl rfl (fun h28 => absurd h28 (by decide)) (fun h28 => ?_)
    rw [show rbb X 0 i = i from by rw [rbb]; (try dsimp only); first | done | rfl] at hkk; exact hkk
  | m + 1, i, e, hkk => by
    refine (ys4 12 (v := .ref (x + 0)) rfl rfl rfl rfl).trans ?_
    refine (ys4 13 (v := .int (nI i)) rfl rfl rfl rfl).trans ?_
    refine (yc2 16 rfl rfl (Nat.le_of_ble_eq_true rfl) (Or.inr (by show ztg (zwi _ _) _ = _; rw [ztg_wi]; exact (zFS.tag hX.1 (j := 0) (by decide) rfl))) rfl rfl (c_rby hX hl hn (by omega))).trans ?_
    refine (ys1 18 (x := 32) rfl rfl rfl).trans ?_
    refine ys18_0 21 rfl rfl (fun h18 => ?_) (fun h18 => ?_)
    · refine (ys6 34 (y := nI (i + 1)) (L2 := [(1, .int (nI (i + 1))), (2, .int (nI t)), (0, .ref (x + 0))]) rfl rfl (nI_1 _) rfl rfl).trans ?_
      refine (ys19 rfl).trans ?_
      rw [show rbb X (m + 1) i = rbb X m (i + 1) from by rw [rbb]; (try dsimp only); rw [if_pos h18]] at hkk; refine zden1_fg (L := [(2, .int (nI t)), (1, .int (nI (i + 1))), (0, .ref (x + 0))]) (zfg_cons rfl (zfg_cons rfl (zfg_cons rfl zfg_nil))) ?_; exact l_rbb hX hl hn m (i + 1)    (by omega) hkk
    · refine (ys4 22 (v := .ref (x + 0)) rfl rfl rfl rfl).trans ?_
      refine (ys4 23 (v := .int (nI i)) rfl rfl rfl rfl).trans ?_
      refine (yc2 26 rfl rfl (Nat.le_of_ble_eq_true rfl) (Or.inr (by show ztg (zwi _ _) _ = _; rw [ztg_wi]; exact (zFS.tag hX.1 (j := 0) (by decide) rfl))) rfl rfl (c_rby hX hl hn (by omega))).trans ?_
      refine (ys1 28 (x := 10) rfl rfl rfl).trans ?_
      refine ys18_1 31 rfl rfl (fun h28 => ?_) (fun h28 => ?_)
      · refine (ys6 34 (y := nI (i + 1)) (L2 := [(1, .int (nI (i + 1))), (2, .int (nI t)), (0, .ref (x + 0))]) rfl rfl (nI_1 _) rfl rfl).trans ?_
        refine (ys19 rfl).trans ?_
        rw [show rbb X (m + 1) i = rbb X m (i + 1) from by rw [rbb]; (try dsimp only); rw [if_neg h18, if_pos h28]] at hkk; refine zden1_fg (L := [(2, .int (nI t)), (1, .int (nI (i + 1))), (0, .ref (x + 0))]) (zfg_cons rfl (zfg_cons rfl (zfg_cons rfl zfg_nil))) ?_; exact l_rbb hX hl hn m (i + 1)    (by omega) hkk
      · rw [show rbb X (m + 1) i = i from by rw [rbb]; (try dsimp only); rw [if_neg h18, if_neg h28]] at hkk; exact hkk

theorem rbb_ge (X : zFn) : ∀ (m i : Nat), i ≤ rbb X m i ∧ rbb X m i ≤ i + m
  | 0, i => ⟨Nat.le_refl _, Nat.le_refl _⟩
  | m + 1, i => by
    have h := rbb_ge X m (i + 1)
    rw [rbb]
    repeat' split
    all_goals constructor <;> omega

def rct (n : Nat) : Nat → Nat → Nat → zFn → zFn
  | 0, i, a, X =>
    X
  | m + 1, i, a, X =>
    let X1 := zup X 3 i (nI (rbb X (n - a) a))
    let X2 := zup X1 5 i (0)
    let X3 := zup X2 4 i (nI (rea X2 n (rbb X (n - a) a) - (rbb X (n - a) a)))
    let X4 := zup X3 2 i ((rkd X2 (rbb X (n - a) a) (rby X2 (rbb X (n - a) a)) (rea X2 n (rbb X (n - a) a))))
    if (nI i) = (nI 400) then
      if ((rkd X2 (rbb X (n - a) a) (rby X2 (rbb X (n - a) a)) (rea X2 n (rbb X (n - a) a)))) = 30 then
        if ((rkd X2 (rbb X (n - a) a) (rby X2 (rbb X (n - a) a)) (rea X2 n (rbb X (n - a) a)))) < 30 then
          rct n m (i + 1) ((rbb X (n - a) a) + (rea X2 n (rbb X (n - a) a) - (rbb X (n - a) a))) X4
        else
          X4
      else
        let X5 := zup X4 2 i (31)
        X5
    else
      if ((rkd X2 (rbb X (n - a) a) (rby X2 (rbb X (n - a) a)) (rea X2 n (rbb X (n - a) a)))) < 30 then
        rct n m (i + 1) ((rbb X (n - a) a) + (rea X2 n (rbb X (n - a) a) - (rbb X (n - a) a))) X4
      else
        X4

theorem l_rct {d c sl : Nat} {x : Nat} {J : zFn} {μ : zM} (hX : zMX μ x) {n : Nat} (hn : n ≤ 2000) (hS : zMS μ J) : ∀ (m i : Nat) (a : Nat) (X : zFn), X 0 1 = nI n → a ≤ n → i + m = 401 → zden1 (d + 8) (zden zcds (d + 8)) zc138 (4, [(2, .int (nI i)), (1, .int (nI a)), (0, .ref (x + 0))], [], c, sl, zwi μ (zfl J x 6 X)) = some (0, none, c, sl, zwi μ (zfl J x 6 ((rct n m i a X))))
  | 0, i, a, X, hl, ha, e => by
    refine (ys4 5 (v := .int (nI i)) rfl rfl rfl rfl).trans ?_
    refine (ys1 8 (x := nI 400) rfl rfl rfl).trans ?_
    refine ys18_4 11 rfl rfl (fun h8 => ?_) (fun h8 => absurd (nI_lt (by omega) (by omega)) h8)
    refine (ys36v rfl rfl).trans ?_
    rw [show rct n 0 i a X = X from by rw [rct]; (try dsimp only); first | done | rfl]; (first | done | rfl)
  | m + 1, i, a, X, hl, ha, e => by
    refine (ys4 5 (v := .int (nI i)) rfl rfl rfl rfl).trans ?_
    refine (ys1 8 (x := nI 400) rfl rfl rfl).trans ?_
    refine ys18_4 11 rfl rfl (fun h8 => absurd h8 (nI_nlt (by omega) (by omega))) (fun h8 => ?_)
    refine l_rbb hX hl hn (n - a) a (by omega) ?_
    have hpl : (rbb X (n - a) a) ≤ n := by have := rbb_ge X (n - a) a; omega
    refine (ys4 38 (v := .ref (x + 0)) rfl rfl rfl rfl).trans ?_
    refine (ygr 41 rfl (zFS.tag hX.1 (j := 0) (by decide) rfl) rfl (hX.2 2 (by decide))).trans ?_
    refine (ys4 42 (v := .int (nI i)) rfl rfl rfl rfl).trans ?_
    refine (ys4 43 (v := .int (nI (rbb X (n - a) a))) rfl rfl rfl rfl).trans ?_
    refine (ywx 44 (N := 401) rfl (j := i) rfl (zFS.tag hX.1 (j := 3) (by decide) rfl) (zFS.k0 hX.1 (j := 3)) (zFS.ni hX.1 (j := 3) (by decide) rfl) (by omega) (by decide) rfl (zfl_up (j := 3) (by decide))).trans ?_
    generalize hX1 : zup X 3 i (nI (rbb X (n - a) a)) = X1
    refine (ys4 45 (v := .ref (x + 0)) rfl rfl rfl rfl).trans ?_
    refine (ygr 48 rfl (zFS.tag hX.1 (j := 0) (by decide) rfl) rfl (hX.2 4 (by decide))).trans ?_
    refine (ys4 49 (v := .int (nI i)) rfl rfl rfl rfl).trans ?_
    refine (ys1 50 (x := 0) rfl rfl rfl).trans ?_
    refine (ywx 51 (N := 401) rfl (j := i) rfl (zFS.tag hX.1 (j := 5) (by decide) rfl) (zFS.k0 hX.1 (j := 5)) (zFS.ni hX.1 (j := 5) (by decide) rfl) (by omega) (by decide) rfl (zfl_up (j := 5) (by decide))).trans ?_
    generalize hX2 : zup X1 5 i (0) = X2
    have hl2 : X2 0 1 = nI n := by subst hX2 hX1; rw [zup_ne' (by omega), zup_ne' (by omega)]; exact hl
    refine (ys4 52 (v := .ref (x + 0)) rfl rfl rfl rfl).trans ?_
    refine (ygr 55 rfl (zFS.tag hX.1 (j := 0) (by decide) rfl) rfl (hX.2 1 (by decide))).trans ?_
    refine (ys4 56 (v := .int (nI i)) rfl rfl rfl rfl).trans ?_
    refine (ys4 57 (v := .ref (x + 0)) rfl rfl rfl rfl).trans ?_
    refine (ys4 58 (v := .int (nI (rbb X (n - a) a))) rfl rfl rfl rfl).trans ?_
    refine (ys4 59 (v := .int (nI i)) rfl rfl rfl rfl).trans ?_
    refine (yc3 62 rfl rfl (Nat.le_of_ble_eq_true rfl) (Or.inr (by show ztg (zwi _ _) _ = _; rw [ztg_wi]; exact (zFS.tag hX.1 (j := 0) (by decide) rfl))) rfl rfl (c_rkx hX hl2 hn hpl (by omega) hS)).trans ?_
    generalize hX3 : zup X2 4 i (nI (rea X2 n (rbb X (n - a) a) - (rbb X (n - a) a))) = X3
    refine (ywx 63 (N := 401) rfl (j := i) rfl (zFS.tag hX.1 (j := 2) (by decide) rfl) (zFS.k0 hX.1 (j := 2)) (zFS.ni hX.1 (j := 2) (by decide) rfl) (by omega) (by decide) rfl (zfl_up (j := 2) (by decide))).trans ?_
    generalize hX4 : zup X3 2 i ((rkd X2 (rbb X (n - a) a) (rby X2 (rbb X (n - a) a)) (rea X2 n (rbb X (n - a) a)))) = X4
    refine (ys4 64 (v := .int (nI i)) rfl rfl rfl rfl).trans ?_
    refine (ys1 67 (x := nI 400) rfl rfl rfl).trans ?_
    refine ys18_1 70 rfl rfl (fun h67 => ?_) (fun h67 => ?_)
    · refine (ys4 71 (v := .ref (x + 0)) rfl rfl rfl rfl).trans ?_
      refine (ygr 74 rfl (zFS.tag hX.1 (j := 0) (by decide) rfl) rfl (hX.2 1 (by decide))).trans ?_
      refine (ys4 75 (v := .int (nI i)) rfl rfl rfl rfl).trans ?_
      refine (ylx 76 (N := 401) rfl (j := i) rfl (Or.inl (zFS.tag hX.1 (j := 2) (by decide) rfl)) (zFS.ni hX.1 (j := 2) (by decide) rfl) (by omega) (by decide) rfl (Eq.trans (zfl_at (j := 2) (by decide)) (show (X4 2 i) = ((rkd X2 (rbb X (n - a) a) (rby X2 (rbb X (n - a) a)) (rea X2 n (rbb X (n - a) a)))) from (by rw [← hX4]; exact zup_same _ _ _ _)))).trans ?_
      refine (ys1 78 (x := 30) rfl rfl rfl).trans ?_
      refine ys18_0 81 rfl rfl (fun h78 => ?_) (fun h78 => ?_)
      · refine (ys4 90 (v := .ref (x + 0)) rfl rfl rfl rfl).trans ?_
        refine (ygr 93 rfl (zFS.tag hX.1 (j := 0) (by decide) rfl) rfl (hX.2 1 (by decide))).trans ?_
        refine (ys4 94 (v := .int (nI i)) rfl rfl rfl rfl).trans ?_
        refine (ylx 95 (N := 401) rfl (j := i) rfl (Or.inl (zFS.tag hX.1 (j := 2) (by decide) rfl)) (zFS.ni hX.1 (j := 2) (by decide) rfl) (by omega) (by decide) rfl (Eq.trans (zfl_at (j := 2) (by decide)) (show (X4 2 i) = ((rkd X2 (rbb X (n - a) a) (rby X2 (rbb X (n - a) a)) (rea X2 n (rbb X (n - a) a)))) from (by rw [← hX4]; exact zup_same _ _ _ _)))).trans ?_
        refine (ys1 97 (x := 30) rfl rfl rfl).trans ?_
        refine ys18_2 100 rfl rfl (fun h97 => ?_) (fun h97 => ?_)
        · have hz : (rbb X (n - a) a) < n := by rcases Nat.lt_or_ge (rbb X (n - a) a) n with h | h; exact h; exact absurd h97 (by rw [rkd_end hl2 hn (by omega)]; decide)
          refine (ys4 102 (v := .int (nI (rbb X (n - a) a))) rfl rfl rfl rfl).trans ?_
          refine (ys4 103 (v := .ref (x + 0)) rfl rfl rfl rfl).trans ?_
          refine (ygr 106 rfl (zFS.tag hX.1 (j := 0) (by decide) rfl) rfl (hX.2 3 (by decide))).trans ?_
          refine (ys4 107 (v := .int (nI i)) rfl rfl rfl rfl).trans ?_
          refine (ylx 108 (N := 401) rfl (j := i) rfl (Or.inl (zFS.tag hX.1 (j := 4) (by decide) rfl)) (zFS.ni hX.1 (j := 4) (by decide) rfl) (by omega) (by decide) rfl (Eq.trans (zfl_at (j := 4) (by decide)) (show (X4 4 i) = (nI (rea X2 n (rbb X (n - a) a) - (rbb X (n - a) a))) from (by subst hX4 hX3; simp [zup])))).trans ?_
          refine (ys7_0 109 rfl rfl).trans ?_
          rw [show ((nI (rbb X (n - a) a)) + (nI (rea X2 n (rbb X (n - a) a) - (rbb X (n - a) a)))) = nI ((rbb X (n - a) a) + (rea X2 n (rbb X (n - a) a) - (rbb X (n - a) a))) from nI_add (rbb X (n - a) a) (rea X2 n (rbb X (n - a) a) - (rbb X (n - a) a))]
          refine (ys5 110 (L2 := [(1, .int (nI ((rbb X (n - a) a) + (rea X2 n (rbb X (n - a) a) - (rbb X (n - a) a))))), (2, .int (nI i)), (0, .ref (x + 0))]) rfl rfl rfl rfl).trans ?_
          refine (ys6 113 (y := nI (i + 1)) (L2 := [(2, .int (nI (i + 1))), (1, .int (nI ((rbb X (n - a) a) + (rea X2 n (rbb X (n - a) a) - (rbb X (n - a) a))))), (0, .ref (x + 0))]) rfl rfl (nI_1 _) rfl rfl).trans ?_
          refine (ys19 rfl).trans ?_
          rw [show rct n (m + 1) i a X = rct n m (i + 1) ((rbb X (n - a) a) + (rea X2 n (rbb X (n - a) a) - (rbb X (n - a) a))) X4 from by subst hX4 hX3 hX2 hX1; rw [rct]; (try dsimp only); rw [if_pos h67, if_pos h78, if_pos h97]]; exact l_rct hX hn hS m (i + 1) ((rbb X (n - a) a) + (rea X2 n (rbb X (n - a) a) - (rbb X (n - a) a))) X4  (by subst hX4 hX3; rw [zup_ne' (by omega), zup_ne' (by omega)]; exact hl2) (by have := (rea_ge X2 (n := n) (a := (rbb X (n - a) a))).2 hz; have := (rea_ge X2 (n := n) (a := (rbb X (n - a) a))).1; omega) (by omega)
        · refine (ys36v rfl rfl).trans ?_
          rw [show rct n (m + 1) i a X = X4 from by subst hX4 hX3 hX2 hX1; rw [rct]; (try dsimp only); rw [if_pos h67, if_pos h78, if_neg h97]]; (first | done | rfl)
      · refine (ys4 82 (v := .ref (x + 0)) rfl rfl rfl rfl).trans ?_
        refine (ygr 85 rfl (zFS.tag hX.1 (j := 0) (by decide) rfl) rfl (hX.2 1 (by decide))).trans ?_
        refine (ys4 86 (v := .int (nI i)) rfl rfl rfl rfl).trans ?_
        refine (ys1 88 (x := 31) rfl rfl rfl).trans ?_
        refine (ywx 89 (N := 401) rfl (j := i) rfl (zFS.tag hX.1 (j := 2) (by decide) rfl) (zFS.k0 hX.1 (j := 2)) (zFS.ni hX.1 (j := 2) (by decide) rfl) (by omega) (by decide) rfl (zfl_up (j := 2) (by decide))).trans ?_
        generalize hX5 : zup X4 2 i (31) = X5
        refine (ys4 90 (v := .ref (x + 0)) rfl rfl rfl rfl).trans ?_
        refine (ygr 93 rfl (zFS.tag hX.1 (j := 0) (by decide) rfl) rfl (hX.2 1 (by decide))).trans ?_
        refine (ys4 94 (v := .int (nI i)) rfl rfl rfl rfl).trans ?_
        refine (ylx 95 (N := 401) rfl (j := i) rfl (Or.inl (zFS.tag hX.1 (j := 2) (by decide) rfl)) (zFS.ni hX.1 (j := 2) (by decide) rfl) (by omega) (by decide) rfl (Eq.trans (zfl_at (j := 2) (by decide)) (show (X5 2 i) = (31) from (by rw [← hX5]; exact zup_same _ _ _ _)))).trans ?_
        refine (ys1 97 (x := 30) rfl rfl rfl).trans ?_
        refine ys18_2 100 rfl rfl (fun h97 => absurd h97 (by decide)) (fun h97 => ?_)
        refine (ys36v rfl rfl).trans ?_
        rw [show rct n (m + 1) i a X = X5 from by subst hX5 hX4 hX3 hX2 hX1; rw [rct]; (try dsimp only); rw [if_pos h67, if_neg h78]]; (first | done | rfl)
    · refine (ys4 90 (v := .ref (x + 0)) rfl rfl rfl rfl).trans ?_
      refine (ygr 93 rfl (zFS.tag hX.1 (j := 0) (by decide) rfl) rfl (hX.2 1 (by decide))).trans ?_
      refine (ys4 94 (v := .int (nI i)) rfl rfl rfl rfl).trans ?_
      refine (ylx 95 (N := 401) rfl (j := i) rfl (Or.inl (zFS.tag hX.1 (j := 2) (by decide) rfl)) (zFS.ni hX.1 (j := 2) (by decide) rfl) (by omega) (by decide) rfl (Eq.trans (zfl_at (j := 2) (by decide)) (show (X4 2 i) = ((rkd X2 (rbb X (n - a) a) (rby X2 (rbb X (n - a) a)) (rea X2 n (rbb X (n - a) a)))) from (by rw [← hX4]; exact zup_same _ _ _ _)))).trans ?_
      refine (ys1 97 (x := 30) rfl rfl rfl).trans ?_
      refine ys18_2 100 rfl rfl (fun h97 => ?_) (fun h97 => ?_)
      · have hz : (rbb X (n - a) a) < n := by rcases Nat.lt_or_ge (rbb X (n - a) a) n with h | h; exact h; exact absurd h97 (by rw [rkd_end hl2 hn (by omega)]; decide)
        refine (ys4 102 (v := .int (nI (rbb X (n - a) a))) rfl rfl rfl rfl).trans ?_
        refine (ys4 103 (v := .ref (x + 0)) rfl rfl rfl rfl).trans ?_
        refine (ygr 106 rfl (zFS.tag hX.1 (j := 0) (by decide) rfl) rfl (hX.2 3 (by decide))).trans ?_
        refine (ys4 107 (v := .int (nI i)) rfl rfl rfl rfl).trans ?_
        refine (ylx 108 (N := 401) rfl (j := i) rfl (Or.inl (zFS.tag hX.1 (j := 4) (by decide) rfl)) (zFS.ni hX.1 (j := 4) (by decide) rfl) (by omega) (by decide) rfl (Eq.trans (zfl_at (j := 4) (by decide)) (show (X4 4 i) = (nI (rea X2 n (rbb X (n - a) a) - (rbb X (n - a) a))) from (by subst hX4 hX3; simp [zup])))).trans ?_
        refine (ys7_0 109 rfl rfl).trans ?_
        rw [show ((nI (rbb X (n - a) a)) + (nI (rea X2 n (rbb X (n - a) a) - (rbb X (n - a) a)))) = nI ((rbb X (n - a) a) + (rea X2 n (rbb X (n - a) a) - (rbb X (n - a) a))) from nI_add (rbb X (n - a) a) (rea X2 n (rbb X (n - a) a) - (rbb X (n - a) a))]
        refine (ys5 110 (L2 := [(1, .int (nI ((rbb X (n - a) a) + (rea X2 n (rbb X (n - a) a) - (rbb X (n - a) a))))), (2, .int (nI i)), (0, .ref (x + 0))]) rfl rfl rfl rfl).trans ?_
        refine (ys6 113 (y := nI (i + 1)) (L2 := [(2, .int (nI (i + 1))), (1, .int (nI ((rbb X (n - a) a) + (rea X2 n (rbb X (n - a) a) - (rbb X (n - a) a))))), (0, .ref (x + 0))]) rfl rfl (nI_1 _) rfl rfl).trans ?_
        refine (ys19 rfl).trans ?_
        rw [show rct n (m + 1) i a X = rct n m (i + 1) ((rbb X (n - a) a) + (rea X2 n (rbb X (n - a) a) - (rbb X (n - a) a))) X4 from by subst hX4 hX3 hX2 hX1; rw [rct]; (try dsimp only); rw [if_neg h67, if_pos h97]]; exact l_rct hX hn hS m (i + 1) ((rbb X (n - a) a) + (rea X2 n (rbb X (n - a) a) - (rbb X (n - a) a))) X4  (by subst hX4 hX3; rw [zup_ne' (by omega), zup_ne' (by omega)]; exact hl2) (by have := (rea_ge X2 (n := n) (a := (rbb X (n - a) a))).2 hz; have := (rea_ge X2 (n := n) (a := (rbb X (n - a) a))).1; omega) (by omega)
      · refine (ys36v rfl rfl).trans ?_
        rw [show rct n (m + 1) i a X = X4 from by subst hX4 hX3 hX2 hX1; rw [rct]; (try dsimp only); rw [if_neg h67, if_neg h97]]; (first | done | rfl)

theorem c_rct {d : Nat} {x : Nat} {X J : zFn} {μ : zM} (hX : zMX μ x) {n : Nat} (hl : X 0 1 = nI n) (hn : n ≤ 2000) (hS : zMS μ J) : zden zcds (d + 9) 138 [.ref (x + 0)] (zwi μ (zfl J x 6 X)) = some (0, none, 0, 0, zwi μ (zfl J x 6 (rct n 401 0 0 X))) := by
  refine (zd_in (d := d + 8) (cd := zc138) (nL := 3) (L := [(0, .ref (x + 0))]) rfl (Nat.le_of_ble_eq_true rfl) rfl).trans ?_
  refine (ys1 1 (x := nI 0) rfl rfl rfl).trans ?_
  refine (ys5 2 (L2 := [(1, .int (nI 0)), (0, .ref (x + 0))]) rfl rfl rfl rfl).trans ?_
  refine (ys1 3 (x := nI 0) rfl rfl rfl).trans ?_
  refine (ys5 4 (L2 := [(2, .int (nI 0)), (1, .int (nI 0)), (0, .ref (x + 0))]) rfl rfl rfl rfl).trans ?_
  exact l_rct hX hn hS 401 0 0 X hl (by omega) (by omega)

/-- the token stands at t, ahead of (or at) an end e; fewer than m tokens are left -/
def zTF (X : zFn) (m : Nat) : Prop := ∃ e t, X 0 3 = nI t ∧ t ≤ e ∧ e ≤ 400 ∧ 30 ≤ X 2 e ∧ e < t + m
theorem zTF.ix {X : zFn} {m : Nat} (h : zTF X m) : zix (X 0 3) 401 := by
  obtain ⟨e, t, h1, h2, h3, -⟩ := h
  rw [h1]
  exact zin_nI (by omega) (by decide)
theorem zTF_0 {X : zFn} (h : zTF X 0) : False := by
  obtain ⟨e, t, h1, h2, h3, h4, h5⟩ := h
  omega
theorem zTF_up {X Y : zFn} {m : Nat} {q : Int32} (h : zTF X (m + 1)) (hq : X 2 (zsf (X 0 3) 401) = q) (h30 : q < 30) (h3 : Y 0 3 = X 0 3 + 1) (h2 : ∀ k, Y 2 k = X 2 k) : zTF Y m := by
  obtain ⟨e, t, h1, h4, h5, h6, h7⟩ := h
  rw [h1, zsf_nI (by omega) (by decide)] at hq
  have hne : t ≠ e := by
    rintro rfl
    rw [hq] at h6
    exact i_nle h30 h6
  exact ⟨e, t + 1, by rw [h3, h1, nI_1], by omega, h5, by rw [h2]; exact h6, by omega⟩
theorem zTF_le {X : zFn} {m k : Nat} (h : zTF X m) (hk : m ≤ k) : zTF X k := by
  obtain ⟨e, t, h1, h2, h3, h4, h5⟩ := h
  exact ⟨e, t, h1, h2, h3, h4, by omega⟩
theorem zTF_w {X Y : zFn} {m : Nat} {q : Int32} (h : zTF X m) (hq : X 2 (zsf (X 0 3) 401) = q) (h30 : q < 30) (h3 : Y 0 3 = X 0 3 + 1) (h2 : ∀ k, Y 2 k = X 2 k) : zTF Y m := by
  cases m with
  | zero => exact absurd h zTF_0
  | succ m => exact zTF_le (zTF_up h hq h30 h3 h2) (Nat.le_succ m)

theorem c_et0 {d : Nat} {x : Nat} {X J : zFn} {μ : zM} (hX : zMX μ x) {m : Nat} (hT : zTF X m) {q : Int32} (h : ¬ X 2 (zsf (X 0 3) 401) = q) : zden zcds (d + 1) 139 [.ref (x + 0), .int (q)] (zwi μ (zfl J x 6 X)) = some (0, some (.int 0), 0, 0, zwi μ (zfl J x 6 X)) := by
  refine (zd_in (d := d + 0) (cd := zc139) (nL := 2) (L := [(0, .ref (x + 0)), (1, .int (q))]) rfl (Nat.le_of_ble_eq_true rfl) rfl).trans ?_
  refine (ys4 1 (v := .ref (x + 0)) rfl rfl rfl rfl).trans ?_
  refine (ygr 4 rfl (zFS.tag hX.1 (j := 0) (by decide) rfl) rfl (hX.2 1 (by decide))).trans ?_
  refine (ys4 5 (v := .ref (x + 0)) rfl rfl rfl rfl).trans ?_
  refine (yg 8 rfl (zFS.tag hX.1 (j := 0) (by decide) rfl) (zFS.ni hX.1 (j := 0) (by decide) rfl) (by decide) rfl (Eq.trans (zfl_at (j := 0) (by decide)) (show (X 0 3) = nI (zsf (X 0 3) 401) from (hT.ix.eq (by decide))))).trans ?_
  refine (ylx 9 (N := 401) rfl (j := (zsf (X 0 3) 401)) rfl (Or.inl (zFS.tag hX.1 (j := 2) (by decide) rfl)) (zFS.ni hX.1 (j := 2) (by decide) rfl) (zsf_lt (by decide) (by decide)) (by decide) rfl (zfl_at (j := 2) (by decide))).trans ?_
  refine (ys4 10 (v := .int (q)) rfl rfl rfl rfl).trans ?_
  refine ys18_0 13 rfl rfl (fun h10 => absurd h10 h) (fun h10 => ?_)
  refine (ys1 14 (x := 0) rfl rfl rfl).trans ?_
  refine (ys36 rfl (by decide)).trans ?_
  rfl

def xat (X : zFn) : zFn :=
  let X1 := zup X 0 3 (((X 0 3) + 1))
  X1

theorem c_et1 {d : Nat} {x : Nat} {X J : zFn} {μ : zM} (hX : zMX μ x) {m : Nat} (hT : zTF X m) {q : Int32} (h : X 2 (zsf (X 0 3) 401) = q) : zden zcds (d + 1) 139 [.ref (x + 0), .int (q)] (zwi μ (zfl J x 6 X)) = some (0, some (.int 1), 0, 0, zwi μ (zfl J x 6 ((xat X)))) := by
  refine (zd_in (d := d + 0) (cd := zc139) (nL := 2) (L := [(0, .ref (x + 0)), (1, .int (q))]) rfl (Nat.le_of_ble_eq_true rfl) rfl).trans ?_
  refine (ys4 1 (v := .ref (x + 0)) rfl rfl rfl rfl).trans ?_
  refine (ygr 4 rfl (zFS.tag hX.1 (j := 0) (by decide) rfl) rfl (hX.2 1 (by decide))).trans ?_
  refine (ys4 5 (v := .ref (x + 0)) rfl rfl rfl rfl).trans ?_
  refine (yg 8 rfl (zFS.tag hX.1 (j := 0) (by decide) rfl) (zFS.ni hX.1 (j := 0) (by decide) rfl) (by decide) rfl (Eq.trans (zfl_at (j := 0) (by decide)) (show (X 0 3) = nI (zsf (X 0 3) 401) from (hT.ix.eq (by decide))))).trans ?_
  refine (ylx 9 (N := 401) rfl (j := (zsf (X 0 3) 401)) rfl (Or.inl (zFS.tag hX.1 (j := 2) (by decide) rfl)) (zFS.ni hX.1 (j := 2) (by decide) rfl) (zsf_lt (by decide) (by decide)) (by decide) rfl (zfl_at (j := 2) (by decide))).trans ?_
  refine (ys4 10 (v := .int (q)) rfl rfl rfl rfl).trans ?_
  refine ys18_0 13 rfl rfl (fun h10 => ?_) (fun h10 => absurd h h10)
  refine (ys4 16 (v := .ref (x + 0)) rfl rfl rfl rfl).trans ?_
  refine (ys14 17 rfl (Nat.le_of_ble_eq_true rfl) rfl).trans ?_
  refine (yg 20 rfl (zFS.tag hX.1 (j := 0) (by decide) rfl) (zFS.ni hX.1 (j := 0) (by decide) rfl) (by decide) rfl (zfl_at (j := 0) (by decide))).trans ?_
  refine (ys1 21 (x := 1) rfl rfl rfl).trans ?_
  refine (ys7_0 22 rfl rfl).trans ?_
  refine (yq 25 rfl (zFS.tag hX.1 (j := 0) (by decide) rfl) (zFS.k0 hX.1 (j := 0)) (zFS.ni hX.1 (j := 0) (by decide) rfl) (by decide) rfl (zfl_up (j := 0) (by decide))).trans ?_
  generalize hX1 : zup X 0 3 (((X 0 3) + 1)) = X1
  refine (ys1 26 (x := 1) rfl rfl rfl).trans ?_
  refine (ys36 rfl (by decide)).trans ?_
  rw [show xat X = X1 from by subst hX1; unfold xat; (try dsimp only); first | done | rfl]; (first | done | rfl)

theorem c_ea0 {d : Nat} {x : Nat} {X J : zFn} {μ : zM} (hX : zMX μ x) {m : Nat} (hT : zTF X m) {q z : Int32} (h : ¬ X 2 (zsf (X 0 3) 401) = q) : zden zcds (d + 1) 140 [.ref (x + 0), .int (q), .int (z)] (zwi μ (zfl J x 6 X)) = some (0, some (.int 0), 0, 0, zwi μ (zfl J x 6 X)) := by
  refine (zd_in (d := d + 0) (cd := zc140) (nL := 3) (L := [(0, .ref (x + 0)), (1, .int (q)), (2, .int (z))]) rfl (Nat.le_of_ble_eq_true rfl) rfl).trans ?_
  refine (ys4 1 (v := .ref (x + 0)) rfl rfl rfl rfl).trans ?_
  refine (ygr 4 rfl (zFS.tag hX.1 (j := 0) (by decide) rfl) rfl (hX.2 1 (by decide))).trans ?_
  refine (ys4 5 (v := .ref (x + 0)) rfl rfl rfl rfl).trans ?_
  refine (yg 8 rfl (zFS.tag hX.1 (j := 0) (by decide) rfl) (zFS.ni hX.1 (j := 0) (by decide) rfl) (by decide) rfl (Eq.trans (zfl_at (j := 0) (by decide)) (show (X 0 3) = nI (zsf (X 0 3) 401) from (hT.ix.eq (by decide))))).trans ?_
  refine (ylx 9 (N := 401) rfl (j := (zsf (X 0 3) 401)) rfl (Or.inl (zFS.tag hX.1 (j := 2) (by decide) rfl)) (zFS.ni hX.1 (j := 2) (by decide) rfl) (zsf_lt (by decide) (by decide)) (by decide) rfl (zfl_at (j := 2) (by decide))).trans ?_
  refine (ys4 10 (v := .int (q)) rfl rfl rfl rfl).trans ?_
  refine ys18_0 13 rfl rfl (fun h10 => absurd h10 h) (fun h10 => ?_)
  refine (ys1 14 (x := 0) rfl rfl rfl).trans ?_
  refine (ys36 rfl (by decide)).trans ?_
  rfl

def xas (X : zFn) (z : Int32) : zFn :=
  let X1 := zup X 5 (zsf (X 0 3) 401) (z)
  let X2 := zup X1 0 3 (((X1 0 3) + 1))
  X2

theorem c_ea1 {d : Nat} {x : Nat} {X J : zFn} {μ : zM} (hX : zMX μ x) {m : Nat} (hT : zTF X m) {q z : Int32} (h : X 2 (zsf (X 0 3) 401) = q) : zden zcds (d + 1) 140 [.ref (x + 0), .int (q), .int (z)] (zwi μ (zfl J x 6 X)) = some (0, some (.int 1), 0, 0, zwi μ (zfl J x 6 ((xas X z)))) := by
  refine (zd_in (d := d + 0) (cd := zc140) (nL := 3) (L := [(0, .ref (x + 0)), (1, .int (q)), (2, .int (z))]) rfl (Nat.le_of_ble_eq_true rfl) rfl).trans ?_
  refine (ys4 1 (v := .ref (x + 0)) rfl rfl rfl rfl).trans ?_
  refine (ygr 4 rfl (zFS.tag hX.1 (j := 0) (by decide) rfl) rfl (hX.2 1 (by decide))).trans ?_
  refine (ys4 5 (v := .ref (x + 0)) rfl rfl rfl rfl).trans ?_
  refine (yg 8 rfl (zFS.tag hX.1 (j := 0) (by decide) rfl) (zFS.ni hX.1 (j := 0) (by decide) rfl) (by decide) rfl (Eq.trans (zfl_at (j := 0) (by decide)) (show (X 0 3) = nI (zsf (X 0 3) 401) from (hT.ix.eq (by decide))))).trans ?_
  refine (ylx 9 (N := 401) rfl (j := (zsf (X 0 3) 401)) rfl (Or.inl (zFS.tag hX.1 (j := 2) (by decide) rfl)) (zFS.ni hX.1 (j := 2) (by decide) rfl) (zsf_lt (by decide) (by decide)) (by decide) rfl (zfl_at (j := 2) (by decide))).trans ?_
  refine (ys4 10 (v := .int (q)) rfl rfl rfl rfl).trans ?_
  refine ys18_0 13 rfl rfl (fun h10 => ?_) (fun h10 => absurd h h10)
  refine (ys4 16 (v := .ref (x + 0)) rfl rfl rfl rfl).trans ?_
  refine (ygr 19 rfl (zFS.tag hX.1 (j := 0) (by decide) rfl) rfl (hX.2 4 (by decide))).trans ?_
  refine (ys4 20 (v := .ref (x + 0)) rfl rfl rfl rfl).trans ?_
  refine (yg 23 rfl (zFS.tag hX.1 (j := 0) (by decide) rfl) (zFS.ni hX.1 (j := 0) (by decide) rfl) (by decide) rfl (Eq.trans (zfl_at (j := 0) (by decide)) (show (X 0 3) = nI (zsf (X 0 3) 401) from (hT.ix.eq (by decide))))).trans ?_
  refine (ys4 24 (v := .int (z)) rfl rfl rfl rfl).trans ?_
  refine (ywx 25 (N := 401) rfl (j := (zsf (X 0 3) 401)) rfl (zFS.tag hX.1 (j := 5) (by decide) rfl) (zFS.k0 hX.1 (j := 5)) (zFS.ni hX.1 (j := 5) (by decide) rfl) (zsf_lt (by decide) (by decide)) (by decide) rfl (zfl_up (j := 5) (by decide))).trans ?_
  generalize hX1 : zup X 5 (zsf (X 0 3) 401) (z) = X1
  refine (ys4 26 (v := .ref (x + 0)) rfl rfl rfl rfl).trans ?_
  refine (ys14 27 rfl (Nat.le_of_ble_eq_true rfl) rfl).trans ?_
  refine (yg 30 rfl (zFS.tag hX.1 (j := 0) (by decide) rfl) (zFS.ni hX.1 (j := 0) (by decide) rfl) (by decide) rfl (zfl_at (j := 0) (by decide))).trans ?_
  refine (ys1 31 (x := 1) rfl rfl rfl).trans ?_
  refine (ys7_0 32 rfl rfl).trans ?_
  refine (yq 35 rfl (zFS.tag hX.1 (j := 0) (by decide) rfl) (zFS.k0 hX.1 (j := 0)) (zFS.ni hX.1 (j := 0) (by decide) rfl) (by decide) rfl (zfl_up (j := 0) (by decide))).trans ?_
  generalize hX2 : zup X1 0 3 (((X1 0 3) + 1)) = X2
  refine (ys1 36 (x := 1) rfl rfl rfl).trans ?_
  refine (ys36 rfl (by decide)).trans ?_
  rw [show xas X z = X2 from by subst hX2 hX1; unfold xas; (try dsimp only); first | done | rfl]; (first | done | rfl)

theorem xat_3 (X : zFn) : xat X 0 3 = X 0 3 + 1 := by unfold xat; exact zup_same _ _ _ _
theorem xat_2 (X : zFn) (k : Nat) : xat X 2 k = X 2 k := by unfold xat; exact zup_ne' (by omega)
theorem xas_3 (X : zFn) (z : Int32) : xas X z 0 3 = X 0 3 + 1 := by
  unfold xas
  (try dsimp only)
  rw [zup_same, zup_ne' (by omega)]
theorem xas_2 (X : zFn) (z : Int32) (k : Nat) : xas X z 2 k = X 2 k := by
  unfold xas
  (try dsimp only)
  rw [zup_ne' (by omega), zup_ne' (by omega)]

def rsp (X : zFn) (z : Int32) : Int32 × zFn :=
  if X 2 (zsf (X 0 3) 401) = 21 then
    let X1 := xas X z
    if X1 2 (zsf (X1 0 3) 401) = 22 then
      let X2 := xat X1
      if X2 2 (zsf (X2 0 3) 401) = 21 then
        let X3 := xas X2 (z + 1)
        (1, X3)
      else
        (0, X2)
    else
      (0, X1)
  else
    (0, X)

theorem c_rsp {d : Nat} {x : Nat} {X J : zFn} {μ : zM} (hX : zMX μ x) {m : Nat} (hT : zTF X m) {z : Int32} : zden zcds (d + 2) 142 [.ref (x + 0), .int (z)] (zwi μ (zfl J x 6 X)) = some (0, some (.int ((rsp X z).1)), 0, 0, zwi μ (zfl J x 6 ((rsp X z).2))) := by
  refine (zd_in (d := d + 1) (cd := zc142) (nL := 2) (L := [(0, .ref (x + 0)), (1, .int (z))]) rfl (Nat.le_of_ble_eq_true rfl) rfl).trans ?_
  refine (ys4 1 (v := .ref (x + 0)) rfl rfl rfl rfl).trans ?_
  refine (ys1 3 (x := 21) rfl rfl rfl).trans ?_
  refine (ys4 4 (v := .int (z)) rfl rfl rfl rfl).trans ?_
  by_cases h4 : X 2 (zsf (X 0 3) 401) = 21
  · refine (yc3 7 rfl rfl (Nat.le_of_ble_eq_true rfl) (Or.inr (by show ztg (zwi _ _) _ = _; rw [ztg_wi]; exact (zFS.tag hX.1 (j := 0) (by decide) rfl))) rfl rfl (c_ea1 hX hT h4)).trans ?_
    generalize hX1 : xas X z = X1
    have hTX1 : zTF X1 m := by rw [← hX1]; exact zTF_w hT h4 (by decide) (xas_3 _ _) (xas_2 _ _)
    refine ys17_0 10 rfl rfl (fun h7 => absurd h7 (by decide)) (fun h7 => ?_)
    refine (ys4 11 (v := .ref (x + 0)) rfl rfl rfl rfl).trans ?_
    refine (ys1 13 (x := 22) rfl rfl rfl).trans ?_
    by_cases h13 : X1 2 (zsf (X1 0 3) 401) = 22
    · refine (yc2 16 rfl rfl (Nat.le_of_ble_eq_true rfl) (Or.inr (by show ztg (zwi _ _) _ = _; rw [ztg_wi]; exact (zFS.tag hX.1 (j := 0) (by decide) rfl))) rfl rfl (c_et1 hX hTX1 h13)).trans ?_
      generalize hX2 : xat X1 = X2
      have hTX2 : zTF X2 m := by rw [← hX2]; exact zTF_w hTX1 h13 (by decide) (xat_3 _) (xat_2 _)
      refine ys17_0 19 rfl rfl (fun h16 => absurd h16 (by decide)) (fun h16 => ?_)
      refine (ys4 20 (v := .ref (x + 0)) rfl rfl rfl rfl).trans ?_
      refine (ys1 22 (x := 21) rfl rfl rfl).trans ?_
      refine (ys4 23 (v := .int (z)) rfl rfl rfl rfl).trans ?_
      refine (ys1 24 (x := 1) rfl rfl rfl).trans ?_
      refine (ys7_0 25 rfl rfl).trans ?_
      by_cases h25 : X2 2 (zsf (X2 0 3) 401) = 21
      · refine (yc3 28 rfl rfl (Nat.le_of_ble_eq_true rfl) (Or.inr (by show ztg (zwi _ _) _ = _; rw [ztg_wi]; exact (zFS.tag hX.1 (j := 0) (by decide) rfl))) rfl rfl (c_ea1 hX hTX2 h25)).trans ?_
        generalize hX3 : xas X2 (z + 1) = X3
        have hTX3 : zTF X3 m := by rw [← hX3]; exact zTF_w hTX2 h25 (by decide) (xas_3 _ _) (xas_2 _ _)
        refine ys17_0 31 rfl rfl (fun h28 => absurd h28 (by decide)) (fun h28 => ?_)
        refine (ys1 32 (x := 1) rfl rfl rfl).trans ?_
        refine (ys19 rfl).trans ?_
        refine (ys36 rfl (by decide)).trans ?_
        rw [show rsp X z = (1, X3) from by subst hX3 hX2 hX1; unfold rsp; (try dsimp only); rw [if_pos h4, if_pos h13, if_pos h25]]; (first | done | rfl)
      · refine (yc3 28 rfl rfl (Nat.le_of_ble_eq_true rfl) (Or.inr (by show ztg (zwi _ _) _ = _; rw [ztg_wi]; exact (zFS.tag hX.1 (j := 0) (by decide) rfl))) rfl rfl (c_ea0 hX hTX2 h25)).trans ?_
        refine ys17_0 31 rfl rfl (fun h28 => ?_) (fun h28 => absurd (by decide) h28)
        refine (ys1 36 (x := 0) rfl rfl rfl).trans ?_
        refine (ys36 rfl (by decide)).trans ?_
        rw [show rsp X z = (0, X2) from by subst hX2 hX1; unfold rsp; (try dsimp only); rw [if_pos h4, if_pos h13, if_neg h25]]; (first | done | rfl)
    · refine (yc2 16 rfl rfl (Nat.le_of_ble_eq_true rfl) (Or.inr (by show ztg (zwi _ _) _ = _; rw [ztg_wi]; exact (zFS.tag hX.1 (j := 0) (by decide) rfl))) rfl rfl (c_et0 hX hTX1 h13)).trans ?_
      refine ys17_0 19 rfl rfl (fun h16 => ?_) (fun h16 => absurd (by decide) h16)
      refine (ys1 36 (x := 0) rfl rfl rfl).trans ?_
      refine (ys36 rfl (by decide)).trans ?_
      rw [show rsp X z = (0, X1) from by subst hX1; unfold rsp; (try dsimp only); rw [if_pos h4, if_neg h13]]; (first | done | rfl)
  · refine (yc3 7 rfl rfl (Nat.le_of_ble_eq_true rfl) (Or.inr (by show ztg (zwi _ _) _ = _; rw [ztg_wi]; exact (zFS.tag hX.1 (j := 0) (by decide) rfl))) rfl rfl (c_ea0 hX hT h4)).trans ?_
    refine ys17_0 10 rfl rfl (fun h7 => ?_) (fun h7 => absurd (by decide) h7)
    refine (ys1 36 (x := 0) rfl rfl rfl).trans ?_
    refine (ys36 rfl (by decide)).trans ?_
    rw [show rsp X z = (0, X) from by unfold rsp; (try dsimp only); rw [if_neg h4]]; (first | done | rfl)

theorem rsp_T {X : zFn} {m : Nat} {z : Int32} (hT : zTF X m) : zTF (rsp X z).2 m := by
  by_cases hc0 : X 2 (zsf (X 0 3) 401) = 21
  · obtain ⟨X1, hX1⟩ : ∃ z_, xas X z = z_ := ⟨_, rfl⟩
    have hTX1 : zTF X1 m := by rw [← hX1]; exact zTF_w hT hc0 (by first | decide | assumption) (xas_3 _ _) (xas_2 _ _)
    by_cases hc3 : X1 2 (zsf (X1 0 3) 401) = 22
    · obtain ⟨X2, hX2⟩ : ∃ z_, xat X1 = z_ := ⟨_, rfl⟩
      have hTX2 : zTF X2 m := by rw [← hX2]; exact zTF_w hTX1 hc3 (by first | decide | assumption) (xat_3 _) (xat_2 _)
      by_cases hc6 : X2 2 (zsf (X2 0 3) 401) = 21
      · obtain ⟨X3, hX3⟩ : ∃ z_, xas X2 (z + 1) = z_ := ⟨_, rfl⟩
        have hTX3 : zTF X3 m := by rw [← hX3]; exact zTF_w hTX2 hc6 (by first | decide | assumption) (xas_3 _ _) (xas_2 _ _)
        rw [show rsp X z = (1, X3) from by subst hX3 hX2 hX1; unfold rsp; (try dsimp only); rw [if_pos hc0, if_pos hc3, if_pos hc6]]; exact hTX3
      · rw [show rsp X z = (0, X2) from by subst hX2 hX1; unfold rsp; (try dsimp only); rw [if_pos hc0, if_pos hc3, if_neg hc6]]; exact hTX2
    · rw [show rsp X z = (0, X1) from by subst hX1; unfold rsp; (try dsimp only); rw [if_pos hc0, if_neg hc3]]; exact hTX1
  · rw [show rsp X z = (0, X) from by unfold rsp; (try dsimp only); rw [if_neg hc0]]; exact hT

def rop (X : zFn) (q : Int32) (z : Int32) : Int32 × zFn :=
  if X 2 (zsf (X 0 3) 401) = q then
    let X1 := xat X
    if X1 2 (zsf (X1 0 3) 401) = 21 then
      let X2 := xas X1 z
      (1, X2)
    else
      (0, X1)
  else
    (1, X)

theorem c_rop {d : Nat} {x : Nat} {X J : zFn} {μ : zM} (hX : zMX μ x) {m : Nat} (hT : zTF X m) {q z : Int32} (hq : q < 30) : zden zcds (d + 2) 141 [.ref (x + 0), .int (q), .int (z)] (zwi μ (zfl J x 6 X)) = some (0, some (.int ((rop X q z).1)), 0, 0, zwi μ (zfl J x 6 ((rop X q z).2))) := by
  refine (zd_in (d := d + 1) (cd := zc141) (nL := 3) (L := [(0, .ref (x + 0)), (1, .int (q)), (2, .int (z))]) rfl (Nat.le_of_ble_eq_true rfl) rfl).trans ?_
  refine (ys4 1 (v := .ref (x + 0)) rfl rfl rfl rfl).trans ?_
  refine (ys4 2 (v := .int (q)) rfl rfl rfl rfl).trans ?_
  by_cases h2 : X 2 (zsf (X 0 3) 401) = q
  · refine (yc2 5 rfl rfl (Nat.le_of_ble_eq_true rfl) (Or.inr (by show ztg (zwi _ _) _ = _; rw [ztg_wi]; exact (zFS.tag hX.1 (j := 0) (by decide) rfl))) rfl rfl (c_et1 hX hT h2)).trans ?_
    generalize hX1 : xat X = X1
    have hTX1 : zTF X1 m := by rw [← hX1]; exact zTF_w hT h2 hq (xat_3 _) (xat_2 _)
    refine ys17_0 8 rfl rfl (fun h5 => absurd h5 (by decide)) (fun h5 => ?_)
    refine (ys4 9 (v := .ref (x + 0)) rfl rfl rfl rfl).trans ?_
    refine (ys1 11 (x := 21) rfl rfl rfl).trans ?_
    refine (ys4 12 (v := .int (z)) rfl rfl rfl rfl).trans ?_
    by_cases h12 : X1 2 (zsf (X1 0 3) 401) = 21
    · refine (yc3 15 rfl rfl (Nat.le_of_ble_eq_true rfl) (Or.inr (by show ztg (zwi _ _) _ = _; rw [ztg_wi]; exact (zFS.tag hX.1 (j := 0) (by decide) rfl))) rfl rfl (c_ea1 hX hTX1 h12)).trans ?_
      generalize hX2 : xas X1 z = X2
      have hTX2 : zTF X2 m := by rw [← hX2]; exact zTF_w hTX1 h12 (by decide) (xas_3 _ _) (xas_2 _ _)
      refine ys17_0 18 rfl rfl (fun h15 => absurd h15 (by decide)) (fun h15 => ?_)
      refine (ys1 19 (x := 1) rfl rfl rfl).trans ?_
      refine (ys19 rfl).trans ?_
      refine (ys36 rfl (by decide)).trans ?_
      rw [show rop X q z = (1, X2) from by subst hX2 hX1; unfold rop; (try dsimp only); rw [if_pos h2, if_pos h12]]; (first | done | rfl)
    · refine (yc3 15 rfl rfl (Nat.le_of_ble_eq_true rfl) (Or.inr (by show ztg (zwi _ _) _ = _; rw [ztg_wi]; exact (zFS.tag hX.1 (j := 0) (by decide) rfl))) rfl rfl (c_ea0 hX hTX1 h12)).trans ?_
      refine ys17_0 18 rfl rfl (fun h15 => ?_) (fun h15 => absurd (by decide) h15)
      refine (ys1 23 (x := 0) rfl rfl rfl).trans ?_
      refine (ys36 rfl (by decide)).trans ?_
      rw [show rop X q z = (0, X1) from by subst hX1; unfold rop; (try dsimp only); rw [if_pos h2, if_neg h12]]; (first | done | rfl)
  · refine (yc2 5 rfl rfl (Nat.le_of_ble_eq_true rfl) (Or.inr (by show ztg (zwi _ _) _ = _; rw [ztg_wi]; exact (zFS.tag hX.1 (j := 0) (by decide) rfl))) rfl rfl (c_et0 hX hT h2)).trans ?_
    refine ys17_0 8 rfl rfl (fun h5 => ?_) (fun h5 => absurd (by decide) h5)
    refine (ys1 19 (x := 1) rfl rfl rfl).trans ?_
    refine (ys19 rfl).trans ?_
    refine (ys36 rfl (by decide)).trans ?_
    rw [show rop X q z = (1, X) from by unfold rop; (try dsimp only); rw [if_neg h2]]; (first | done | rfl)

theorem rop_T {X : zFn} {m : Nat} {q z : Int32} (hT : zTF X m) (hq : q < 30 := by decide) : zTF (rop X q z).2 m := by
  by_cases hc0 : X 2 (zsf (X 0 3) 401) = q
  · obtain ⟨X1, hX1⟩ : ∃ z_, xat X = z_ := ⟨_, rfl⟩
    have hTX1 : zTF X1 m := by rw [← hX1]; exact zTF_w hT hc0 (by first | decide | assumption) (xat_3 _) (xat_2 _)
    by_cases hc3 : X1 2 (zsf (X1 0 3) 401) = 21
    · obtain ⟨X2, hX2⟩ : ∃ z_, xas X1 z = z_ := ⟨_, rfl⟩
      have hTX2 : zTF X2 m := by rw [← hX2]; exact zTF_w hTX1 hc3 (by first | decide | assumption) (xas_3 _ _) (xas_2 _ _)
      rw [show rop X q z = (1, X2) from by subst hX2 hX1; unfold rop; (try dsimp only); rw [if_pos hc0, if_pos hc3]]; exact hTX2
    · rw [show rop X q z = (0, X1) from by subst hX1; unfold rop; (try dsimp only); rw [if_pos hc0, if_neg hc3]]; exact hTX1
  · rw [show rop X q z = (1, X) from by unfold rop; (try dsimp only); rw [if_neg hc0]]; exact hT

