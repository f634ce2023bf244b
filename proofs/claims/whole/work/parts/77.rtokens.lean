/-! THE REFERENCE'S TOKENS: the reference at x: 0 its ints (thrown, size, errorAt, token), 1 the tape, 2 kinds, 3 from, 4 many, 5 roles -/
def zMX (μ : zM) (x : Nat) : Prop := zFS μ x [8, 20, 20, 20, 20, 20] [4, 2000, 401, 401, 401, 401] ∧ ∀ k, k < 5 → zgr μ (x + 0) k = some (x + (k + 1))
def zmn (k : Nat) : Nat := zni zm0c (67 + k)
def zmc (k i : Nat) : Int32 := zch (zgi zm0c (67 + k) i)
def zMS (μ : zM) (I : zFn) : Prop := ztg μ 21 = 35 ∧ znr μ 21 = 14 ∧ (∀ k, k < 14 → zgr μ 21 k = some (53 + k)) ∧ ∀ k, k < 14 → zstr μ I (53 + k) (67 + k) (zmn k) (zmc k)

def rsm (y : Int32) : Int32 :=
  if y < 97 then
    0
  else
    if 122 < y then
      0
    else
      1

theorem c_rsm {d : Nat} {y : Int32} {μ : zM} : zden zcds (d + 1) 133 [.int (y)] (μ) = some (0, some (.int ((rsm y))), 0, 0, μ) := by
  refine (zd_in (d := d + 0) (cd := zc133) (nL := 1) (L := [(0, .int (y))]) rfl (Nat.le_of_ble_eq_true rfl) rfl).trans ?_
  refine (ys4 1 (v := .int (y)) rfl rfl rfl rfl).trans ?_
  refine (ys1 3 (x := 97) rfl rfl rfl).trans ?_
  refine ys18_2 6 rfl rfl (fun h3 => ?_) (fun h3 => ?_)
  · refine (ys1 17 (x := 0) rfl rfl rfl).trans ?_
    refine (ys36 rfl (by decide)).trans ?_
    rw [show rsm y = 0 from by unfold rsm; (try dsimp only); rw [if_pos h3]]; (first | done | rfl)
  · refine (ys4 7 (v := .int (y)) rfl rfl rfl rfl).trans ?_
    refine (ys1 9 (x := 122) rfl rfl rfl).trans ?_
    refine ys18_4 12 rfl rfl (fun h9 => ?_) (fun h9 => ?_)
    · refine (ys1 17 (x := 0) rfl rfl rfl).trans ?_
      refine (ys36 rfl (by decide)).trans ?_
      rw [show rsm y = 0 from by unfold rsm; (try dsimp only); rw [if_neg h3, if_pos h9]]; (first | done | rfl)
    · refine (ys1 13 (x := 1) rfl rfl rfl).trans ?_
      refine (ys19 rfl).trans ?_
      refine (ys36 rfl (by decide)).trans ?_
      rw [show rsm y = 1 from by unfold rsm; (try dsimp only); rw [if_neg h3, if_neg h9]]; (first | done | rfl)

def rdg (y : Int32) : Int32 :=
  if y < 48 then
    0
  else
    if 57 < y then
      0
    else
      1

theorem c_rdg {d : Nat} {y : Int32} {μ : zM} : zden zcds (d + 1) 134 [.int (y)] (μ) = some (0, some (.int ((rdg y))), 0, 0, μ) := by
  refine (zd_in (d := d + 0) (cd := zc134) (nL := 1) (L := [(0, .int (y))]) rfl (Nat.le_of_ble_eq_true rfl) rfl).trans ?_
  refine (ys4 1 (v := .int (y)) rfl rfl rfl rfl).trans ?_
  refine (ys1 3 (x := 48) rfl rfl rfl).trans ?_
  refine ys18_2 6 rfl rfl (fun h3 => ?_) (fun h3 => ?_)
  · refine (ys1 17 (x := 0) rfl rfl rfl).trans ?_
    refine (ys36 rfl (by decide)).trans ?_
    rw [show rdg y = 0 from by unfold rdg; (try dsimp only); rw [if_pos h3]]; (first | done | rfl)
  · refine (ys4 7 (v := .int (y)) rfl rfl rfl rfl).trans ?_
    refine (ys1 9 (x := 57) rfl rfl rfl).trans ?_
    refine ys18_4 12 rfl rfl (fun h9 => ?_) (fun h9 => ?_)
    · refine (ys1 17 (x := 0) rfl rfl rfl).trans ?_
      refine (ys36 rfl (by decide)).trans ?_
      rw [show rdg y = 0 from by unfold rdg; (try dsimp only); rw [if_neg h3, if_pos h9]]; (first | done | rfl)
    · refine (ys1 13 (x := 1) rfl rfl rfl).trans ?_
      refine (ys19 rfl).trans ?_
      refine (ys36 rfl (by decide)).trans ?_
      rw [show rdg y = 1 from by unfold rdg; (try dsimp only); rw [if_neg h3, if_neg h9]]; (first | done | rfl)

def rby (X : zFn) (a : Nat) : Int32 :=
  if (X 0 1) ≤ (nI a) then
    (-1)
  else
    (X 1 a)

theorem c_rby {d : Nat} {x : Nat} {X J : zFn} {μ : zM} (hX : zMX μ x) {a : Nat} {n : Nat} (hl : X 0 1 = nI n) (hn : n ≤ 2000) (ha : a ≤ n) : zden zcds (d + 1) 135 [.ref (x + 0), .int (nI a)] (zwi μ (zfl J x 6 X)) = some (0, some (.int ((rby X a))), 0, 0, zwi μ (zfl J x 6 X)) := by
  refine (zd_in (d := d + 0) (cd := zc135) (nL := 2) (L := [(0, .ref (x + 0)), (1, .int (nI a))]) rfl (Nat.le_of_ble_eq_true rfl) rfl).trans ?_
  refine (ys4 1 (v := .int (nI a)) rfl rfl rfl rfl).trans ?_
  refine (ys4 2 (v := .ref (x + 0)) rfl rfl rfl rfl).trans ?_
  refine (yg 5 rfl (zFS.tag hX.1 (j := 0) (by decide) rfl) (zFS.ni hX.1 (j := 0) (by decide) rfl) (by decide) rfl (zfl_at (j := 0) (by decide))).trans ?_
  refine ys18_3 8 rfl rfl (fun h5 => ?_) (fun h5 => ?_)
  · refine (ys1 18 (x := (-1)) rfl rfl rfl).trans ?_
    refine (ys36 rfl rfl).trans ?_
    rw [show rby X a = (-1) from by unfold rby; (try dsimp only); rw [if_pos h5]]; (first | done | rfl)
  · refine (ys4 9 (v := .ref (x + 0)) rfl rfl rfl rfl).trans ?_
    refine (ygr 12 rfl (zFS.tag hX.1 (j := 0) (by decide) rfl) rfl (hX.2 0 (by decide))).trans ?_
    refine (ys4 13 (v := .int (nI a)) rfl rfl rfl rfl).trans ?_
    refine (ylx 14 (N := 2000) rfl (j := a) rfl (Or.inl (zFS.tag hX.1 (j := 1) (by decide) rfl)) (zFS.ni hX.1 (j := 1) (by decide) rfl) (by rcases Nat.lt_or_ge a n with h | h; omega; exact absurd (by rw [hl]; exact nI_le h (by omega)) h5) (by decide) rfl (zfl_at (j := 1) (by decide))).trans ?_
    refine (ys19 rfl).trans ?_
    refine (ys36 rfl rfl).trans ?_
    rw [show rby X a = (X 1 a) from by unfold rby; (try dsimp only); rw [if_neg h5]]; (first | done | rfl)

theorem rby_end {X : zFn} {n a : Nat} (hl : X 0 1 = nI n) (hn : n ≤ 2000) (ha : a = n) : rby X a = (-1) := by
  subst ha
  unfold rby
  rw [hl, if_pos (nI_le (Nat.le_refl _) (by omega))]

def rwd1 (X : zFn) (k : Nat) (a : Nat) : Nat → Nat → Int32 → Int32
  | 0, i, f =>
    if f = 0 then
      f
    else
      f
  | m + 1, i, f =>
    if f = 0 then
      f
    else
      if (zmc k i) = (X 1 (a + i)) then
        rwd1 X k a m (i + 1) 1
      else
        rwd1 X k a m (i + 1) 0

theorem l_wd1 {d c sl : Nat} {rz : zR} {x : Nat} {X J : zFn} {μ : zM} (hX : zMX μ x) {k : Nat} (hk : k < 14) (hS : zMS μ (zfl J x 6 X)) {a l : Nat} (hal : a + l ≤ 2000) : ∀ (m i : Nat) (f : Int32), (f = 0 ∨ (f = 1 ∧ zmn k = l)) → i + m = l → zden1 (d + 5) (zden zcds (d + 5)) zc137 (78, [(4, .int ((rwd1 X k a m i f))), (3, .int (nI k)), (0, .ref (x + 0)), (1, .int (nI a)), (2, .int (nI l))], [], c, sl, zwi μ (zfl J x 6 X)) = some rz → zden1 (d + 5) (zden zcds (d + 5)) zc137 (32, [(5, .int (nI i)), (4, .int (f)), (3, .int (nI k)), (0, .ref (x + 0)), (1, .int (nI a)), (2, .int (nI l))], [], c, sl, zwi μ (zfl J x 6 X)) = some rz
  | 0, i, f, hf, e, hkk => by
    have ei : l = i := by omega
    subst ei
    refine (ys4 34 (v := .int (f)) rfl rfl rfl rfl).trans ?_
    refine ys17_0 37 rfl rfl (fun h34 => ?_) (fun h34 => ?_)
    · rw [show rwd1 X k a 0 l f = f from by rw [rwd1]; (try dsimp only); rw [if_pos h34]] at hkk; refine zden1_fg (L := [(4, .int (f)), (3, .int (nI k)), (0, .ref (x + 0)), (1, .int (nI a)), (2, .int (nI l))]) (zfg_cons rfl (zfg_cons rfl (zfg_cons rfl (zfg_cons rfl (zfg_cons rfl zfg_nil))))) ?_; exact hkk
    · refine (ys4 39 (v := .int (nI l)) rfl rfl rfl rfl).trans ?_
      refine (ys4 40 (v := .int (nI l)) rfl rfl rfl rfl).trans ?_
      refine ys18_3 43 rfl rfl (fun h40 => ?_) (fun h40 => absurd (nI_le (by omega) (by omega)) h40)
      rw [show rwd1 X k a 0 l f = f from by rw [rwd1]; (try dsimp only); rw [if_neg h34]] at hkk; refine zden1_fg (L := [(4, .int (f)), (3, .int (nI k)), (0, .ref (x + 0)), (1, .int (nI a)), (2, .int (nI l))]) (zfg_cons rfl (zfg_cons rfl (zfg_cons rfl (zfg_cons rfl (zfg_cons rfl zfg_nil))))) ?_; exact hkk
  | m + 1, i, f, hf, e, hkk => by
    refine (ys4 34 (v := .int (f)) rfl rfl rfl rfl).trans ?_
    refine ys17_0 37 rfl rfl (fun h34 => ?_) (fun h34 => ?_)
    · rw [show rwd1 X k a (m + 1) i f = f from by rw [rwd1]; (try dsimp only); rw [if_pos h34]] at hkk; refine zden1_fg (L := [(4, .int (f)), (3, .int (nI k)), (0, .ref (x + 0)), (1, .int (nI a)), (2, .int (nI l))]) (zfg_cons rfl (zfg_cons rfl (zfg_cons rfl (zfg_cons rfl (zfg_cons rfl zfg_nil))))) ?_; exact hkk
    · refine (ys4 39 (v := .int (nI i)) rfl rfl rfl rfl).trans ?_
      refine (ys4 40 (v := .int (nI l)) rfl rfl rfl rfl).trans ?_
      refine ys18_3 43 rfl rfl (fun h40 => absurd h40 (nI_ge (by omega) (by omega))) (fun h40 => ?_)
      refine (ys25 46 rfl (v := .ref (21)) rfl rfl).trans ?_
      refine (ys4 47 (v := .int (nI k)) rfl rfl rfl rfl).trans ?_
      refine (yr 48 (j := k) rfl hS.1 (by decide) hS.2.1 hk (by decide) rfl (hS.2.2.1 k hk)).trans ?_
      refine (ys4 50 (v := .int (nI i)) rfl rfl rfl rfl).trans ?_
      refine (yc2 53 rfl rfl (Nat.le_of_ble_eq_true rfl) (Or.inr (by show ztg (zwi _ _) _ = _; rw [ztg_wi]; exact (hS.2.2.2 k hk).1)) rfl rfl (c_chr (hS.2.2.2 k hk) (by have := (hf.resolve_left h34).2; omega))).trans ?_
      refine (ys4 54 (v := .ref (x + 0)) rfl rfl rfl rfl).trans ?_
      refine (ygr 57 rfl (zFS.tag hX.1 (j := 0) (by decide) rfl) rfl (hX.2 0 (by decide))).trans ?_
      refine (ys4 58 (v := .int (nI a)) rfl rfl rfl rfl).trans ?_
      refine (ys4 60 (v := .int (nI i)) rfl rfl rfl rfl).trans ?_
      refine (ys7_0 61 rfl rfl).trans ?_
      rw [show ((nI a) + (nI i)) = nI (a + i) from nI_add a i]
      refine (ylx 62 (N := 2000) rfl (j := (a + i)) rfl (Or.inl (zFS.tag hX.1 (j := 1) (by decide) rfl)) (zFS.ni hX.1 (j := 1) (by decide) rfl) (by omega) (by decide) rfl (zfl_at (j := 1) (by decide))).trans ?_
      refine ys18_1 65 rfl rfl (fun h62 => ?_) (fun h62 => ?_)
      · refine (ys1 66 (x := 1) rfl rfl rfl).trans ?_
        refine (ys19 rfl).trans ?_
        refine (ys5 72 (L2 := [(4, .int (1)), (5, .int (nI i)), (3, .int (nI k)), (0, .ref (x + 0)), (1, .int (nI a)), (2, .int (nI l))]) rfl rfl rfl rfl).trans ?_
        refine (ys6 75 (y := nI (i + 1)) (L2 := [(5, .int (nI (i + 1))), (4, .int (1)), (3, .int (nI k)), (0, .ref (x + 0)), (1, .int (nI a)), (2, .int (nI l))]) rfl rfl (nI_1 _) rfl rfl).trans ?_
        refine (ys19 rfl).trans ?_
        rw [show rwd1 X k a (m + 1) i f = rwd1 X k a m (i + 1) 1 from by rw [rwd1]; (try dsimp only); rw [if_neg h34, if_pos h62]] at hkk; exact l_wd1 hX hk hS hal m (i + 1) 1   (Or.inr ⟨rfl, (hf.resolve_left h34).2⟩) (by omega) hkk
      · refine (ys1 70 (x := 0) rfl rfl rfl).trans ?_
        refine (ys5 72 (L2 := [(4, .int (0)), (5, .int (nI i)), (3, .int (nI k)), (0, .ref (x + 0)), (1, .int (nI a)), (2, .int (nI l))]) rfl rfl rfl rfl).trans ?_
        refine (ys6 75 (y := nI (i + 1)) (L2 := [(5, .int (nI (i + 1))), (4, .int (0)), (3, .int (nI k)), (0, .ref (x + 0)), (1, .int (nI a)), (2, .int (nI l))]) rfl rfl (nI_1 _) rfl rfl).trans ?_
        refine (ys19 rfl).trans ?_
        rw [show rwd1 X k a (m + 1) i f = rwd1 X k a m (i + 1) 0 from by rw [rwd1]; (try dsimp only); rw [if_neg h34, if_neg h62]] at hkk; exact l_wd1 hX hk hS hal m (i + 1) 0   (Or.inl rfl) (by omega) hkk

def rwd (X : zFn) (a : Nat) (l : Nat) : Nat → Nat → Nat
  | 0, i =>
    20
  | m + 1, i =>
    if (nI (zmn i)) = (nI l) then
      if (rwd1 X i a l 0 1) = 0 then
        rwd X a l m (i + 1)
      else
        i
    else
      if (rwd1 X i a l 0 0) = 0 then
        rwd X a l m (i + 1)
      else
        i

theorem l_wd {d c sl : Nat} {x : Nat} {X J : zFn} {μ : zM} (hX : zMX μ x) (hS : zMS μ (zfl J x 6 X)) {a l : Nat} (hal : a + l ≤ 2000) : ∀ (m i : Nat), i + m = 14 → zden1 (d + 5) (zden zcds (d + 5)) zc137 (2, [(3, .int (nI i)), (0, .ref (x + 0)), (1, .int (nI a)), (2, .int (nI l))], [], c, sl, zwi μ (zfl J x 6 X)) = some (0, some (.int (nI ((rwd X a l m i)))), c, sl, zwi μ (zfl J x 6 X))
  | 0, i, e => by
    refine (ys4 3 (v := .int (nI i)) rfl rfl rfl rfl).trans ?_
    refine (ys25 6 rfl (v := .ref (21)) rfl rfl).trans ?_
    refine (yars 7 (N := 14) rfl hS.1 (by decide) hS.2.1 rfl).trans ?_
    refine ys18_3 10 rfl rfl (fun h7 => ?_) (fun h7 => absurd (nI_le (by omega) (by omega)) h7)
    refine (ys1 93 (x := nI 20) rfl rfl rfl).trans ?_
    refine (ys36 rfl rfl).trans ?_
    rw [show rwd X a l 0 i = 20 from by rw [rwd]; (try dsimp only); first | done | rfl]; (first | done | rfl)
  | m + 1, i, e => by
    have hk : i < 14 := by omega
    refine (ys4 3 (v := .int (nI i)) rfl rfl rfl rfl).trans ?_
    refine (ys25 6 rfl (v := .ref (21)) rfl rfl).trans ?_
    refine (yars 7 (N := 14) rfl hS.1 (by decide) hS.2.1 rfl).trans ?_
    refine ys18_3 10 rfl rfl (fun h7 => absurd h7 (nI_ge (by omega) (by omega))) (fun h7 => ?_)
    refine (ys25 13 rfl (v := .ref (21)) rfl rfl).trans ?_
    refine (ys4 14 (v := .int (nI i)) rfl rfl rfl rfl).trans ?_
    refine (yrx 15 rfl (j := i) rfl hS.1 (by decide) hS.2.1 hk (by decide) rfl (hS.2.2.1 i hk)).trans ?_
    refine (yc1 18 rfl rfl (Nat.le_of_ble_eq_true rfl) (Or.inr (by show ztg (zwi _ _) _ = _; rw [ztg_wi]; exact (hS.2.2.2 i hk).1)) rfl rfl (c_len (hS.2.2.2 i hk))).trans ?_
    refine (ys4 19 (v := .int (nI l)) rfl rfl rfl rfl).trans ?_
    refine ys18_1 22 rfl rfl (fun h19 => ?_) (fun h19 => ?_)
    · refine (ys1 23 (x := 1) rfl rfl rfl).trans ?_
      refine (ys19 rfl).trans ?_
      refine (ys5 29 (L2 := [(4, .int (1)), (3, .int (nI i)), (0, .ref (x + 0)), (1, .int (nI a)), (2, .int (nI l))]) rfl rfl rfl rfl).trans ?_
      refine (ys1 30 (x := nI 0) rfl rfl rfl).trans ?_
      refine (ys5 32 (L2 := [(5, .int (nI 0)), (4, .int (1)), (3, .int (nI i)), (0, .ref (x + 0)), (1, .int (nI a)), (2, .int (nI l))]) rfl rfl rfl rfl).trans ?_
      have hlz : zmn i < 2 ^ 31 := (hS.2.2.2 i hk).2.2.2.2.2.2.1; refine l_wd1 hX hk hS hal l 0 1 (Or.inr ⟨rfl, (nI_eq (by omega) (by omega)).mp h19⟩) (by omega) ?_
      refine (ys4 80 (v := .int ((rwd1 X i a l 0 1))) rfl rfl rfl rfl).trans ?_
      refine ys17_0 83 rfl rfl (fun h80 => ?_) (fun h80 => ?_)
      · refine (ys6 88 (y := nI (i + 1)) (L2 := [(3, .int (nI (i + 1))), (4, .int ((rwd1 X i a l 0 1))), (0, .ref (x + 0)), (1, .int (nI a)), (2, .int (nI l))]) rfl rfl (nI_1 _) rfl rfl).trans ?_
        refine (ys19 rfl).trans ?_
        rw [show rwd X a l (m + 1) i = rwd X a l m (i + 1) from by rw [rwd]; (try dsimp only); rw [if_pos h19, if_pos h80]]; refine zden1_fg (L := [(3, .int (nI (i + 1))), (0, .ref (x + 0)), (1, .int (nI a)), (2, .int (nI l))]) (zfg_cons rfl (zfg_cons rfl (zfg_cons rfl (zfg_cons rfl zfg_nil)))) ?_; exact l_wd hX hS hal m (i + 1)    (by omega)
      · refine (ys4 84 (v := .int (nI i)) rfl rfl rfl rfl).trans ?_
        refine (ys36 rfl rfl).trans ?_
        rw [show rwd X a l (m + 1) i = i from by rw [rwd]; (try dsimp only); rw [if_pos h19, if_neg h80]]; (first | done | rfl)
    · refine (ys1 27 (x := 0) rfl rfl rfl).trans ?_
      refine (ys5 29 (L2 := [(4, .int (0)), (3, .int (nI i)), (0, .ref (x + 0)), (1, .int (nI a)), (2, .int (nI l))]) rfl rfl rfl rfl).trans ?_
      refine (ys1 30 (x := nI 0) rfl rfl rfl).trans ?_
      refine (ys5 32 (L2 := [(5, .int (nI 0)), (4, .int (0)), (3, .int (nI i)), (0, .ref (x + 0)), (1, .int (nI a)), (2, .int (nI l))]) rfl rfl rfl rfl).trans ?_
      have hlz : zmn i < 2 ^ 31 := (hS.2.2.2 i hk).2.2.2.2.2.2.1; refine l_wd1 hX hk hS hal l 0 0 (Or.inl rfl) (by omega) ?_
      refine (ys4 80 (v := .int ((rwd1 X i a l 0 0))) rfl rfl rfl rfl).trans ?_
      refine ys17_0 83 rfl rfl (fun h80 => ?_) (fun h80 => ?_)
      · refine (ys6 88 (y := nI (i + 1)) (L2 := [(3, .int (nI (i + 1))), (4, .int ((rwd1 X i a l 0 0))), (0, .ref (x + 0)), (1, .int (nI a)), (2, .int (nI l))]) rfl rfl (nI_1 _) rfl rfl).trans ?_
        refine (ys19 rfl).trans ?_
        rw [show rwd X a l (m + 1) i = rwd X a l m (i + 1) from by rw [rwd]; (try dsimp only); rw [if_neg h19, if_pos h80]]; refine zden1_fg (L := [(3, .int (nI (i + 1))), (0, .ref (x + 0)), (1, .int (nI a)), (2, .int (nI l))]) (zfg_cons rfl (zfg_cons rfl (zfg_cons rfl (zfg_cons rfl zfg_nil)))) ?_; exact l_wd hX hS hal m (i + 1)    (by omega)
      · refine (ys4 84 (v := .int (nI i)) rfl rfl rfl rfl).trans ?_
        refine (ys36 rfl rfl).trans ?_
        rw [show rwd X a l (m + 1) i = i from by rw [rwd]; (try dsimp only); rw [if_neg h19, if_neg h80]]; (first | done | rfl)

theorem c_wd {d : Nat} {x : Nat} {X J : zFn} {μ : zM} (hX : zMX μ x) (hS : zMS μ (zfl J x 6 X)) {a l : Nat} (hal : a + l ≤ 2000) : zden zcds (d + 6) 137 [.ref (x + 0), .int (nI a), .int (nI l)] (zwi μ (zfl J x 6 X)) = some (0, some (.int (nI (rwd X a l 14 0))), 0, 0, zwi μ (zfl J x 6 X)) := by
  refine (zd_in (d := d + 5) (cd := zc137) (nL := 6) (L := [(0, .ref (x + 0)), (1, .int (nI a)), (2, .int (nI l))]) rfl (Nat.le_of_ble_eq_true rfl) rfl).trans ?_
  refine (ys1 1 (x := nI 0) rfl rfl rfl).trans ?_
  refine (ys5 2 (L2 := [(3, .int (nI 0)), (0, .ref (x + 0)), (1, .int (nI a)), (2, .int (nI l))]) rfl rfl rfl rfl).trans ?_
  exact l_wd hX hS hal 14 0 (by omega)

theorem zMS_cg {μ ν : zM} {I J : zFn} (h : zMS μ I) (hm : ∀ a, a < 82 → zen ν a = zen μ a) (hI : ∀ a k, a < 82 → J a k = I a k) : zMS ν J := by
  obtain ⟨h1, h2, h3, h4⟩ := h
  refine ⟨?_, ?_, fun i hi => ?_, fun i hi => ?_⟩
  · unfold ztg at *; rw [hm _ (by decide)]; exact h1
  · unfold znr at *; rw [hm _ (by decide)]; exact h2
  · unfold zgr at *; rw [hm _ (by decide)]; exact h3 i hi
  · obtain ⟨k1, k2, k3, k4, k5, k6, k7, k8⟩ := h4 i hi
    unfold ztg zgr zni at *
    refine ⟨?_, ?_, ?_, ?_, ?_, ?_, k7, fun j hj => ?_⟩
    · unfold ztg; rw [hm _ (by omega)]; exact k1
    · unfold zgr; rw [hm _ (by omega)]; exact k2
    · unfold zni; rw [hm _ (by omega)]; exact k3
    · rw [hI _ _ (by omega)]; exact k4
    · unfold ztg; rw [hm _ (by omega)]; exact k5
    · unfold zni; rw [hm _ (by omega)]; exact k6
    · rw [hI _ _ (by omega)]; exact k8 j hj
theorem zMS_x {μ : zM} {x : Nat} {J X : zFn} (hX : zMX μ x) (h : zMS μ J) : zMS μ (zfl J x 6 X) := by
  have hk : zK0 ≤ x := hX.1.1
  have hz : zK0 = 82 := rfl
  exact zMS_cg h (fun _ _ => rfl) (fun a k ha => zfl_out (by omega))

def rkaT (X : zFn) (a : Nat) (i : Nat) (y : Int32) (e : Nat) : Int32 × zFn :=
  let X1 := zup X 4 i ((nI (e - a)))
  if (rsm y) = 0 then
    if (rdg y) = 0 then
      if y = 44 then
        (22, X1)
      else
        if y = 59 then
          (23, X1)
        else
          if y = (-1) then
            (30, X1)
          else
            (31, X1)
    else
      if (nI (e - a)) ≤ 6 then
        (21, X1)
      else
        (31, X1)
  else
    if (nI (e - a)) ≤ 10 then
      (nI (rwd X1 a (e - a) 14 0), X1)
    else
      (31, X1)

theorem s_kaT {d c sl : Nat} {x : Nat} {X J : zFn} {μ : zM} (hX : zMX μ x) {a e i : Nat} {y : Int32} (hae : a ≤ e) (he : e ≤ 2001) (hi : i < 401) (hS : zMS μ J) (hw : rsm y ≠ 0 → e ≤ 2000) : zden1 (d + 6) (zden zcds (d + 6)) zc136 (73, [(4, .int (nI e)), (3, .int (y)), (0, .ref (x + 0)), (1, .int (nI a)), (2, .int (nI i))], [], c, sl, zwi μ (zfl J x 6 X)) = some (0, some (.int ((rkaT X a i y e).1)), c, sl, zwi μ (zfl J x 6 ((rkaT X a i y e).2))) := by
  refine (ys4 74 (v := .ref (x + 0)) rfl rfl rfl rfl).trans ?_
  refine (ygr 77 rfl (zFS.tag hX.1 (j := 0) (by decide) rfl) rfl (hX.2 3 (by decide))).trans ?_
  refine (ys4 78 (v := .int (nI i)) rfl rfl rfl rfl).trans ?_
  refine (ys4 80 (v := .int (nI e)) rfl rfl rfl rfl).trans ?_
  refine (ys4 81 (v := .int (nI a)) rfl rfl rfl rfl).trans ?_
  refine (ys7_1 82 rfl rfl).trans ?_
  rw [show ((nI e) - (nI a)) = (nI (e - a)) from pk_sub hae]
  refine (ywx 83 (N := 401) rfl (j := i) rfl (zFS.tag hX.1 (j := 4) (by decide) rfl) (zFS.k0 hX.1 (j := 4)) (zFS.ni hX.1 (j := 4) (by decide) rfl) (by omega) (by decide) rfl (zfl_up (j := 4) (by decide))).trans ?_
  generalize hX1 : zup X 4 i ((nI (e - a))) = X1
  refine (ys4 84 (v := .int (y)) rfl rfl rfl rfl).trans ?_
  refine (yc1 87 rfl rfl (Nat.le_of_ble_eq_true rfl) (Or.inl rfl) rfl rfl c_rsm).trans ?_
  refine ys17_0 90 rfl rfl (fun h87 => ?_) (fun h87 => ?_)
  · refine (ys4 115 (v := .int (y)) rfl rfl rfl rfl).trans ?_
    refine (yc1 118 rfl rfl (Nat.le_of_ble_eq_true rfl) (Or.inl rfl) rfl rfl c_rdg).trans ?_
    refine ys17_0 121 rfl rfl (fun h118 => ?_) (fun h118 => ?_)
    · refine (ys4 139 (v := .int (y)) rfl rfl rfl rfl).trans ?_
      refine (ys1 141 (x := 44) rfl rfl rfl).trans ?_
      refine ys18_1 144 rfl rfl (fun h141 => ?_) (fun h141 => ?_)
      · refine (ys1 146 (x := 22) rfl rfl rfl).trans ?_
        refine (ys19 rfl).trans ?_
        refine (ys36 rfl rfl).trans ?_
        rw [show rkaT X a i y e = (22, X1) from by subst hX1; unfold rkaT; (try dsimp only); rw [if_pos h87, if_pos h118, if_pos h141]]; (first | done | rfl)
      · refine (ys4 150 (v := .int (y)) rfl rfl rfl rfl).trans ?_
        refine (ys1 152 (x := 59) rfl rfl rfl).trans ?_
        refine ys18_1 155 rfl rfl (fun h152 => ?_) (fun h152 => ?_)
        · refine (ys1 157 (x := 23) rfl rfl rfl).trans ?_
          refine (ys19 rfl).trans ?_
          refine (ys36 rfl rfl).trans ?_
          rw [show rkaT X a i y e = (23, X1) from by subst hX1; unfold rkaT; (try dsimp only); rw [if_pos h87, if_pos h118, if_neg h141, if_pos h152]]; (first | done | rfl)
        · refine (ys4 161 (v := .int (y)) rfl rfl rfl rfl).trans ?_
          refine (ys1 162 (x := (-1)) rfl rfl rfl).trans ?_
          refine ys18_1 165 rfl rfl (fun h162 => ?_) (fun h162 => ?_)
          · refine (ys1 167 (x := 30) rfl rfl rfl).trans ?_
            refine (ys19 rfl).trans ?_
            refine (ys36 rfl rfl).trans ?_
            rw [show rkaT X a i y e = (30, X1) from by subst hX1; unfold rkaT; (try dsimp only); rw [if_pos h87, if_pos h118, if_neg h141, if_neg h152, if_pos h162]]; (first | done | rfl)
          · refine (ys1 172 (x := 31) rfl rfl rfl).trans ?_
            refine (ys36 rfl rfl).trans ?_
            rw [show rkaT X a i y e = (31, X1) from by subst hX1; unfold rkaT; (try dsimp only); rw [if_pos h87, if_pos h118, if_neg h141, if_neg h152, if_neg h162]]; (first | done | rfl)
    · refine (ys4 123 (v := .int (nI e)) rfl rfl rfl rfl).trans ?_
      refine (ys4 124 (v := .int (nI a)) rfl rfl rfl rfl).trans ?_
      refine (ys7_1 125 rfl rfl).trans ?_
      rw [show ((nI e) - (nI a)) = (nI (e - a)) from pk_sub hae]
      refine (ys1 127 (x := 6) rfl rfl rfl).trans ?_
      refine ys18_5 130 rfl rfl (fun h127 => ?_) (fun h127 => ?_)
      · refine (ys1 137 (x := 21) rfl rfl rfl).trans ?_
        refine (ys36 rfl rfl).trans ?_
        rw [show rkaT X a i y e = (21, X1) from by subst hX1; unfold rkaT; (try dsimp only); rw [if_pos h87, if_neg h118, if_pos h127]]; (first | done | rfl)
      · refine (ys1 132 (x := 31) rfl rfl rfl).trans ?_
        refine (ys19 rfl).trans ?_
        refine (ys36 rfl rfl).trans ?_
        rw [show rkaT X a i y e = (31, X1) from by subst hX1; unfold rkaT; (try dsimp only); rw [if_pos h87, if_neg h118, if_neg h127]]; (first | done | rfl)
  · refine (ys4 92 (v := .int (nI e)) rfl rfl rfl rfl).trans ?_
    refine (ys4 93 (v := .int (nI a)) rfl rfl rfl rfl).trans ?_
    refine (ys7_1 94 rfl rfl).trans ?_
    rw [show ((nI e) - (nI a)) = (nI (e - a)) from pk_sub hae]
    refine (ys1 96 (x := 10) rfl rfl rfl).trans ?_
    refine ys18_5 99 rfl rfl (fun h96 => ?_) (fun h96 => ?_)
    · refine (ys4 105 (v := .ref (x + 0)) rfl rfl rfl rfl).trans ?_
      refine (ys4 106 (v := .int (nI a)) rfl rfl rfl rfl).trans ?_
      refine (ys4 108 (v := .int (nI e)) rfl rfl rfl rfl).trans ?_
      refine (ys4 109 (v := .int (nI a)) rfl rfl rfl rfl).trans ?_
      refine (ys7_1 110 rfl rfl).trans ?_
      rw [show ((nI e) - (nI a)) = (nI (e - a)) from pk_sub hae]
      refine (yc3 113 rfl rfl (Nat.le_of_ble_eq_true rfl) (Or.inr (by show ztg (zwi _ _) _ = _; rw [ztg_wi]; exact (zFS.tag hX.1 (j := 0) (by decide) rfl))) rfl rfl (c_wd hX (zMS_x hX hS) (by have := hw h87; omega))).trans ?_
      refine (ys36 rfl rfl).trans ?_
      rw [show rkaT X a i y e = (nI (rwd X1 a (e - a) 14 0), X1) from by subst hX1; unfold rkaT; (try dsimp only); rw [if_neg h87, if_pos h96]]; (first | done | rfl)
    · refine (ys1 101 (x := 31) rfl rfl rfl).trans ?_
      refine (ys19 rfl).trans ?_
      refine (ys36 rfl rfl).trans ?_
      rw [show rkaT X a i y e = (31, X1) from by subst hX1; unfold rkaT; (try dsimp only); rw [if_neg h87, if_neg h96]]; (first | done | rfl)

def rka1 (X : zFn) (a : Nat) (t : Nat) (y : Int32) : Nat → Nat → Int32 × zFn
  | 0, i =>
    rkaT X a t y i
  | m + 1, i =>
    if (rsm (rby X i)) = 0 then
      if (rdg (rby X i)) = 0 then
        rkaT X a t y i
      else
        rka1 X a t y m (i + 1)
    else
      rka1 X a t y m (i + 1)

theorem l_ka1 {d c sl : Nat} {x : Nat} {X J : zFn} {μ : zM} (hX : zMX μ x) {n : Nat} (hl : X 0 1 = nI n) (hn : n ≤ 2000) {a t : Nat} {y : Int32} (ht : t < 401) (hS : zMS μ J) : ∀ (m i : Nat), a ≤ i → i + m = n → zden1 (d + 6) (zden zcds (d + 6)) zc136 (18, [(4, .int (nI i)), (3, .int (y)), (0, .ref (x + 0)), (1, .int (nI a)), (2, .int (nI t))], [], c, sl, zwi μ (zfl J x 6 X)) = some (0, some (.int ((rka1 X a t y m i).1)), c, sl, zwi μ (zfl J x 6 ((rka1 X a t y m i).2)))
  | 0, i, hai, e => by
    refine (ys4 19 (v := .ref (x + 0)) rfl rfl rfl rfl).trans ?_
    refine (ys4 21 (v := .int (nI i)) rfl rfl rfl rfl).trans ?_
    refine (yc2 24 rfl rfl (Nat.le_of_ble_eq_true rfl) (Or.inr (by show ztg (zwi _ _) _ = _; rw [ztg_wi]; exact (zFS.tag hX.1 (j := 0) (by decide) rfl))) rfl rfl (c_rby hX hl hn (by omega))).trans ?_
    rw [show (rby X i) = (-1) from rby_end hl hn (by omega)]
    refine (yc1 27 rfl rfl (Nat.le_of_ble_eq_true rfl) (Or.inl rfl) rfl rfl c_rsm).trans ?_
    rw [show (rsm (-1)) = 0 from by decide]
    refine ys17_1 30 rfl rfl (fun h27 => ?_) (fun h27 => absurd (by decide) h27)
    refine (ys4 31 (v := .ref (x + 0)) rfl rfl rfl rfl).trans ?_
    refine (ys4 33 (v := .int (nI i)) rfl rfl rfl rfl).trans ?_
    refine (yc2 36 rfl rfl (Nat.le_of_ble_eq_true rfl) (Or.inr (by show ztg (zwi _ _) _ = _; rw [ztg_wi]; exact (zFS.tag hX.1 (j := 0) (by decide) rfl))) rfl rfl (c_rby hX hl hn (by omega))).trans ?_
    rw [show (rby X i) = (-1) from rby_end hl hn (by omega)]
    refine (yc1 39 rfl rfl (Nat.le_of_ble_eq_true rfl) (Or.inl rfl) rfl rfl c_rdg).trans ?_
    rw [show (rdg (-1)) = 0 from by decide]
    refine ys17_0 42 rfl rfl (fun h39 => ?_) (fun h39 => absurd (by decide) h39)
    rw [show rka1 X a t y 0 i = rkaT X a t y i from by rw [rka1]; (try dsimp only); first | done | rfl]; exact s_kaT hX (by omega) (by omega) ht hS (fun _ => by omega)
  | m + 1, i, hai, e => by
    refine (ys4 19 (v := .ref (x + 0)) rfl rfl rfl rfl).trans ?_
    refine (ys4 21 (v := .int (nI i)) rfl rfl rfl rfl).trans ?_
    refine (yc2 24 rfl rfl (Nat.le_of_ble_eq_true rfl) (Or.inr (by show ztg (zwi _ _) _ = _; rw [ztg_wi]; exact (zFS.tag hX.1 (j := 0) (by decide) rfl))) rfl rfl (c_rby hX hl hn (by omega))).trans ?_
    refine (yc1 27 rfl rfl (Nat.le_of_ble_eq_true rfl) (Or.inl rfl) rfl rfl c_rsm).trans ?_
    refine ys17_1 30 rfl rfl (fun h27 => ?_) (fun h27 => ?_)
    · refine (ys4 31 (v := .ref (x + 0)) rfl rfl rfl rfl).trans ?_
      refine (ys4 33 (v := .int (nI i)) rfl rfl rfl rfl).trans ?_
      refine (yc2 36 rfl rfl (Nat.le_of_ble_eq_true rfl) (Or.inr (by show ztg (zwi _ _) _ = _; rw [ztg_wi]; exact (zFS.tag hX.1 (j := 0) (by decide) rfl))) rfl rfl (c_rby hX hl hn (by omega))).trans ?_
      refine (yc1 39 rfl rfl (Nat.le_of_ble_eq_true rfl) (Or.inl rfl) rfl rfl c_rdg).trans ?_
      refine ys17_0 42 rfl rfl (fun h39 => ?_) (fun h39 => ?_)
      · rw [show rka1 X a t y (m + 1) i = rkaT X a t y i from by rw [rka1]; (try dsimp only); rw [if_pos h27, if_pos h39]]; exact s_kaT hX (by omega) (by omega) ht hS (fun _ => by omega)
      · refine (ys6 45 (y := nI (i + 1)) (L2 := [(4, .int (nI (i + 1))), (3, .int (y)), (0, .ref (x + 0)), (1, .int (nI a)), (2, .int (nI t))]) rfl rfl (nI_1 _) rfl rfl).trans ?_
        refine (ys19 rfl).trans ?_
        rw [show rka1 X a t y (m + 1) i = rka1 X a t y m (i + 1) from by rw [rka1]; (try dsimp only); rw [if_pos h27, if_neg h39]]; exact l_ka1 hX hl hn ht hS m (i + 1)    (by omega) (by omega)
    · refine (ys6 45 (y := nI (i + 1)) (L2 := [(4, .int (nI (i + 1))), (3, .int (y)), (0, .ref (x + 0)), (1, .int (nI a)), (2, .int (nI t))]) rfl rfl (nI_1 _) rfl rfl).trans ?_
      refine (ys19 rfl).trans ?_
      rw [show rka1 X a t y (m + 1) i = rka1 X a t y m (i + 1) from by rw [rka1]; (try dsimp only); rw [if_neg h27]]; exact l_ka1 hX hl hn ht hS m (i + 1)    (by omega) (by omega)

def rka2 (X : zFn) (a : Nat) (t : Nat) (y : Int32) : Nat → Nat → Int32 × zFn
  | 0, i =>
    rkaT X a t y i
  | m + 1, i =>
    if (rdg (rby X i)) = 0 then
      rkaT X a t y i
    else
      rka2 X a t y m (i + 1)

theorem l_ka2 {d c sl : Nat} {x : Nat} {X J : zFn} {μ : zM} (hX : zMX μ x) {n : Nat} (hl : X 0 1 = nI n) (hn : n ≤ 2000) {a t : Nat} {y : Int32} (ht : t < 401) (hS : zMS μ J) : ∀ (m i : Nat), a ≤ i → i + m = n → zden1 (d + 6) (zden zcds (d + 6)) zc136 (55, [(4, .int (nI i)), (3, .int (y)), (0, .ref (x + 0)), (1, .int (nI a)), (2, .int (nI t))], [], c, sl, zwi μ (zfl J x 6 X)) = some (0, some (.int ((rka2 X a t y m i).1)), c, sl, zwi μ (zfl J x 6 ((rka2 X a t y m i).2)))
  | 0, i, hai, e => by
    refine (ys4 56 (v := .ref (x + 0)) rfl rfl rfl rfl).trans ?_
    refine (ys4 58 (v := .int (nI i)) rfl rfl rfl rfl).trans ?_
    refine (yc2 61 rfl rfl (Nat.le_of_ble_eq_true rfl) (Or.inr (by show ztg (zwi _ _) _ = _; rw [ztg_wi]; exact (zFS.tag hX.1 (j := 0) (by decide) rfl))) rfl rfl (c_rby hX hl hn (by omega))).trans ?_
    rw [show (rby X i) = (-1) from rby_end hl hn (by omega)]
    refine (yc1 64 rfl rfl (Nat.le_of_ble_eq_true rfl) (Or.inl rfl) rfl rfl c_rdg).trans ?_
    rw [show (rdg (-1)) = 0 from by decide]
    refine ys17_0 67 rfl rfl (fun h64 => ?_) (fun h64 => absurd (by decide) h64)
    rw [show rka2 X a t y 0 i = rkaT X a t y i from by rw [rka2]; (try dsimp only); first | done | rfl]; exact s_kaT hX (by omega) (by omega) ht hS (fun _ => by omega)
  | m + 1, i, hai, e => by
    refine (ys4 56 (v := .ref (x + 0)) rfl rfl rfl rfl).trans ?_
    refine (ys4 58 (v := .int (nI i)) rfl rfl rfl rfl).trans ?_
    refine (yc2 61 rfl rfl (Nat.le_of_ble_eq_true rfl) (Or.inr (by show ztg (zwi _ _) _ = _; rw [ztg_wi]; exact (zFS.tag hX.1 (j := 0) (by decide) rfl))) rfl rfl (c_rby hX hl hn (by omega))).trans ?_
    refine (yc1 64 rfl rfl (Nat.le_of_ble_eq_true rfl) (Or.inl rfl) rfl rfl c_rdg).trans ?_
    refine ys17_0 67 rfl rfl (fun h64 => ?_) (fun h64 => ?_)
    · rw [show rka2 X a t y (m + 1) i = rkaT X a t y i from by rw [rka2]; (try dsimp only); rw [if_pos h64]]; exact s_kaT hX (by omega) (by omega) ht hS (fun _ => by omega)
    · refine (ys6 70 (y := nI (i + 1)) (L2 := [(4, .int (nI (i + 1))), (3, .int (y)), (0, .ref (x + 0)), (1, .int (nI a)), (2, .int (nI t))]) rfl rfl (nI_1 _) rfl rfl).trans ?_
      refine (ys19 rfl).trans ?_
      rw [show rka2 X a t y (m + 1) i = rka2 X a t y m (i + 1) from by rw [rka2]; (try dsimp only); rw [if_neg h64]]; exact l_ka2 hX hl hn ht hS m (i + 1)    (by omega) (by omega)

theorem rby_in {X : zFn} {n a : Nat} (hl : X 0 1 = nI n) (hn : n ≤ 2000) (ha : a ≤ n) (h : rby X a ≠ (-1)) : a < n := by
  rcases Nat.lt_or_ge a n with h1 | h1
  · exact h1
  · exact absurd (rby_end hl hn (by omega)) h
theorem rsm_in {X : zFn} {n a : Nat} (hl : X 0 1 = nI n) (hn : n ≤ 2000) (ha : a ≤ n) (h : ¬ rsm (rby X a) = 0) : a < n := rby_in hl hn ha (fun e => h (by rw [e]; decide))
theorem rdg_in {X : zFn} {n a : Nat} (hl : X 0 1 = nI n) (hn : n ≤ 2000) (ha : a ≤ n) (h : ¬ rdg (rby X a) = 0) : a < n := rby_in hl hn ha (fun e => h (by rw [e]; decide))

def rka (X : zFn) (n : Nat) (a : Nat) (t : Nat) : Int32 × zFn :=
  if (rsm (rby X a)) = 0 then
    if (rdg (rby X a)) = 0 then
      rkaT X a t (rby X a) (a + 1)
    else
      rka2 X a t (rby X a) (n - (a + 1)) (a + 1)
  else
    rka1 X a t (rby X a) (n - (a + 1)) (a + 1)

theorem c_rka {d : Nat} {x : Nat} {X J : zFn} {μ : zM} (hX : zMX μ x) {n : Nat} (hl : X 0 1 = nI n) (hn : n ≤ 2000) {a t : Nat} (ha : a ≤ n) (ht : t < 401) (hS : zMS μ J) : zden zcds (d + 7) 136 [.ref (x + 0), .int (nI a), .int (nI t)] (zwi μ (zfl J x 6 X)) = some (0, some (.int ((rka X n a t).1)), 0, 0, zwi μ (zfl J x 6 ((rka X n a t).2))) := by
  refine (zd_in (d := d + 6) (cd := zc136) (nL := 5) (L := [(0, .ref (x + 0)), (1, .int (nI a)), (2, .int (nI t))]) rfl (Nat.le_of_ble_eq_true rfl) rfl).trans ?_
  refine (ys4 1 (v := .ref (x + 0)) rfl rfl rfl rfl).trans ?_
  refine (ys4 2 (v := .int (nI a)) rfl rfl rfl rfl).trans ?_
  refine (yc2 5 rfl rfl (Nat.le_of_ble_eq_true rfl) (Or.inr (by show ztg (zwi _ _) _ = _; rw [ztg_wi]; exact (zFS.tag hX.1 (j := 0) (by decide) rfl))) rfl rfl (c_rby hX hl hn (by omega))).trans ?_
  refine (ys5 6 (L2 := [(3, .int ((rby X a))), (0, .ref (x + 0)), (1, .int (nI a)), (2, .int (nI t))]) rfl rfl rfl rfl).trans ?_
  refine (ys4 7 (v := .int (nI a)) rfl rfl rfl rfl).trans ?_
  refine (ys1 8 (x := 1) rfl rfl rfl).trans ?_
  refine (ys7_0 9 rfl rfl).trans ?_
  rw [show ((nI a) + 1) = (nI (a + 1)) from nI_1 _]
  refine (ys5 11 (L2 := [(4, .int ((nI (a + 1)))), (3, .int ((rby X a))), (0, .ref (x + 0)), (1, .int (nI a)), (2, .int (nI t))]) rfl rfl rfl rfl).trans ?_
  refine (ys4 12 (v := .int ((rby X a))) rfl rfl rfl rfl).trans ?_
  refine (yc1 15 rfl rfl (Nat.le_of_ble_eq_true rfl) (Or.inl rfl) rfl rfl c_rsm).trans ?_
  refine ys17_0 18 rfl rfl (fun h15 => ?_) (fun h15 => ?_)
  · refine (ys4 49 (v := .int ((rby X a))) rfl rfl rfl rfl).trans ?_
    refine (yc1 52 rfl rfl (Nat.le_of_ble_eq_true rfl) (Or.inl rfl) rfl rfl c_rdg).trans ?_
    refine ys17_0 55 rfl rfl (fun h52 => ?_) (fun h52 => ?_)
    · rw [show rka X n a t = rkaT X a t (rby X a) (a + 1) from by unfold rka; rw [if_pos h15, if_pos h52]]; exact s_kaT hX (by omega) (by omega) ht hS (fun h => absurd h15 h)
    · rw [show rka X n a t = rka2 X a t (rby X a) (n - (a + 1)) (a + 1) from by unfold rka; rw [if_pos h15, if_neg h52]]; exact l_ka2 hX hl hn ht hS (n - (a + 1)) (a + 1) (by omega) (by have := rdg_in hl hn ha h52; omega)
  · rw [show rka X n a t = rka1 X a t (rby X a) (n - (a + 1)) (a + 1) from by unfold rka; rw [if_neg h15]]; exact l_ka1 hX hl hn ht hS (n - (a + 1)) (a + 1) (by omega) (by have := rsm_in hl hn ha h15; omega)

