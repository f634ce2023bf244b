/-! THE REFERENCE'S OWN METHODS: itself at x, what is told at t, the state at s, the one ahead at q. -/
def zMC (μ : zM) (x t s q : Nat) (J T : zFn) : Prop := zMX μ x ∧ zgr μ (x + 0) 5 = some (t + 0) ∧ zgr μ (x + 0) 7 = some (s + 0) ∧ zgr μ (x + 0) 8 = some (q + 0) ∧ (∀ I : zFn, (∀ j k, j < 17 → I (t + j) k = T j k) → zSC μ x t s I T) ∧ (∀ I : zFn, (∀ j k, j < 17 → I (t + j) k = T j k) → zSC μ x t q I T) ∧ (∀ j k, j < 17 → J (t + j) k = T j k) ∧ (x + 6 ≤ t ∨ t + 17 ≤ x) ∧ x + 6 ≤ s ∧ s + 22 ≤ q
section ZMC
variable {x t s q : Nat} {X S A T J : zFn} {μ : zM}
theorem hMsd (hM : zMC μ x t s q J T) : t + 17 ≤ s ∨ s + 22 ≤ t := (hM.2.2.2.2.1 J hM.2.2.2.2.2.2.1).2.2.2.2.2.2.2.1
theorem hMqd (hM : zMC μ x t s q J T) : t + 17 ≤ q ∨ q + 22 ≤ t := (hM.2.2.2.2.2.1 J hM.2.2.2.2.2.2.1).2.2.2.2.2.2.2.1
theorem hMs (hM : zMC μ x t s q J T) : zSC μ x t s J T := hM.2.2.2.2.1 J hM.2.2.2.2.2.2.1
theorem hMq (hM : zMC μ x t s q J T) : zSC μ x t q (zfl (zfl J x 6 X) s 22 S) T := hM.2.2.2.2.2.1 _ (fun j k hj => by
  have h1 := hMsd hM
  have h2 := hM.2.2.2.2.2.2.2.1
  rw [zfl_out (by omega), zfl_out (by omega)]
  exact hM.2.2.2.2.2.2.1 j k hj)
theorem zx3_at (hM : zMC μ x t s q J T) {j k : Nat} (hj : j < 6) : zfl (zfl (zfl J x 6 X) s 22 S) q 22 A (x + j) k = X j k := by
  have h3 := hM.2.2.2.2.2.2.2.2
  rw [zfl_out (by omega), zfl_out (by omega)]
  exact zfl_at hj
theorem zx3_up (hM : zMC μ x t s q J T) {j k : Nat} {v : Int32} (hj : j < 6) : zup (zfl (zfl (zfl J x 6 X) s 22 S) q 22 A) (x + j) k v = zfl (zfl (zfl J x 6 (zup X j k v)) s 22 S) q 22 A := by
  have h3 := hM.2.2.2.2.2.2.2.2
  rw [zfl_swap (b := s) (by omega), zfl_swap (b := x) (c := q) (by omega), zfl_swap (b := x) (c := s) (by omega), zfl_up hj, zfl_swap (b := s) (c := x) (by omega), zfl_swap (b := q) (c := x) (by omega), zfl_swap (b := q) (c := s) (by omega)]
theorem zs3_at (hM : zMC μ x t s q J T) {j k : Nat} (hj : j < 22) : zfl (zfl (zfl J x 6 X) s 22 S) q 22 A (s + j) k = S j k := by
  have h3 := hM.2.2.2.2.2.2.2.2
  rw [zfl_out (by omega)]
  exact zfl_at hj
theorem zs3_up (hM : zMC μ x t s q J T) {j k : Nat} {v : Int32} (hj : j < 22) : zup (zfl (zfl (zfl J x 6 X) s 22 S) q 22 A) (s + j) k v = zfl (zfl (zfl J x 6 X) s 22 (zup S j k v)) q 22 A := by
  have h3 := hM.2.2.2.2.2.2.2.2
  rw [zfl_swap (b := s) (by omega), zfl_up hj, zfl_swap (b := q) (c := s) (by omega)]
theorem zt3_at (hM : zMC μ x t s q J T) {j k : Nat} (hj : j < 17) : zfl (zfl (zfl J x 6 X) s 22 S) q 22 A (t + j) k = T j k := by
  have h1 := hMsd hM
  have h2 := hMqd hM
  have h3 := hM.2.2.2.2.2.2.2.1
  rw [zfl_out (by omega), zfl_out (by omega), zfl_out (by omega)]
  exact hM.2.2.2.2.2.2.1 j k hj
theorem lsm {d m : Nat} {a : List Value} {v : Option Value} {c e : Nat} {S' : zFn} (hM : zMC μ x t s q J T) (h : ∀ K, zSC μ x t s K T → zden zcds d m a (zwi μ (zfl K s 22 S)) = some (0, v, c, e, zwi μ (zfl K s 22 S'))) : zden zcds d m a (zwi μ (zfl (zfl (zfl J x 6 X) s 22 S) q 22 A)) = some (0, v, c, e, zwi μ (zfl (zfl (zfl J x 6 X) s 22 S') q 22 A)) := by
  have h1 := hMqd hM
  have h2 := hM.2.2.2.2.2.2.2.1
  have h3 := hM.2.2.2.2.2.2.2.2
  rw [zfl_swap (b := s) (by omega), h _ (hM.2.2.2.2.1 _ (fun j k hj => by rw [zfl_out (by omega), zfl_out (by omega)]; exact hM.2.2.2.2.2.2.1 j k hj)), zfl_swap (b := q) (c := s) (by omega)]
theorem hMo (hM : zMC μ x t s q J T) : zSO μ q s (zfl (zfl J x 6 X) s 22 S) S := by
  have h3 := hM.2.2.2.2.2.2.2.2
  exact ⟨(hMs hM).1, (hMs hM).2.1, by omega, fun j k hj => zfl_at hj⟩
end ZMC
theorem zIN_bc {T S : zFn} (h : zIN T S) : zIN T (rbc S) := by
  have e : ∀ j k, j ≠ 0 → rbc S j k = S j k := fun j k hj => by unfold rbc; rw [if_neg (by omega)]
  obtain ⟨a, b, c, f⟩ := h
  refine ⟨fun p hp => ?_, fun k hk => ?_, fun k hk => ?_, f⟩
  · rw [e 5 _ (by decide), e 11 _ (by decide)]; exact a p hp
  · rw [e 3 _ (by decide)]; exact b k hk
  · rw [e 18 _ (by decide)]; exact c k hk
theorem rin_1 {x : Int32} {m n : Nat} (hm : m < 2 ^ 31) (hx : x = nI n) (hn : n < m) : rin x 0 (nI m - 1) = 1 := by
  subst hx
  unfold rin
  have h1 : nI m - 1 = nI (m - 1) := pk_sub (b := 1) (by omega)
  rw [h1]
  have h2 : (0 : Int32) ≤ nI n := nI_pos' (by omega)
  have h3 : nI n ≤ nI (m - 1) := nI_le (by omega) (by omega)
  first
    | rw [if_pos h2, if_pos h3]
    | rw [if_neg (i_nlt h2), if_pos h3]
    | rw [if_neg (i_nlt h2), if_neg (i_nlt h3)]

def rno_ (X : zFn) (v : Int32) : Int32 × zFn :=
  let X1 := zup X 0 0 (v)
  (0, X1)

theorem c_no_ {d : Nat} {x t s q : Nat} {X S A T J : zFn} {μ : zM} (hM : zMC μ x t s q J T) {v : Int32} : zden zcds (d + 1) 125 [.ref (x + 0), .int (v)] (zwi μ (zfl (zfl (zfl J x 6 X) s 22 S) q 22 A)) = some (0, some (.int ((rno_ X v).1)), 0, 0, zwi μ (zfl (zfl (zfl J x 6 ((rno_ X v).2)) s 22 S) q 22 A)) := by
  refine (zd_in (d := d + 0) (cd := zc125) (nL := 2) (L := [(0, .ref (x + 0)), (1, .int (v))]) rfl (Nat.le_of_ble_eq_true rfl) rfl).trans ?_
  refine (ys4 1 (v := .ref (x + 0)) rfl rfl rfl rfl).trans ?_
  refine (ys4 2 (v := .int (v)) rfl rfl rfl rfl).trans ?_
  refine (yq 5 rfl (zFS.tag hM.1.1 (j := 0) (by decide) rfl) (zFS.k0 hM.1.1 (j := 0)) (zFS.ni hM.1.1 (j := 0) (by decide) rfl) (by decide) rfl (zx3_up hM (j := 0) (by decide))).trans ?_
  generalize hX1 : zup X 0 0 (v) = X1
  refine (ys1 6 (x := 0) rfl rfl rfl).trans ?_
  refine (ys36 rfl rfl).trans ?_
  rw [show rno_ X v = (0, X1) from by subst hX1; unfold rno_; (try dsimp only); first | done | rfl]; (first | done | rfl)

theorem c_nox {d : Nat} {x t s q : Nat} {X S A T J : zFn} {μ : zM} (hM : zMC μ x t s q J T) {v : Int32} : zden zcds (d + 1) 125 [.ref (x + 0), .int v] (zwi μ (zfl (zfl (zfl J x 6 X) s 22 S) q 22 A)) = some (0, some (.int 0), 0, 0, zwi μ (zfl (zfl (zfl J x 6 (zup X 0 0 v)) s 22 S) q 22 A)) := c_no_ hM

theorem rin_b (a b e : Int32) : rin a b e = 0 ∨ rin a b e = 1 := by
  unfold rin
  repeat' split
  all_goals first | exact Or.inl rfl | exact Or.inr rfl

theorem c_isL {d : Nat} {x t s q : Nat} {X S A T J : zFn} {μ : zM} (hM : zMC μ x t s q J T) {v : Int32} : zden zcds (d + 2) 127 [.ref (x + 0), .int (v)] (zwi μ (zfl (zfl (zfl J x 6 X) s 22 S) q 22 A)) = some (0, some (.int (rin v 0 (T 0 0 - 1))), 0, 0, zwi μ (zfl (zfl (zfl J x 6 X) s 22 S) q 22 A)) := by
  refine (zd_in (d := d + 1) (cd := zc127) (nL := 2) (L := [(0, .ref (x + 0)), (1, .int (v))]) rfl (Nat.le_of_ble_eq_true rfl) rfl).trans ?_
  refine (ys4 1 (v := .int (v)) rfl rfl rfl rfl).trans ?_
  refine (ys1 2 (x := 0) rfl rfl rfl).trans ?_
  refine (ys4 3 (v := .ref (x + 0)) rfl rfl rfl rfl).trans ?_
  refine (ygr 6 rfl (zFS.tag hM.1.1 (j := 0) (by decide) rfl) rfl hM.2.1).trans ?_
  refine (yg 9 rfl (zFS.tag (hMq hM (X := X) (S := S)).2.2.2.1 (j := 0) (by decide) rfl) (zFS.ni (hMq hM (X := X) (S := S)).2.2.2.1 (j := 0) (by decide) rfl) (by decide) rfl (zt3_at hM (j := 0) (by decide))).trans ?_
  refine (ys1 10 (x := 1) rfl rfl rfl).trans ?_
  refine (ys7_1 11 rfl rfl).trans ?_
  refine (yc3 14 rfl rfl (Nat.le_of_ble_eq_true rfl) (Or.inl rfl) rfl rfl c_rin).trans ?_
  refine (ys36 rfl (by exact decide_eq_true (rin_b _ _ _))).trans ?_
  rfl

theorem c_isP {d : Nat} {x t s q : Nat} {X S A T J : zFn} {μ : zM} (hM : zMC μ x t s q J T) {v : Int32} : zden zcds (d + 2) 128 [.ref (x + 0), .int (v)] (zwi μ (zfl (zfl (zfl J x 6 X) s 22 S) q 22 A)) = some (0, some (.int (rin v 0 (T 0 1 - 1))), 0, 0, zwi μ (zfl (zfl (zfl J x 6 X) s 22 S) q 22 A)) := by
  refine (zd_in (d := d + 1) (cd := zc128) (nL := 2) (L := [(0, .ref (x + 0)), (1, .int (v))]) rfl (Nat.le_of_ble_eq_true rfl) rfl).trans ?_
  refine (ys4 1 (v := .int (v)) rfl rfl rfl rfl).trans ?_
  refine (ys1 2 (x := 0) rfl rfl rfl).trans ?_
  refine (ys4 3 (v := .ref (x + 0)) rfl rfl rfl rfl).trans ?_
  refine (ygr 6 rfl (zFS.tag hM.1.1 (j := 0) (by decide) rfl) rfl hM.2.1).trans ?_
  refine (yg 9 rfl (zFS.tag (hMq hM (X := X) (S := S)).2.2.2.1 (j := 0) (by decide) rfl) (zFS.ni (hMq hM (X := X) (S := S)).2.2.2.1 (j := 0) (by decide) rfl) (by decide) rfl (zt3_at hM (j := 0) (by decide))).trans ?_
  refine (ys1 10 (x := 1) rfl rfl rfl).trans ?_
  refine (ys7_1 11 rfl rfl).trans ?_
  refine (yc3 14 rfl rfl (Nat.le_of_ble_eq_true rfl) (Or.inl rfl) rfl rfl c_rin).trans ?_
  refine (ys36 rfl (by exact decide_eq_true (rin_b _ _ _))).trans ?_
  rfl

theorem c_isH {d : Nat} {x t s q : Nat} {X S A T J : zFn} {μ : zM} (hM : zMC μ x t s q J T) {v : Int32} : zden zcds (d + 2) 129 [.ref (x + 0), .int (v)] (zwi μ (zfl (zfl (zfl J x 6 X) s 22 S) q 22 A)) = some (0, some (.int (rin v 0 (T 0 2 - 1))), 0, 0, zwi μ (zfl (zfl (zfl J x 6 X) s 22 S) q 22 A)) := by
  refine (zd_in (d := d + 1) (cd := zc129) (nL := 2) (L := [(0, .ref (x + 0)), (1, .int (v))]) rfl (Nat.le_of_ble_eq_true rfl) rfl).trans ?_
  refine (ys4 1 (v := .int (v)) rfl rfl rfl rfl).trans ?_
  refine (ys1 2 (x := 0) rfl rfl rfl).trans ?_
  refine (ys4 3 (v := .ref (x + 0)) rfl rfl rfl rfl).trans ?_
  refine (ygr 6 rfl (zFS.tag hM.1.1 (j := 0) (by decide) rfl) rfl hM.2.1).trans ?_
  refine (yg 9 rfl (zFS.tag (hMq hM (X := X) (S := S)).2.2.2.1 (j := 0) (by decide) rfl) (zFS.ni (hMq hM (X := X) (S := S)).2.2.2.1 (j := 0) (by decide) rfl) (by decide) rfl (zt3_at hM (j := 0) (by decide))).trans ?_
  refine (ys1 10 (x := 1) rfl rfl rfl).trans ?_
  refine (ys7_1 11 rfl rfl).trans ?_
  refine (yc3 14 rfl rfl (Nat.le_of_ble_eq_true rfl) (Or.inl rfl) rfl rfl c_rin).trans ?_
  refine (ys36 rfl (by exact decide_eq_true (rin_b _ _ _))).trans ?_
  rfl

theorem c_isK {d : Nat} {x t s q : Nat} {X S A T J : zFn} {μ : zM} (hM : zMC μ x t s q J T) {v : Int32} : zden zcds (d + 2) 130 [.ref (x + 0), .int (v)] (zwi μ (zfl (zfl (zfl J x 6 X) s 22 S) q 22 A)) = some (0, some (.int (rin v 0 (T 0 3 - 1))), 0, 0, zwi μ (zfl (zfl (zfl J x 6 X) s 22 S) q 22 A)) := by
  refine (zd_in (d := d + 1) (cd := zc130) (nL := 2) (L := [(0, .ref (x + 0)), (1, .int (v))]) rfl (Nat.le_of_ble_eq_true rfl) rfl).trans ?_
  refine (ys4 1 (v := .int (v)) rfl rfl rfl rfl).trans ?_
  refine (ys1 2 (x := 0) rfl rfl rfl).trans ?_
  refine (ys4 3 (v := .ref (x + 0)) rfl rfl rfl rfl).trans ?_
  refine (ygr 6 rfl (zFS.tag hM.1.1 (j := 0) (by decide) rfl) rfl hM.2.1).trans ?_
  refine (yg 9 rfl (zFS.tag (hMq hM (X := X) (S := S)).2.2.2.1 (j := 0) (by decide) rfl) (zFS.ni (hMq hM (X := X) (S := S)).2.2.2.1 (j := 0) (by decide) rfl) (by decide) rfl (zt3_at hM (j := 0) (by decide))).trans ?_
  refine (ys1 10 (x := 1) rfl rfl rfl).trans ?_
  refine (ys7_1 11 rfl rfl).trans ?_
  refine (yc3 14 rfl rfl (Nat.le_of_ble_eq_true rfl) (Or.inl rfl) rfl rfl c_rin).trans ?_
  refine (ys36 rfl (by exact decide_eq_true (rin_b _ _ _))).trans ?_
  rfl

def mea (X : zFn) : Int32 × zFn :=
  let X1 := zup X 0 0 (0)
  ((X1 0 2), X1)

theorem c_mea {d : Nat} {x t s q : Nat} {X S A T J : zFn} {μ : zM} (hM : zMC μ x t s q J T) : zden zcds (d + 1) 159 [.ref (x + 0)] (zwi μ (zfl (zfl (zfl J x 6 X) s 22 S) q 22 A)) = some (0, some (.int ((mea X).1)), 0, 0, zwi μ (zfl (zfl (zfl J x 6 ((mea X).2)) s 22 S) q 22 A)) := by
  refine (zd_in (d := d + 0) (cd := zc159) (nL := 1) (L := [(0, .ref (x + 0))]) rfl (Nat.le_of_ble_eq_true rfl) rfl).trans ?_
  refine (ys4 1 (v := .ref (x + 0)) rfl rfl rfl rfl).trans ?_
  refine (ys1 2 (x := 0) rfl rfl rfl).trans ?_
  refine (yq 5 rfl (zFS.tag hM.1.1 (j := 0) (by decide) rfl) (zFS.k0 hM.1.1 (j := 0)) (zFS.ni hM.1.1 (j := 0) (by decide) rfl) (by decide) rfl (zx3_up hM (j := 0) (by decide))).trans ?_
  generalize hX1 : zup X 0 0 (0) = X1
  refine (ys4 6 (v := .ref (x + 0)) rfl rfl rfl rfl).trans ?_
  refine (yg 9 rfl (zFS.tag hM.1.1 (j := 0) (by decide) rfl) (zFS.ni hM.1.1 (j := 0) (by decide) rfl) (by decide) rfl (zx3_at hM (j := 0) (by decide))).trans ?_
  refine (ys36 rfl rfl).trans ?_
  rw [show mea X = ((X1 0 2), X1) from by subst hX1; unfold mea; (try dsimp only); first | done | rfl]; (first | done | rfl)

def mtr (X : zFn) (v : Int32) : Int32 × zFn :=
  let X1 := zup X 0 0 (0)
  if (rin v 0 (X1 0 1)) = 0 then
    let X2 := zup X1 0 0 (1)
    (0, X2)
  else
    let X3 := zup X1 0 1 (v)
    (v, X3)

theorem c_mtr {d : Nat} {x t s q : Nat} {X S A T J : zFn} {μ : zM} (hM : zMC μ x t s q J T) {v : Int32} : zden zcds (d + 2) 157 [.ref (x + 0), .int (v)] (zwi μ (zfl (zfl (zfl J x 6 X) s 22 S) q 22 A)) = some (0, some (.int ((mtr X v).1)), 0, 0, zwi μ (zfl (zfl (zfl J x 6 ((mtr X v).2)) s 22 S) q 22 A)) := by
  refine (zd_in (d := d + 1) (cd := zc157) (nL := 2) (L := [(0, .ref (x + 0)), (1, .int (v))]) rfl (Nat.le_of_ble_eq_true rfl) rfl).trans ?_
  refine (ys4 1 (v := .ref (x + 0)) rfl rfl rfl rfl).trans ?_
  refine (ys1 2 (x := 0) rfl rfl rfl).trans ?_
  refine (yq 5 rfl (zFS.tag hM.1.1 (j := 0) (by decide) rfl) (zFS.k0 hM.1.1 (j := 0)) (zFS.ni hM.1.1 (j := 0) (by decide) rfl) (by decide) rfl (zx3_up hM (j := 0) (by decide))).trans ?_
  generalize hX1 : zup X 0 0 (0) = X1
  refine (ys4 6 (v := .int (v)) rfl rfl rfl rfl).trans ?_
  refine (ys1 7 (x := 0) rfl rfl rfl).trans ?_
  refine (ys4 8 (v := .ref (x + 0)) rfl rfl rfl rfl).trans ?_
  refine (yg 11 rfl (zFS.tag hM.1.1 (j := 0) (by decide) rfl) (zFS.ni hM.1.1 (j := 0) (by decide) rfl) (by decide) rfl (zx3_at hM (j := 0) (by decide))).trans ?_
  refine (yc3 14 rfl rfl (Nat.le_of_ble_eq_true rfl) (Or.inl rfl) rfl rfl c_rin).trans ?_
  refine ys17_1 17 rfl rfl (fun h14 => ?_) (fun h14 => ?_)
  · refine (ys4 18 (v := .ref (x + 0)) rfl rfl rfl rfl).trans ?_
    refine (ys1 19 (x := 1) rfl rfl rfl).trans ?_
    refine (yc2 22 rfl rfl (Nat.le_of_ble_eq_true rfl) (Or.inr (by show ztg (zwi _ _) _ = _; rw [ztg_wi]; exact (zFS.tag hM.1.1 (j := 0) (by decide) rfl))) rfl rfl (c_nox hM)).trans ?_
    generalize hX2 : zup X1 0 0 (1) = X2
    refine (ys36 rfl rfl).trans ?_
    rw [show mtr X v = (0, X2) from by subst hX2 hX1; unfold mtr; (try dsimp only); rw [if_pos h14]]; (first | done | rfl)
  · refine (ys4 24 (v := .ref (x + 0)) rfl rfl rfl rfl).trans ?_
    refine (ys4 25 (v := .int (v)) rfl rfl rfl rfl).trans ?_
    refine (yq 28 rfl (zFS.tag hM.1.1 (j := 0) (by decide) rfl) (zFS.k0 hM.1.1 (j := 0)) (zFS.ni hM.1.1 (j := 0) (by decide) rfl) (by decide) rfl (zx3_up hM (j := 0) (by decide))).trans ?_
    generalize hX3 : zup X1 0 1 (v) = X3
    refine (ys4 29 (v := .int (v)) rfl rfl rfl rfl).trans ?_
    refine (ys36 rfl rfl).trans ?_
    rw [show mtr X v = (v, X3) from by subst hX3 hX1; unfold mtr; (try dsimp only); rw [if_neg h14]]; (first | done | rfl)

def mcd (X : zFn) (S : zFn) (T : zFn) (np : Nat) (nk : Nat) (v : Int32) : Int32 :=
  if v = 0 then
    (S 0 0)
  else
    if v = 1 then
      (T 0 0)
    else
      if v = 2 then
        (T 0 1)
      else
        if v = 3 then
          (T 0 2)
        else
          if v = 4 then
            (T 0 3)
          else
            if v = 5 then
              (rpgL S T (v - 5) np 0 0)
            else
              if v = 6 then
                (rpgL S T (v - 5) np 0 0)
              else
                if v = 7 then
                  (rpgL S T (v - 5) np 0 0)
                else
                  if v = 8 then
                    (rarL S T nk 0 0)
                  else
                    if v = 9 then
                      (rlsL S T np nk 0 0)
                    else
                      if v = 10 then
                        (S 0 1)
                      else
                        (X 0 1)

theorem c_mcd {d : Nat} {x t s q : Nat} {X S A T J : zFn} {μ : zM} (hM : zMC μ x t s q J T) {nl np nh nk : Nat} (hN : zTN T nl np nh nk) (hI : zIN T S) {v : Int32} : zden zcds (d + 8) 160 [.ref (x + 0), .int (v)] (zwi μ (zfl (zfl (zfl J x 6 X) s 22 S) q 22 A)) = some (0, some (.int ((mcd X S T np nk v))), 0, 0, zwi μ (zfl (zfl (zfl J x 6 X) s 22 S) q 22 A)) := by
  refine (zd_in (d := d + 7) (cd := zc160) (nL := 2) (L := [(0, .ref (x + 0)), (1, .int (v))]) rfl (Nat.le_of_ble_eq_true rfl) rfl).trans ?_
  refine (ys4 1 (v := .int (v)) rfl rfl rfl rfl).trans ?_
  by_cases h1_0 : v = 0
  · refine (ys21k 60 rfl (by rw [h1_0]; decide)).trans ?_
    refine (ys4 61 (v := .ref (x + 0)) rfl rfl rfl rfl).trans ?_
    refine (ygr 64 rfl (zFS.tag hM.1.1 (j := 0) (by decide) rfl) rfl hM.2.2.1).trans ?_
    refine (yg 67 rfl (zFS.tag (hMs hM).1 (j := 0) (by decide) rfl) (zFS.ni (hMs hM).1 (j := 0) (by decide) rfl) (by decide) rfl (zs3_at hM (j := 0) (by decide))).trans ?_
    refine (ys36 rfl rfl).trans ?_
    rw [show mcd X S T np nk v = (S 0 0) from by unfold mcd; (try dsimp only); rw [if_pos h1_0]]; (first | done | rfl)
  by_cases h1_1 : v = 1
  · refine (ys21k 68 rfl (by rw [h1_1]; decide)).trans ?_
    refine (ys4 69 (v := .ref (x + 0)) rfl rfl rfl rfl).trans ?_
    refine (ygr 72 rfl (zFS.tag hM.1.1 (j := 0) (by decide) rfl) rfl hM.2.1).trans ?_
    refine (yg 75 rfl (zFS.tag (hMq hM (X := X) (S := S)).2.2.2.1 (j := 0) (by decide) rfl) (zFS.ni (hMq hM (X := X) (S := S)).2.2.2.1 (j := 0) (by decide) rfl) (by decide) rfl (zt3_at hM (j := 0) (by decide))).trans ?_
    refine (ys36 rfl rfl).trans ?_
    rw [show mcd X S T np nk v = (T 0 0) from by unfold mcd; (try dsimp only); rw [if_neg h1_0, if_pos h1_1]]; (first | done | rfl)
  by_cases h1_2 : v = 2
  · refine (ys21k 76 rfl (by rw [h1_2]; decide)).trans ?_
    refine (ys4 77 (v := .ref (x + 0)) rfl rfl rfl rfl).trans ?_
    refine (ygr 80 rfl (zFS.tag hM.1.1 (j := 0) (by decide) rfl) rfl hM.2.1).trans ?_
    refine (yg 83 rfl (zFS.tag (hMq hM (X := X) (S := S)).2.2.2.1 (j := 0) (by decide) rfl) (zFS.ni (hMq hM (X := X) (S := S)).2.2.2.1 (j := 0) (by decide) rfl) (by decide) rfl (zt3_at hM (j := 0) (by decide))).trans ?_
    refine (ys36 rfl rfl).trans ?_
    rw [show mcd X S T np nk v = (T 0 1) from by unfold mcd; (try dsimp only); rw [if_neg h1_0, if_neg h1_1, if_pos h1_2]]; (first | done | rfl)
  by_cases h1_3 : v = 3
  · refine (ys21k 84 rfl (by rw [h1_3]; decide)).trans ?_
    refine (ys4 85 (v := .ref (x + 0)) rfl rfl rfl rfl).trans ?_
    refine (ygr 88 rfl (zFS.tag hM.1.1 (j := 0) (by decide) rfl) rfl hM.2.1).trans ?_
    refine (yg 91 rfl (zFS.tag (hMq hM (X := X) (S := S)).2.2.2.1 (j := 0) (by decide) rfl) (zFS.ni (hMq hM (X := X) (S := S)).2.2.2.1 (j := 0) (by decide) rfl) (by decide) rfl (zt3_at hM (j := 0) (by decide))).trans ?_
    refine (ys36 rfl rfl).trans ?_
    rw [show mcd X S T np nk v = (T 0 2) from by unfold mcd; (try dsimp only); rw [if_neg h1_0, if_neg h1_1, if_neg h1_2, if_pos h1_3]]; (first | done | rfl)
  by_cases h1_4 : v = 4
  · refine (ys21k 92 rfl (by rw [h1_4]; decide)).trans ?_
    refine (ys4 93 (v := .ref (x + 0)) rfl rfl rfl rfl).trans ?_
    refine (ygr 96 rfl (zFS.tag hM.1.1 (j := 0) (by decide) rfl) rfl hM.2.1).trans ?_
    refine (yg 99 rfl (zFS.tag (hMq hM (X := X) (S := S)).2.2.2.1 (j := 0) (by decide) rfl) (zFS.ni (hMq hM (X := X) (S := S)).2.2.2.1 (j := 0) (by decide) rfl) (by decide) rfl (zt3_at hM (j := 0) (by decide))).trans ?_
    refine (ys36 rfl rfl).trans ?_
    rw [show mcd X S T np nk v = (T 0 3) from by unfold mcd; (try dsimp only); rw [if_neg h1_0, if_neg h1_1, if_neg h1_2, if_neg h1_3, if_pos h1_4]]; (first | done | rfl)
  by_cases h1_5 : v = 5
  · refine (ys21k 100 rfl (by rw [h1_5]; decide)).trans ?_
    refine (ys4 101 (v := .ref (x + 0)) rfl rfl rfl rfl).trans ?_
    refine (ygr 104 rfl (zFS.tag hM.1.1 (j := 0) (by decide) rfl) rfl hM.2.2.1).trans ?_
    refine (ys4 105 (v := .int (v)) rfl rfl rfl rfl).trans ?_
    refine (ys1 106 (x := 5) rfl rfl rfl).trans ?_
    refine (ys7_1 107 rfl rfl).trans ?_
    refine (yc2 110 rfl rfl (Nat.le_of_ble_eq_true rfl) (Or.inr (by show ztg (zwi _ _) _ = _; rw [ztg_wi]; exact (zFS.tag (hMs hM).1 (j := 0) (by decide) rfl))) rfl rfl (lsm hM (fun K hC => c_rpg hC hN))).trans ?_
    refine (ys36 rfl rfl).trans ?_
    rw [show mcd X S T np nk v = (rpgL S T (v - 5) np 0 0) from by unfold mcd; (try dsimp only); rw [if_neg h1_0, if_neg h1_1, if_neg h1_2, if_neg h1_3, if_neg h1_4, if_pos h1_5]]; (first | done | rfl)
  by_cases h1_6 : v = 6
  · refine (ys21k 100 rfl (by rw [h1_6]; decide)).trans ?_
    refine (ys4 101 (v := .ref (x + 0)) rfl rfl rfl rfl).trans ?_
    refine (ygr 104 rfl (zFS.tag hM.1.1 (j := 0) (by decide) rfl) rfl hM.2.2.1).trans ?_
    refine (ys4 105 (v := .int (v)) rfl rfl rfl rfl).trans ?_
    refine (ys1 106 (x := 5) rfl rfl rfl).trans ?_
    refine (ys7_1 107 rfl rfl).trans ?_
    refine (yc2 110 rfl rfl (Nat.le_of_ble_eq_true rfl) (Or.inr (by show ztg (zwi _ _) _ = _; rw [ztg_wi]; exact (zFS.tag (hMs hM).1 (j := 0) (by decide) rfl))) rfl rfl (lsm hM (fun K hC => c_rpg hC hN))).trans ?_
    refine (ys36 rfl rfl).trans ?_
    rw [show mcd X S T np nk v = (rpgL S T (v - 5) np 0 0) from by unfold mcd; (try dsimp only); rw [if_neg h1_0, if_neg h1_1, if_neg h1_2, if_neg h1_3, if_neg h1_4, if_neg h1_5, if_pos h1_6]]; (first | done | rfl)
  by_cases h1_7 : v = 7
  · refine (ys21k 100 rfl (by rw [h1_7]; decide)).trans ?_
    refine (ys4 101 (v := .ref (x + 0)) rfl rfl rfl rfl).trans ?_
    refine (ygr 104 rfl (zFS.tag hM.1.1 (j := 0) (by decide) rfl) rfl hM.2.2.1).trans ?_
    refine (ys4 105 (v := .int (v)) rfl rfl rfl rfl).trans ?_
    refine (ys1 106 (x := 5) rfl rfl rfl).trans ?_
    refine (ys7_1 107 rfl rfl).trans ?_
    refine (yc2 110 rfl rfl (Nat.le_of_ble_eq_true rfl) (Or.inr (by show ztg (zwi _ _) _ = _; rw [ztg_wi]; exact (zFS.tag (hMs hM).1 (j := 0) (by decide) rfl))) rfl rfl (lsm hM (fun K hC => c_rpg hC hN))).trans ?_
    refine (ys36 rfl rfl).trans ?_
    rw [show mcd X S T np nk v = (rpgL S T (v - 5) np 0 0) from by unfold mcd; (try dsimp only); rw [if_neg h1_0, if_neg h1_1, if_neg h1_2, if_neg h1_3, if_neg h1_4, if_neg h1_5, if_neg h1_6, if_pos h1_7]]; (first | done | rfl)
  by_cases h1_8 : v = 8
  · refine (ys21k 111 rfl (by rw [h1_8]; decide)).trans ?_
    refine (ys4 112 (v := .ref (x + 0)) rfl rfl rfl rfl).trans ?_
    refine (ygr 115 rfl (zFS.tag hM.1.1 (j := 0) (by decide) rfl) rfl hM.2.2.1).trans ?_
    refine (yc1 118 rfl rfl (Nat.le_of_ble_eq_true rfl) (Or.inr (by show ztg (zwi _ _) _ = _; rw [ztg_wi]; exact (zFS.tag (hMs hM).1 (j := 0) (by decide) rfl))) rfl rfl (lsm hM (fun K hC => c_rar hC hN))).trans ?_
    refine (ys36 rfl rfl).trans ?_
    rw [show mcd X S T np nk v = (rarL S T nk 0 0) from by unfold mcd; (try dsimp only); rw [if_neg h1_0, if_neg h1_1, if_neg h1_2, if_neg h1_3, if_neg h1_4, if_neg h1_5, if_neg h1_6, if_neg h1_7, if_pos h1_8]]; (first | done | rfl)
  by_cases h1_9 : v = 9
  · refine (ys21k 119 rfl (by rw [h1_9]; decide)).trans ?_
    refine (ys4 120 (v := .ref (x + 0)) rfl rfl rfl rfl).trans ?_
    refine (ygr 123 rfl (zFS.tag hM.1.1 (j := 0) (by decide) rfl) rfl hM.2.2.1).trans ?_
    refine (yc1 126 rfl rfl (Nat.le_of_ble_eq_true rfl) (Or.inr (by show ztg (zwi _ _) _ = _; rw [ztg_wi]; exact (zFS.tag (hMs hM).1 (j := 0) (by decide) rfl))) rfl rfl (lsm hM (fun K hC => c_rls hC hN hI))).trans ?_
    refine (ys36 rfl rfl).trans ?_
    rw [show mcd X S T np nk v = (rlsL S T np nk 0 0) from by unfold mcd; (try dsimp only); rw [if_neg h1_0, if_neg h1_1, if_neg h1_2, if_neg h1_3, if_neg h1_4, if_neg h1_5, if_neg h1_6, if_neg h1_7, if_neg h1_8, if_pos h1_9]]; (first | done | rfl)
  by_cases h1_10 : v = 10
  · refine (ys21k 127 rfl (by rw [h1_10]; decide)).trans ?_
    refine (ys4 128 (v := .ref (x + 0)) rfl rfl rfl rfl).trans ?_
    refine (ygr 131 rfl (zFS.tag hM.1.1 (j := 0) (by decide) rfl) rfl hM.2.2.1).trans ?_
    refine (yg 134 rfl (zFS.tag (hMs hM).1 (j := 0) (by decide) rfl) (zFS.ni (hMs hM).1 (j := 0) (by decide) rfl) (by decide) rfl (zs3_at hM (j := 0) (by decide))).trans ?_
    refine (ys36 rfl rfl).trans ?_
    rw [show mcd X S T np nk v = (S 0 1) from by unfold mcd; (try dsimp only); rw [if_neg h1_0, if_neg h1_1, if_neg h1_2, if_neg h1_3, if_neg h1_4, if_neg h1_5, if_neg h1_6, if_neg h1_7, if_neg h1_8, if_neg h1_9, if_pos h1_10]]; (first | done | rfl)
  refine (ys21d 135 rfl rfl (fun j hj => by have hj2 : j < 11 := hj; have hj3 : j = 0 ∨ j = 1 ∨ j = 2 ∨ j = 3 ∨ j = 4 ∨ j = 5 ∨ j = 6 ∨ j = 7 ∨ j = 8 ∨ j = 9 ∨ j = 10 := (by omega); rcases hj3 with rfl | rfl | rfl | rfl | rfl | rfl | rfl | rfl | rfl | rfl | rfl <;> first | exact Or.inl rfl | (exact Or.inr (by assumption)))).trans ?_
  refine (ys4 136 (v := .ref (x + 0)) rfl rfl rfl rfl).trans ?_
  refine (yg 139 rfl (zFS.tag hM.1.1 (j := 0) (by decide) rfl) (zFS.ni hM.1.1 (j := 0) (by decide) rfl) (by decide) rfl (zx3_at hM (j := 0) (by decide))).trans ?_
  refine (ys36 rfl rfl).trans ?_
  rw [show mcd X S T np nk v = (X 0 1) from by unfold mcd; (try dsimp only); rw [if_neg h1_0, if_neg h1_1, if_neg h1_2, if_neg h1_3, if_neg h1_4, if_neg h1_5, if_neg h1_6, if_neg h1_7, if_neg h1_8, if_neg h1_9, if_neg h1_10]]; (first | done | rfl)

def mco (X : zFn) (S : zFn) (T : zFn) (np : Nat) (nk : Nat) (v : Int32) : Int32 × zFn :=
  let X1 := zup X 0 0 (0)
  if (rin v 0 11) = 0 then
    let X2 := zup X1 0 0 (1)
    (0, X2)
  else
    ((mcd X1 S T np nk v), X1)

theorem c_mco {d : Nat} {x t s q : Nat} {X S A T J : zFn} {μ : zM} (hM : zMC μ x t s q J T) {nl np nh nk : Nat} (hN : zTN T nl np nh nk) (hI : zIN T S) {v : Int32} : zden zcds (d + 9) 161 [.ref (x + 0), .int (v)] (zwi μ (zfl (zfl (zfl J x 6 X) s 22 S) q 22 A)) = some (0, some (.int ((mco X S T np nk v).1)), 0, 0, zwi μ (zfl (zfl (zfl J x 6 ((mco X S T np nk v).2)) s 22 S) q 22 A)) := by
  refine (zd_in (d := d + 8) (cd := zc161) (nL := 2) (L := [(0, .ref (x + 0)), (1, .int (v))]) rfl (Nat.le_of_ble_eq_true rfl) rfl).trans ?_
  refine (ys4 1 (v := .ref (x + 0)) rfl rfl rfl rfl).trans ?_
  refine (ys1 2 (x := 0) rfl rfl rfl).trans ?_
  refine (yq 5 rfl (zFS.tag hM.1.1 (j := 0) (by decide) rfl) (zFS.k0 hM.1.1 (j := 0)) (zFS.ni hM.1.1 (j := 0) (by decide) rfl) (by decide) rfl (zx3_up hM (j := 0) (by decide))).trans ?_
  generalize hX1 : zup X 0 0 (0) = X1
  refine (ys4 6 (v := .int (v)) rfl rfl rfl rfl).trans ?_
  refine (ys1 7 (x := 0) rfl rfl rfl).trans ?_
  refine (ys1 9 (x := 11) rfl rfl rfl).trans ?_
  refine (yc3 12 rfl rfl (Nat.le_of_ble_eq_true rfl) (Or.inl rfl) rfl rfl c_rin).trans ?_
  refine ys17_0 15 rfl rfl (fun h12 => ?_) (fun h12 => ?_)
  · refine (ys4 24 (v := .ref (x + 0)) rfl rfl rfl rfl).trans ?_
    refine (ys1 25 (x := 1) rfl rfl rfl).trans ?_
    refine (yc2 28 rfl rfl (Nat.le_of_ble_eq_true rfl) (Or.inr (by show ztg (zwi _ _) _ = _; rw [ztg_wi]; exact (zFS.tag hM.1.1 (j := 0) (by decide) rfl))) rfl rfl (c_nox hM)).trans ?_
    generalize hX2 : zup X1 0 0 (1) = X2
    refine (ys36 rfl rfl).trans ?_
    rw [show mco X S T np nk v = (0, X2) from by subst hX2 hX1; unfold mco; (try dsimp only); rw [if_pos h12]]; (first | done | rfl)
  · refine (ys4 16 (v := .ref (x + 0)) rfl rfl rfl rfl).trans ?_
    refine (ys4 17 (v := .int (v)) rfl rfl rfl rfl).trans ?_
    refine (yc2 20 rfl rfl (Nat.le_of_ble_eq_true rfl) (Or.inr (by show ztg (zwi _ _) _ = _; rw [ztg_wi]; exact (zFS.tag hM.1.1 (j := 0) (by decide) rfl))) rfl rfl (c_mcd hM hN hI)).trans ?_
    refine (ys19 rfl).trans ?_
    refine (ys36 rfl rfl).trans ?_
    rw [show mco X S T np nk v = ((mcd X1 S T np nk v), X1) from by subst hX1; unfold mco; (try dsimp only); rw [if_neg h12]]; (first | done | rfl)

def mhd (S : zFn) (T : zFn) (h : Nat) (v : Int32) : Int32 :=
  if v = 0 then
    (S 13 h)
  else
    if v = 1 then
      (S 14 h)
    else
      if v = 2 then
        (T 11 h)
      else
        if v = 3 then
          (S 15 h)
        else
          (S 16 h)

theorem c_mhd {d : Nat} {x t s q : Nat} {X S A T J : zFn} {μ : zM} (hM : zMC μ x t s q J T) {h : Nat} (hh : h < 6) {v : Int32} : zden zcds (d + 1) 166 [.ref (x + 0), .int (nI h), .int (v)] (zwi μ (zfl (zfl (zfl J x 6 X) s 22 S) q 22 A)) = some (0, some (.int ((mhd S T h v))), 0, 0, zwi μ (zfl (zfl (zfl J x 6 X) s 22 S) q 22 A)) := by
  refine (zd_in (d := d + 0) (cd := zc166) (nL := 3) (L := [(0, .ref (x + 0)), (1, .int (nI h)), (2, .int (v))]) rfl (Nat.le_of_ble_eq_true rfl) rfl).trans ?_
  refine (ys4 1 (v := .int (v)) rfl rfl rfl rfl).trans ?_
  refine ys17_1 4 rfl rfl (fun h1 => ?_) (fun h1 => ?_)
  · refine (ys4 5 (v := .ref (x + 0)) rfl rfl rfl rfl).trans ?_
    refine (ygr 8 rfl (zFS.tag hM.1.1 (j := 0) (by decide) rfl) rfl hM.2.2.1).trans ?_
    refine (ygr 11 rfl (zFS.tag (hMs hM).1 (j := 0) (by decide) rfl) rfl ((hMs hM).2.1 12 (by decide))).trans ?_
    refine (ys4 12 (v := .int (nI h)) rfl rfl rfl rfl).trans ?_
    refine (ylx 13 (N := 6) rfl (j := h) rfl (Or.inl (zFS.tag (hMs hM).1 (j := 13) (by decide) rfl)) (zFS.ni (hMs hM).1 (j := 13) (by decide) rfl) (by omega) (by decide) rfl (zs3_at hM (j := 13) (by decide))).trans ?_
    refine (ys19 rfl).trans ?_
    refine (ys36 rfl rfl).trans ?_
    rw [show mhd S T h v = (S 13 h) from by unfold mhd; (try dsimp only); rw [if_pos h1]]; (first | done | rfl)
  · refine (ys4 17 (v := .int (v)) rfl rfl rfl rfl).trans ?_
    refine (ys1 18 (x := 1) rfl rfl rfl).trans ?_
    refine ys18_1 21 rfl rfl (fun h18 => ?_) (fun h18 => ?_)
    · refine (ys4 22 (v := .ref (x + 0)) rfl rfl rfl rfl).trans ?_
      refine (ygr 25 rfl (zFS.tag hM.1.1 (j := 0) (by decide) rfl) rfl hM.2.2.1).trans ?_
      refine (ygr 28 rfl (zFS.tag (hMs hM).1 (j := 0) (by decide) rfl) rfl ((hMs hM).2.1 13 (by decide))).trans ?_
      refine (ys4 29 (v := .int (nI h)) rfl rfl rfl rfl).trans ?_
      refine (ylx 30 (N := 6) rfl (j := h) rfl (Or.inl (zFS.tag (hMs hM).1 (j := 14) (by decide) rfl)) (zFS.ni (hMs hM).1 (j := 14) (by decide) rfl) (by omega) (by decide) rfl (zs3_at hM (j := 14) (by decide))).trans ?_
      refine (ys19 rfl).trans ?_
      refine (ys36 rfl rfl).trans ?_
      rw [show mhd S T h v = (S 14 h) from by unfold mhd; (try dsimp only); rw [if_neg h1, if_pos h18]]; (first | done | rfl)
    · refine (ys4 34 (v := .int (v)) rfl rfl rfl rfl).trans ?_
      refine (ys1 35 (x := 2) rfl rfl rfl).trans ?_
      refine ys18_1 38 rfl rfl (fun h35 => ?_) (fun h35 => ?_)
      · refine (ys4 39 (v := .ref (x + 0)) rfl rfl rfl rfl).trans ?_
        refine (ygr 42 rfl (zFS.tag hM.1.1 (j := 0) (by decide) rfl) rfl hM.2.1).trans ?_
        refine (ygr 45 rfl (zFS.tag (hMq hM (X := X) (S := S)).2.2.2.1 (j := 0) (by decide) rfl) rfl ((hMq hM (X := X) (S := S)).2.2.2.2.1 10 (by decide))).trans ?_
        refine (ys4 46 (v := .int (nI h)) rfl rfl rfl rfl).trans ?_
        refine (ylx 47 (N := 6) rfl (j := h) rfl (Or.inl (zFS.tag (hMq hM (X := X) (S := S)).2.2.2.1 (j := 11) (by decide) rfl)) (zFS.ni (hMq hM (X := X) (S := S)).2.2.2.1 (j := 11) (by decide) rfl) (by omega) (by decide) rfl (zt3_at hM (j := 11) (by decide))).trans ?_
        refine (ys19 rfl).trans ?_
        refine (ys36 rfl rfl).trans ?_
        rw [show mhd S T h v = (T 11 h) from by unfold mhd; (try dsimp only); rw [if_neg h1, if_neg h18, if_pos h35]]; (first | done | rfl)
      · refine (ys4 51 (v := .int (v)) rfl rfl rfl rfl).trans ?_
        refine (ys1 52 (x := 3) rfl rfl rfl).trans ?_
        refine ys18_1 55 rfl rfl (fun h52 => ?_) (fun h52 => ?_)
        · refine (ys4 56 (v := .ref (x + 0)) rfl rfl rfl rfl).trans ?_
          refine (ygr 59 rfl (zFS.tag hM.1.1 (j := 0) (by decide) rfl) rfl hM.2.2.1).trans ?_
          refine (ygr 62 rfl (zFS.tag (hMs hM).1 (j := 0) (by decide) rfl) rfl ((hMs hM).2.1 14 (by decide))).trans ?_
          refine (ys4 63 (v := .int (nI h)) rfl rfl rfl rfl).trans ?_
          refine (ylx 64 (N := 6) rfl (j := h) rfl (Or.inl (zFS.tag (hMs hM).1 (j := 15) (by decide) rfl)) (zFS.ni (hMs hM).1 (j := 15) (by decide) rfl) (by omega) (by decide) rfl (zs3_at hM (j := 15) (by decide))).trans ?_
          refine (ys19 rfl).trans ?_
          refine (ys36 rfl rfl).trans ?_
          rw [show mhd S T h v = (S 15 h) from by unfold mhd; (try dsimp only); rw [if_neg h1, if_neg h18, if_neg h35, if_pos h52]]; (first | done | rfl)
        · refine (ys4 68 (v := .ref (x + 0)) rfl rfl rfl rfl).trans ?_
          refine (ygr 71 rfl (zFS.tag hM.1.1 (j := 0) (by decide) rfl) rfl hM.2.2.1).trans ?_
          refine (ygr 74 rfl (zFS.tag (hMs hM).1 (j := 0) (by decide) rfl) rfl ((hMs hM).2.1 15 (by decide))).trans ?_
          refine (ys4 75 (v := .int (nI h)) rfl rfl rfl rfl).trans ?_
          refine (ylx 76 (N := 6) rfl (j := h) rfl (Or.inl (zFS.tag (hMs hM).1 (j := 16) (by decide) rfl)) (zFS.ni (hMs hM).1 (j := 16) (by decide) rfl) (by omega) (by decide) rfl (zs3_at hM (j := 16) (by decide))).trans ?_
          refine (ys36 rfl rfl).trans ?_
          rw [show mhd S T h v = (S 16 h) from by unfold mhd; (try dsimp only); rw [if_neg h1, if_neg h18, if_neg h35, if_neg h52]]; (first | done | rfl)

def mha (X : zFn) (S : zFn) (T : zFn) (h : Nat) (v : Int32) : Int32 × zFn :=
  let X1 := zup X 0 0 (0)
  if (rin v 0 4) = 0 then
    let X2 := zup X1 0 0 (1)
    (0, X2)
  else
    ((mhd S T h v), X1)

theorem c_mha {d : Nat} {x t s q : Nat} {X S A T J : zFn} {μ : zM} (hM : zMC μ x t s q J T) {nl np nh nk : Nat} (hN : zTN T nl np nh nk) {h : Nat} (hh : h < nh) {v : Int32} : zden zcds (d + 3) 167 [.ref (x + 0), .int (nI h), .int (v)] (zwi μ (zfl (zfl (zfl J x 6 X) s 22 S) q 22 A)) = some (0, some (.int ((mha X S T h v).1)), 0, 0, zwi μ (zfl (zfl (zfl J x 6 ((mha X S T h v).2)) s 22 S) q 22 A)) := by
  refine (zd_in (d := d + 2) (cd := zc167) (nL := 3) (L := [(0, .ref (x + 0)), (1, .int (nI h)), (2, .int (v))]) rfl (Nat.le_of_ble_eq_true rfl) rfl).trans ?_
  refine (ys4 1 (v := .ref (x + 0)) rfl rfl rfl rfl).trans ?_
  refine (ys1 2 (x := 0) rfl rfl rfl).trans ?_
  refine (yq 5 rfl (zFS.tag hM.1.1 (j := 0) (by decide) rfl) (zFS.k0 hM.1.1 (j := 0)) (zFS.ni hM.1.1 (j := 0) (by decide) rfl) (by decide) rfl (zx3_up hM (j := 0) (by decide))).trans ?_
  generalize hX1 : zup X 0 0 (0) = X1
  refine (ys4 6 (v := .ref (x + 0)) rfl rfl rfl rfl).trans ?_
  refine (ys4 7 (v := .int (nI h)) rfl rfl rfl rfl).trans ?_
  refine (yc2 10 rfl rfl (Nat.le_of_ble_eq_true rfl) (Or.inr (by show ztg (zwi _ _) _ = _; rw [ztg_wi]; exact (zFS.tag hM.1.1 (j := 0) (by decide) rfl))) rfl rfl (c_isH hM)).trans ?_
  rw [show (rin (nI h) 0 (T 0 2 - 1)) = 1 from (by rw [hN.2.2.2.2.1]; exact rin_1 (by have := hN.2.2.2.2.2.1; omega) rfl hh)]
  refine ys17_0 13 rfl rfl (fun h10 => absurd h10 (by decide)) (fun h10 => ?_)
  refine (ys4 14 (v := .int (v)) rfl rfl rfl rfl).trans ?_
  refine (ys1 15 (x := 0) rfl rfl rfl).trans ?_
  refine (ys1 16 (x := 4) rfl rfl rfl).trans ?_
  refine (yc3 19 rfl rfl (Nat.le_of_ble_eq_true rfl) (Or.inl rfl) rfl rfl c_rin).trans ?_
  refine ys17_0 22 rfl rfl (fun h19 => ?_) (fun h19 => ?_)
  · refine (ys4 32 (v := .ref (x + 0)) rfl rfl rfl rfl).trans ?_
    refine (ys1 33 (x := 1) rfl rfl rfl).trans ?_
    refine (yc2 36 rfl rfl (Nat.le_of_ble_eq_true rfl) (Or.inr (by show ztg (zwi _ _) _ = _; rw [ztg_wi]; exact (zFS.tag hM.1.1 (j := 0) (by decide) rfl))) rfl rfl (c_nox hM)).trans ?_
    generalize hX2 : zup X1 0 0 (1) = X2
    refine (ys36 rfl rfl).trans ?_
    rw [show mha X S T h v = (0, X2) from by subst hX2 hX1; unfold mha; (try dsimp only); rw [if_pos h19]]; (first | done | rfl)
  · refine (ys4 23 (v := .ref (x + 0)) rfl rfl rfl rfl).trans ?_
    refine (ys4 24 (v := .int (nI h)) rfl rfl rfl rfl).trans ?_
    refine (ys4 25 (v := .int (v)) rfl rfl rfl rfl).trans ?_
    refine (yc3 28 rfl rfl (Nat.le_of_ble_eq_true rfl) (Or.inr (by show ztg (zwi _ _) _ = _; rw [ztg_wi]; exact (zFS.tag hM.1.1 (j := 0) (by decide) rfl))) rfl rfl (c_mhd hM (Nat.lt_of_lt_of_le hh hN.2.2.2.2.2.1))).trans ?_
    refine (ys19 rfl).trans ?_
    refine (ys36 rfl rfl).trans ?_
    rw [show mha X S T h v = ((mhd S T h v), X1) from by subst hX1; unfold mha; (try dsimp only); rw [if_neg h19]]; (first | done | rfl)

theorem c_mlo_r {d : Nat} {x t s q : Nat} {X S A T J : zFn} {μ : zM} (hM : zMC μ x t s q J T) {v w0 : Int32} (h : rin v 0 (T 0 0 - 1) = 0) : zden zcds (d + 3) 163 [.ref (x + 0), .int (v), .int (w0)] (zwi μ (zfl (zfl (zfl J x 6 X) s 22 S) q 22 A)) = some (0, some (.int 0), 0, 0, zwi μ (zfl (zfl (zfl J x 6 (zup (zup X 0 0 0) 0 0 1)) s 22 S) q 22 A)) := by
  refine (zd_in (d := d + 2) (cd := zc163) (nL := 3) (L := [(0, .ref (x + 0)), (1, .int (v)), (2, .int (w0))]) rfl (Nat.le_of_ble_eq_true rfl) rfl).trans ?_
  refine (ys4 1 (v := .ref (x + 0)) rfl rfl rfl rfl).trans ?_
  refine (ys1 2 (x := 0) rfl rfl rfl).trans ?_
  refine (yq 5 rfl (zFS.tag hM.1.1 (j := 0) (by decide) rfl) (zFS.k0 hM.1.1 (j := 0)) (zFS.ni hM.1.1 (j := 0) (by decide) rfl) (by decide) rfl (zx3_up hM (j := 0) (by decide))).trans ?_
  generalize hX1 : zup X 0 0 (0) = X1
  refine (ys4 6 (v := .ref (x + 0)) rfl rfl rfl rfl).trans ?_
  refine (ys4 7 (v := .int (v)) rfl rfl rfl rfl).trans ?_
  refine (yc2 10 rfl rfl (Nat.le_of_ble_eq_true rfl) (Or.inr (by show ztg (zwi _ _) _ = _; rw [ztg_wi]; exact (zFS.tag hM.1.1 (j := 0) (by decide) rfl))) rfl rfl (c_isL hM)).trans ?_
  rw [show (rin v 0 (T 0 0 - 1)) = 0 from h]
  refine ys17_0 13 rfl rfl (fun h10 => ?_) (fun h10 => absurd (by decide) h10)
  refine (ys4 33 (v := .ref (x + 0)) rfl rfl rfl rfl).trans ?_
  refine (ys1 34 (x := 1) rfl rfl rfl).trans ?_
  refine (yc2 37 rfl rfl (Nat.le_of_ble_eq_true rfl) (Or.inr (by show ztg (zwi _ _) _ = _; rw [ztg_wi]; exact (zFS.tag hM.1.1 (j := 0) (by decide) rfl))) rfl rfl (c_nox hM)).trans ?_
  generalize hX2 : zup X1 0 0 (1) = X2
  refine (ys36 rfl rfl).trans ?_
  subst hX2 hX1; rfl

theorem c_mpi_r {d : Nat} {x t s q : Nat} {X S A T J : zFn} {μ : zM} (hM : zMC μ x t s q J T) {v w0 : Int32} (h : rin v 0 (T 0 1 - 1) = 0) : zden zcds (d + 3) 165 [.ref (x + 0), .int (v), .int (w0)] (zwi μ (zfl (zfl (zfl J x 6 X) s 22 S) q 22 A)) = some (0, some (.int 0), 0, 0, zwi μ (zfl (zfl (zfl J x 6 (zup (zup X 0 0 0) 0 0 1)) s 22 S) q 22 A)) := by
  refine (zd_in (d := d + 2) (cd := zc165) (nL := 3) (L := [(0, .ref (x + 0)), (1, .int (v)), (2, .int (w0))]) rfl (Nat.le_of_ble_eq_true rfl) rfl).trans ?_
  refine (ys4 1 (v := .ref (x + 0)) rfl rfl rfl rfl).trans ?_
  refine (ys1 2 (x := 0) rfl rfl rfl).trans ?_
  refine (yq 5 rfl (zFS.tag hM.1.1 (j := 0) (by decide) rfl) (zFS.k0 hM.1.1 (j := 0)) (zFS.ni hM.1.1 (j := 0) (by decide) rfl) (by decide) rfl (zx3_up hM (j := 0) (by decide))).trans ?_
  generalize hX1 : zup X 0 0 (0) = X1
  refine (ys4 6 (v := .ref (x + 0)) rfl rfl rfl rfl).trans ?_
  refine (ys4 7 (v := .int (v)) rfl rfl rfl rfl).trans ?_
  refine (yc2 10 rfl rfl (Nat.le_of_ble_eq_true rfl) (Or.inr (by show ztg (zwi _ _) _ = _; rw [ztg_wi]; exact (zFS.tag hM.1.1 (j := 0) (by decide) rfl))) rfl rfl (c_isP hM)).trans ?_
  rw [show (rin v 0 (T 0 1 - 1)) = 0 from h]
  refine ys17_0 13 rfl rfl (fun h10 => ?_) (fun h10 => absurd (by decide) h10)
  refine (ys4 33 (v := .ref (x + 0)) rfl rfl rfl rfl).trans ?_
  refine (ys1 34 (x := 1) rfl rfl rfl).trans ?_
  refine (yc2 37 rfl rfl (Nat.le_of_ble_eq_true rfl) (Or.inr (by show ztg (zwi _ _) _ = _; rw [ztg_wi]; exact (zFS.tag hM.1.1 (j := 0) (by decide) rfl))) rfl rfl (c_nox hM)).trans ?_
  generalize hX2 : zup X1 0 0 (1) = X2
  refine (ys36 rfl rfl).trans ?_
  subst hX2 hX1; rfl

theorem c_mha_r {d : Nat} {x t s q : Nat} {X S A T J : zFn} {μ : zM} (hM : zMC μ x t s q J T) {v w0 : Int32} (h : rin v 0 (T 0 2 - 1) = 0) : zden zcds (d + 3) 167 [.ref (x + 0), .int (v), .int (w0)] (zwi μ (zfl (zfl (zfl J x 6 X) s 22 S) q 22 A)) = some (0, some (.int 0), 0, 0, zwi μ (zfl (zfl (zfl J x 6 (zup (zup X 0 0 0) 0 0 1)) s 22 S) q 22 A)) := by
  refine (zd_in (d := d + 2) (cd := zc167) (nL := 3) (L := [(0, .ref (x + 0)), (1, .int (v)), (2, .int (w0))]) rfl (Nat.le_of_ble_eq_true rfl) rfl).trans ?_
  refine (ys4 1 (v := .ref (x + 0)) rfl rfl rfl rfl).trans ?_
  refine (ys1 2 (x := 0) rfl rfl rfl).trans ?_
  refine (yq 5 rfl (zFS.tag hM.1.1 (j := 0) (by decide) rfl) (zFS.k0 hM.1.1 (j := 0)) (zFS.ni hM.1.1 (j := 0) (by decide) rfl) (by decide) rfl (zx3_up hM (j := 0) (by decide))).trans ?_
  generalize hX1 : zup X 0 0 (0) = X1
  refine (ys4 6 (v := .ref (x + 0)) rfl rfl rfl rfl).trans ?_
  refine (ys4 7 (v := .int (v)) rfl rfl rfl rfl).trans ?_
  refine (yc2 10 rfl rfl (Nat.le_of_ble_eq_true rfl) (Or.inr (by show ztg (zwi _ _) _ = _; rw [ztg_wi]; exact (zFS.tag hM.1.1 (j := 0) (by decide) rfl))) rfl rfl (c_isH hM)).trans ?_
  rw [show (rin v 0 (T 0 2 - 1)) = 0 from h]
  refine ys17_0 13 rfl rfl (fun h10 => ?_) (fun h10 => absurd (by decide) h10)
  refine (ys4 32 (v := .ref (x + 0)) rfl rfl rfl rfl).trans ?_
  refine (ys1 33 (x := 1) rfl rfl rfl).trans ?_
  refine (yc2 36 rfl rfl (Nat.le_of_ble_eq_true rfl) (Or.inr (by show ztg (zwi _ _) _ = _; rw [ztg_wi]; exact (zFS.tag hM.1.1 (j := 0) (by decide) rfl))) rfl rfl (c_nox hM)).trans ?_
  generalize hX2 : zup X1 0 0 (1) = X2
  refine (ys36 rfl rfl).trans ?_
  subst hX2 hX1; rfl

theorem c_mle_r {d : Nat} {x t s q : Nat} {X S A T J : zFn} {μ : zM} (hM : zMC μ x t s q J T) {v w0 : Int32} (h : rin v 0 (T 0 3 - 1) = 0) : zden zcds (d + 3) 169 [.ref (x + 0), .int (v), .int (w0)] (zwi μ (zfl (zfl (zfl J x 6 X) s 22 S) q 22 A)) = some (0, some (.int 0), 0, 0, zwi μ (zfl (zfl (zfl J x 6 (zup (zup X 0 0 0) 0 0 1)) s 22 S) q 22 A)) := by
  refine (zd_in (d := d + 2) (cd := zc169) (nL := 3) (L := [(0, .ref (x + 0)), (1, .int (v)), (2, .int (w0))]) rfl (Nat.le_of_ble_eq_true rfl) rfl).trans ?_
  refine (ys4 1 (v := .ref (x + 0)) rfl rfl rfl rfl).trans ?_
  refine (ys1 2 (x := 0) rfl rfl rfl).trans ?_
  refine (yq 5 rfl (zFS.tag hM.1.1 (j := 0) (by decide) rfl) (zFS.k0 hM.1.1 (j := 0)) (zFS.ni hM.1.1 (j := 0) (by decide) rfl) (by decide) rfl (zx3_up hM (j := 0) (by decide))).trans ?_
  generalize hX1 : zup X 0 0 (0) = X1
  refine (ys4 6 (v := .ref (x + 0)) rfl rfl rfl rfl).trans ?_
  refine (ys4 7 (v := .int (v)) rfl rfl rfl rfl).trans ?_
  refine (yc2 10 rfl rfl (Nat.le_of_ble_eq_true rfl) (Or.inr (by show ztg (zwi _ _) _ = _; rw [ztg_wi]; exact (zFS.tag hM.1.1 (j := 0) (by decide) rfl))) rfl rfl (c_isK hM)).trans ?_
  rw [show (rin v 0 (T 0 3 - 1)) = 0 from h]
  refine ys17_0 13 rfl rfl (fun h10 => ?_) (fun h10 => absurd (by decide) h10)
  refine (ys4 33 (v := .ref (x + 0)) rfl rfl rfl rfl).trans ?_
  refine (ys1 34 (x := 1) rfl rfl rfl).trans ?_
  refine (yc2 37 rfl rfl (Nat.le_of_ble_eq_true rfl) (Or.inr (by show ztg (zwi _ _) _ = _; rw [ztg_wi]; exact (zFS.tag hM.1.1 (j := 0) (by decide) rfl))) rfl rfl (c_nox hM)).trans ?_
  generalize hX2 : zup X1 0 0 (1) = X2
  refine (ys36 rfl rfl).trans ?_
  subst hX2 hX1; rfl

theorem c_mar_r {d : Nat} {x t s q : Nat} {X S A T J : zFn} {μ : zM} (hM : zMC μ x t s q J T) {v  : Int32} (h : rin v 0 (T 0 3 - 1) = 0) : zden zcds (d + 3) 175 [.ref (x + 0), .int (v)] (zwi μ (zfl (zfl (zfl J x 6 X) s 22 S) q 22 A)) = some (0, some (.int 0), 0, 0, zwi μ (zfl (zfl (zfl J x 6 (zup (zup X 0 0 0) 0 0 1)) s 22 S) q 22 A)) := by
  refine (zd_in (d := d + 2) (cd := zc175) (nL := 2) (L := [(0, .ref (x + 0)), (1, .int (v))]) rfl (Nat.le_of_ble_eq_true rfl) rfl).trans ?_
  refine (ys4 1 (v := .ref (x + 0)) rfl rfl rfl rfl).trans ?_
  refine (ys1 2 (x := 0) rfl rfl rfl).trans ?_
  refine (yq 5 rfl (zFS.tag hM.1.1 (j := 0) (by decide) rfl) (zFS.k0 hM.1.1 (j := 0)) (zFS.ni hM.1.1 (j := 0) (by decide) rfl) (by decide) rfl (zx3_up hM (j := 0) (by decide))).trans ?_
  generalize hX1 : zup X 0 0 (0) = X1
  refine (ys4 6 (v := .ref (x + 0)) rfl rfl rfl rfl).trans ?_
  refine (ys4 7 (v := .int (v)) rfl rfl rfl rfl).trans ?_
  refine (yc2 10 rfl rfl (Nat.le_of_ble_eq_true rfl) (Or.inr (by show ztg (zwi _ _) _ = _; rw [ztg_wi]; exact (zFS.tag hM.1.1 (j := 0) (by decide) rfl))) rfl rfl (c_isK hM)).trans ?_
  rw [show (rin v 0 (T 0 3 - 1)) = 0 from h]
  refine ys17_0 13 rfl rfl (fun h10 => ?_) (fun h10 => absurd (by decide) h10)
  refine (ys4 23 (v := .ref (x + 0)) rfl rfl rfl rfl).trans ?_
  refine (ys1 24 (x := 1) rfl rfl rfl).trans ?_
  refine (yc2 27 rfl rfl (Nat.le_of_ble_eq_true rfl) (Or.inr (by show ztg (zwi _ _) _ = _; rw [ztg_wi]; exact (zFS.tag hM.1.1 (j := 0) (by decide) rfl))) rfl rfl (c_nox hM)).trans ?_
  generalize hX2 : zup X1 0 0 (1) = X2
  refine (ys36 rfl rfl).trans ?_
  subst hX2 hX1; rfl

theorem c_mwh_r {d : Nat} {x t s q : Nat} {X S A T J : zFn} {μ : zM} (hM : zMC μ x t s q J T) {v w0 : Int32} (h : rin v 0 (T 0 0 - 1) = 0) : zden zcds (d + 3) 176 [.ref (x + 0), .int (v), .int (w0)] (zwi μ (zfl (zfl (zfl J x 6 X) s 22 S) q 22 A)) = some (0, some (.int 0), 0, 0, zwi μ (zfl (zfl (zfl J x 6 (zup (zup X 0 0 0) 0 0 1)) s 22 S) q 22 A)) := by
  refine (zd_in (d := d + 2) (cd := zc176) (nL := 4) (L := [(0, .ref (x + 0)), (1, .int (v)), (2, .int (w0))]) rfl (Nat.le_of_ble_eq_true rfl) rfl).trans ?_
  refine (ys4 1 (v := .ref (x + 0)) rfl rfl rfl rfl).trans ?_
  refine (ys1 2 (x := 0) rfl rfl rfl).trans ?_
  refine (yq 5 rfl (zFS.tag hM.1.1 (j := 0) (by decide) rfl) (zFS.k0 hM.1.1 (j := 0)) (zFS.ni hM.1.1 (j := 0) (by decide) rfl) (by decide) rfl (zx3_up hM (j := 0) (by decide))).trans ?_
  generalize hX1 : zup X 0 0 (0) = X1
  refine (ys4 6 (v := .ref (x + 0)) rfl rfl rfl rfl).trans ?_
  refine (ys4 7 (v := .int (v)) rfl rfl rfl rfl).trans ?_
  refine (yc2 10 rfl rfl (Nat.le_of_ble_eq_true rfl) (Or.inr (by show ztg (zwi _ _) _ = _; rw [ztg_wi]; exact (zFS.tag hM.1.1 (j := 0) (by decide) rfl))) rfl rfl (c_isL hM)).trans ?_
  rw [show (rin v 0 (T 0 0 - 1)) = 0 from h]
  refine ys17_1 13 rfl rfl (fun h10 => ?_) (fun h10 => absurd (by decide) h10)
  refine (ys4 14 (v := .ref (x + 0)) rfl rfl rfl rfl).trans ?_
  refine (ys1 15 (x := 1) rfl rfl rfl).trans ?_
  refine (yc2 18 rfl rfl (Nat.le_of_ble_eq_true rfl) (Or.inr (by show ztg (zwi _ _) _ = _; rw [ztg_wi]; exact (zFS.tag hM.1.1 (j := 0) (by decide) rfl))) rfl rfl (c_nox hM)).trans ?_
  generalize hX2 : zup X1 0 0 (1) = X2
  refine (ys36 rfl rfl).trans ?_
  subst hX2 hX1; rfl

theorem c_mbl_r {d : Nat} {x t s q : Nat} {X S A T J : zFn} {μ : zM} (hM : zMC μ x t s q J T) {v  : Int32} (h : rin v 0 (T 0 3 - 1) = 0) : zden zcds (d + 3) 177 [.ref (x + 0), .int (v)] (zwi μ (zfl (zfl (zfl J x 6 X) s 22 S) q 22 A)) = some (0, some (.int 0), 0, 0, zwi μ (zfl (zfl (zfl J x 6 (zup (zup X 0 0 0) 0 0 1)) s 22 S) q 22 A)) := by
  refine (zd_in (d := d + 2) (cd := zc177) (nL := 6) (L := [(0, .ref (x + 0)), (1, .int (v))]) rfl (Nat.le_of_ble_eq_true rfl) rfl).trans ?_
  refine (ys4 1 (v := .ref (x + 0)) rfl rfl rfl rfl).trans ?_
  refine (ys1 2 (x := 0) rfl rfl rfl).trans ?_
  refine (yq 5 rfl (zFS.tag hM.1.1 (j := 0) (by decide) rfl) (zFS.k0 hM.1.1 (j := 0)) (zFS.ni hM.1.1 (j := 0) (by decide) rfl) (by decide) rfl (zx3_up hM (j := 0) (by decide))).trans ?_
  generalize hX1 : zup X 0 0 (0) = X1
  refine (ys4 6 (v := .ref (x + 0)) rfl rfl rfl rfl).trans ?_
  refine (ys4 7 (v := .int (v)) rfl rfl rfl rfl).trans ?_
  refine (yc2 10 rfl rfl (Nat.le_of_ble_eq_true rfl) (Or.inr (by show ztg (zwi _ _) _ = _; rw [ztg_wi]; exact (zFS.tag hM.1.1 (j := 0) (by decide) rfl))) rfl rfl (c_isK hM)).trans ?_
  rw [show (rin v 0 (T 0 3 - 1)) = 0 from h]
  refine ys17_1 13 rfl rfl (fun h10 => ?_) (fun h10 => absurd (by decide) h10)
  refine (ys4 14 (v := .ref (x + 0)) rfl rfl rfl rfl).trans ?_
  refine (ys1 15 (x := 1) rfl rfl rfl).trans ?_
  refine (yc2 18 rfl rfl (Nat.le_of_ble_eq_true rfl) (Or.inr (by show ztg (zwi _ _) _ = _; rw [ztg_wi]; exact (zFS.tag hM.1.1 (j := 0) (by decide) rfl))) rfl rfl (c_nox hM)).trans ?_
  generalize hX2 : zup X1 0 0 (1) = X2
  refine (ys36 rfl rfl).trans ?_
  subst hX2 hX1; rfl

theorem c_mdo_r {d : Nat} {x t s q : Nat} {X S A T J : zFn} {μ : zM} (hM : zMC μ x t s q J T) {v  : Int32} (h : rin v 0 (T 0 3 - 1) = 0) : zden zcds (d + 3) 179 [.ref (x + 0), .int (v)] (zwi μ (zfl (zfl (zfl J x 6 X) s 22 S) q 22 A)) = some (0, some (.int 0), 0, 0, zwi μ (zfl (zfl (zfl J x 6 (zup (zup X 0 0 0) 0 0 1)) s 22 S) q 22 A)) := by
  refine (zd_in (d := d + 2) (cd := zc179) (nL := 5) (L := [(0, .ref (x + 0)), (1, .int (v))]) rfl (Nat.le_of_ble_eq_true rfl) rfl).trans ?_
  refine (ys4 1 (v := .ref (x + 0)) rfl rfl rfl rfl).trans ?_
  refine (ys1 2 (x := 0) rfl rfl rfl).trans ?_
  refine (yq 5 rfl (zFS.tag hM.1.1 (j := 0) (by decide) rfl) (zFS.k0 hM.1.1 (j := 0)) (zFS.ni hM.1.1 (j := 0) (by decide) rfl) (by decide) rfl (zx3_up hM (j := 0) (by decide))).trans ?_
  generalize hX1 : zup X 0 0 (0) = X1
  refine (ys4 6 (v := .ref (x + 0)) rfl rfl rfl rfl).trans ?_
  refine (ys4 7 (v := .int (v)) rfl rfl rfl rfl).trans ?_
  refine (yc2 10 rfl rfl (Nat.le_of_ble_eq_true rfl) (Or.inr (by show ztg (zwi _ _) _ = _; rw [ztg_wi]; exact (zFS.tag hM.1.1 (j := 0) (by decide) rfl))) rfl rfl (c_isK hM)).trans ?_
  rw [show (rin v 0 (T 0 3 - 1)) = 0 from h]
  refine ys17_1 13 rfl rfl (fun h10 => ?_) (fun h10 => absurd (by decide) h10)
  refine (ys4 14 (v := .ref (x + 0)) rfl rfl rfl rfl).trans ?_
  refine (ys1 15 (x := 1) rfl rfl rfl).trans ?_
  refine (yc2 18 rfl rfl (Nat.le_of_ble_eq_true rfl) (Or.inr (by show ztg (zwi _ _) _ = _; rw [ztg_wi]; exact (zFS.tag hM.1.1 (j := 0) (by decide) rfl))) rfl rfl (c_nox hM)).trans ?_
  generalize hX2 : zup X1 0 0 (1) = X2
  refine (ys36 rfl rfl).trans ?_
  subst hX2 hX1; rfl

theorem c_mlu_r {d : Nat} {x t s q : Nat} {X S A T J : zFn} {μ : zM} (hM : zMC μ x t s q J T) {v w0 w1 : Int32} (h : rin v 0 (T 0 2 - 1) = 0) : zden zcds (d + 3) 171 [.ref (x + 0), .int (v), .int (w0), .int (w1)] (zwi μ (zfl (zfl (zfl J x 6 X) s 22 S) q 22 A)) = some (0, some (.int 0), 0, 0, zwi μ (zfl (zfl (zfl J x 6 (zup (zup X 0 0 0) 0 0 1)) s 22 S) q 22 A)) := by
  refine (zd_in (d := d + 2) (cd := zc171) (nL := 5) (L := [(0, .ref (x + 0)), (1, .int (v)), (2, .int (w0)), (3, .int (w1))]) rfl (Nat.le_of_ble_eq_true rfl) rfl).trans ?_
  refine (ys4 1 (v := .ref (x + 0)) rfl rfl rfl rfl).trans ?_
  refine (ys1 2 (x := 0) rfl rfl rfl).trans ?_
  refine (yq 5 rfl (zFS.tag hM.1.1 (j := 0) (by decide) rfl) (zFS.k0 hM.1.1 (j := 0)) (zFS.ni hM.1.1 (j := 0) (by decide) rfl) (by decide) rfl (zx3_up hM (j := 0) (by decide))).trans ?_
  generalize hX1 : zup X 0 0 (0) = X1
  refine (ys4 6 (v := .ref (x + 0)) rfl rfl rfl rfl).trans ?_
  refine (ys4 7 (v := .int (v)) rfl rfl rfl rfl).trans ?_
  refine (yc2 10 rfl rfl (Nat.le_of_ble_eq_true rfl) (Or.inr (by show ztg (zwi _ _) _ = _; rw [ztg_wi]; exact (zFS.tag hM.1.1 (j := 0) (by decide) rfl))) rfl rfl (c_isH hM)).trans ?_
  rw [show (rin v 0 (T 0 2 - 1)) = 0 from h]
  refine ys17_1 13 rfl rfl (fun h10 => ?_) (fun h10 => absurd (by decide) h10)
  refine (ys4 14 (v := .ref (x + 0)) rfl rfl rfl rfl).trans ?_
  refine (ys1 15 (x := 1) rfl rfl rfl).trans ?_
  refine (yc2 18 rfl rfl (Nat.le_of_ble_eq_true rfl) (Or.inr (by show ztg (zwi _ _) _ = _; rw [ztg_wi]; exact (zFS.tag hM.1.1 (j := 0) (by decide) rfl))) rfl rfl (c_nox hM)).trans ?_
  generalize hX2 : zup X1 0 0 (1) = X2
  refine (ys36 rfl rfl).trans ?_
  subst hX2 hX1; rfl

theorem c_mbr_r {d : Nat} {x t s q : Nat} {X S A T J : zFn} {μ : zM} (hM : zMC μ x t s q J T) {v w0 : Int32} (h : rin v 0 (T 0 1 - 1) = 0) : zden zcds (d + 3) 170 [.ref (x + 0), .int (v), .int (w0)] (zwi μ (zfl (zfl (zfl J x 6 X) s 22 S) q 22 A)) = some (0, some (.int 0), 0, 0, zwi μ (zfl (zfl (zfl J x 6 (zup (zup X 0 0 0) 0 0 1)) s 22 S) q 22 A)) := by
  refine (zd_in (d := d + 2) (cd := zc170) (nL := 4) (L := [(0, .ref (x + 0)), (1, .int (v)), (2, .int (w0))]) rfl (Nat.le_of_ble_eq_true rfl) rfl).trans ?_
  refine (ys4 1 (v := .ref (x + 0)) rfl rfl rfl rfl).trans ?_
  refine (ys1 2 (x := 0) rfl rfl rfl).trans ?_
  refine (yq 5 rfl (zFS.tag hM.1.1 (j := 0) (by decide) rfl) (zFS.k0 hM.1.1 (j := 0)) (zFS.ni hM.1.1 (j := 0) (by decide) rfl) (by decide) rfl (zx3_up hM (j := 0) (by decide))).trans ?_
  generalize hX1 : zup X 0 0 (0) = X1
  refine (ys4 6 (v := .ref (x + 0)) rfl rfl rfl rfl).trans ?_
  refine (ys4 7 (v := .int (v)) rfl rfl rfl rfl).trans ?_
  refine (yc2 10 rfl rfl (Nat.le_of_ble_eq_true rfl) (Or.inr (by show ztg (zwi _ _) _ = _; rw [ztg_wi]; exact (zFS.tag hM.1.1 (j := 0) (by decide) rfl))) rfl rfl (c_isP hM)).trans ?_
  rw [show (rin v 0 (T 0 1 - 1)) = 0 from h]
  refine ys17_0 13 rfl rfl (fun h10 => ?_) (fun h10 => absurd (by decide) h10)
  refine (ys4 22 (v := .ref (x + 0)) rfl rfl rfl rfl).trans ?_
  refine (ys1 23 (x := 1) rfl rfl rfl).trans ?_
  refine (yc2 26 rfl rfl (Nat.le_of_ble_eq_true rfl) (Or.inr (by show ztg (zwi _ _) _ = _; rw [ztg_wi]; exact (zFS.tag hM.1.1 (j := 0) (by decide) rfl))) rfl rfl (c_nox hM)).trans ?_
  generalize hX2 : zup X1 0 0 (1) = X2
  refine (ys36 rfl rfl).trans ?_
  subst hX2 hX1; rfl

