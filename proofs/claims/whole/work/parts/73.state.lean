/-! THE REFERENCE'S STATE at s, what is told at t, the reference at x. -/
def zsg (a b : Int32) : Prop := ∃ n j, a = nI n ∧ b = nI j ∧ j ≤ n ∧ n ≤ 6
def zSC (μ : zM) (x t s : Nat) (I T : zFn) : Prop := zFS μ s [10, 20, 20, 20, 20, 20, 20, 20, 20, 20, 20, 20, 20, 20, 20, 20, 20, 20, 20, 20, 20, 20] [3, 6, 6, 6, 20, 20, 20, 20, 20, 20, 20, 20, 20, 6, 6, 6, 6, 12, 12, 12, 12, 12] ∧ (∀ k, k < 21 → zgr μ (s + 0) k = some (s + (k + 1))) ∧ zgr μ (s + 0) 21 = some (x + 0) ∧ zFS μ t [9, 20, 20, 20, 20, 20, 20, 20, 20, 20, 20, 20, 20, 20, 20, 20, 20] [4, 6, 36, 36, 6, 20, 20, 20, 20, 6, 6, 6, 6, 12, 12, 72, 1440] ∧ (∀ k, k < 16 → zgr μ (t + 0) k = some (t + (k + 1))) ∧ ztg μ (x + 0) = 8 ∧ zgr μ (x + 0) 5 = some (t + 0) ∧ (t + 17 ≤ s ∨ s + 22 ≤ t) ∧ ∀ j k, j < 17 → I (t + j) k = T j k
theorem zst_rd {μ : zM} {x t s : Nat} {J T S : zFn} (hC : zSC μ x t s J T) {j k : Nat} (hj : j < 17) : zfl J s 22 S (t + j) k = T j k := by
  have hD := hC.2.2.2.2.2.2.2.1
  rw [zfl_out (by omega)]
  exact hC.2.2.2.2.2.2.2.2 j k hj
def zIN (T S : zFn) : Prop := (∀ p, p < 20 → zix (T 5 p) 6 ∧ zix (S 5 p) 6 ∧ zix (S 11 p) 12) ∧ (∀ k, k < 6 → zix (T 1 k) 7 ∧ zix (S 3 k) 6) ∧ (∀ k, k < 12 → zsg (T 14 k) (S 18 k)) ∧ (∀ i, i < 72 → zix (T 15 i) 21) ∧ ∀ i, i < 1440 → zix (T 16 i) 20
def zTN (T : zFn) (nl np nh nk : Nat) : Prop := T 0 0 = nI nl ∧ nl ≤ 6 ∧ T 0 1 = nI np ∧ np ≤ 20 ∧ T 0 2 = nI nh ∧ nh ≤ 6 ∧ T 0 3 = nI nk ∧ nk ≤ 12
theorem zup_ne' {F : zFn} {j k j' k' : Nat} {x : Int32} (h : j' ≠ j ∨ k' ≠ k) : zup F j k x j' k' = F j' k' := by
  unfold zup
  rw [if_neg (by omega)]
theorem zIN_u {T S : zFn} (h : zIN T S) {j p : Nat} {x : Int32} (h3 : j ≠ 3 ∧ j ≠ 5 ∧ j ≠ 11 ∧ j ≠ 18) : zIN T (zup S j p x) := by
  obtain ⟨a, b, c, e⟩ := h
  refine ⟨fun q hq => ?_, fun k hk => ?_, fun k hk => ?_, e⟩
  · rw [zup_ne' (by omega), zup_ne' (by omega)]; exact a q hq
  · rw [zup_ne' (by omega)]; exact b k hk
  · rw [zup_ne' (by omega)]; exact c k hk
theorem zIN_c {T S : zFn} (h : zIN T S) {p : Nat} {x : Int32} (hx : zix x 6) : zIN T (zup S 5 p x) := by
  obtain ⟨a, b, c, e⟩ := h
  refine ⟨fun q hq => ?_, fun k hk => ?_, fun k hk => ?_, e⟩
  · rw [zup_ne' (j' := 11) (by omega)]
    refine ⟨(a q hq).1, ?_, (a q hq).2.2⟩
    by_cases hp : q = p
    · subst hp; rw [zup_same]; exact hx
    · rw [zup_ne' (by omega)]; exact (a q hq).2.1
  · rw [zup_ne' (by omega)]; exact b k hk
  · rw [zup_ne' (by omega)]; exact c k hk
theorem zIN_k {T S : zFn} (h : zIN T S) {p : Nat} {x : Int32} (hx : zix x 12) : zIN T (zup S 11 p x) := by
  obtain ⟨a, b, c, e⟩ := h
  refine ⟨fun q hq => ?_, fun k hk => ?_, fun k hk => ?_, e⟩
  · rw [zup_ne' (j' := 5) (by omega)]
    refine ⟨(a q hq).1, (a q hq).2.1, ?_⟩
    by_cases hp : q = p
    · subst hp; rw [zup_same]; exact hx
    · rw [zup_ne' (by omega)]; exact (a q hq).2.2
  · rw [zup_ne' (by omega)]; exact b k hk
  · rw [zup_ne' (by omega)]; exact c k hk
theorem zIN_n {T S : zFn} (h : zIN T S) {p : Nat} {x : Int32} (hx : zix x 6) : zIN T (zup S 3 p x) := by
  obtain ⟨a, b, c, e⟩ := h
  refine ⟨fun q hq => ?_, fun k hk => ?_, fun k hk => ?_, e⟩
  · rw [zup_ne' (by omega), zup_ne' (by omega)]; exact a q hq
  · by_cases hp : k = p
    · subst hp; rw [zup_same]; exact ⟨(b k hk).1, hx⟩
    · rw [zup_ne' (by omega)]; exact b k hk
  · rw [zup_ne' (by omega)]; exact c k hk
theorem zIN_s {T S : zFn} (h : zIN T S) {p : Nat} {x : Int32} (hx : zsg (T 14 p) x) : zIN T (zup S 18 p x) := by
  obtain ⟨a, b, c, e⟩ := h
  refine ⟨fun q hq => ?_, fun k hk => ?_, fun k hk => ?_, e⟩
  · rw [zup_ne' (by omega), zup_ne' (by omega)]; exact a q hq
  · rw [zup_ne' (by omega)]; exact b k hk
  · by_cases hp : k = p
    · subst hp; rw [zup_same]; exact hx
    · rw [zup_ne' (by omega)]; exact c k hk
theorem zsg.ix {a b : Int32} (h : zsg a b) : zix b 7 := by
  obtain ⟨n, j, -, rfl, h1, h2⟩ := h
  exact zin_nI (by omega) (by decide)
theorem zsg.lt {a b : Int32} (h : zsg a b) (hne : ¬ b = a) : zsf b 7 < 6 ∧ zsg a (b + 1) := by
  obtain ⟨n, j, rfl, rfl, h1, h2⟩ := h
  have h3 : j ≠ n := fun e => hne (by rw [e])
  rw [zsf_nI (by omega) (by decide), nI_1]
  exact ⟨by omega, n, j + 1, rfl, rfl, by omega, h2⟩
def rnear (x y b : Int32) : Int32 := if x < y then zmin y (x + b) else zmax y (x - b)
theorem zmin_comm (x y : Int32) : zmin x y = zmin y x := by
  unfold zmin
  by_cases h1 : y < x
  · rw [if_pos h1, if_neg (i_nlt (Int32.le_of_lt h1))]
  · rw [if_neg h1]
    by_cases h2 : x < y
    · rw [if_pos h2]
    · rw [if_neg h2]; exact Int32.le_antisymm (i_le h1) (i_le h2)
theorem zmax_comm (x y : Int32) : zmax x y = zmax y x := by
  unfold zmax
  by_cases h1 : x < y
  · rw [if_pos h1, if_neg (i_nlt (Int32.le_of_lt h1))]
  · rw [if_neg h1]
    by_cases h2 : y < x
    · rw [if_pos h2]
    · rw [if_neg h2]; exact Int32.le_antisymm (i_le h2) (i_le h1)
theorem rnear_eq (x y b : Int32) : rnear x y b = znear x y b := by
  unfold rnear znear
  rw [zmin_comm, zmax_comm]
theorem rrem {a : Nat} {y : Int32} (ha : a < 7) (h2 : ¬ y < 2) (h7 : zix y 7) : y ≠ 0 ∧ zix (nI a - nI a / y * y) 6 := by
  obtain ⟨b, hb, rfl⟩ := h7.ex (by decide)
  have hb2 : 2 ≤ b := by
    rcases Nat.lt_or_ge b 2 with h | h
    · exact absurd (nI_lt (b := 2) h (by decide)) h2
    · exact h
  rw [pk_rem (by omega) (by omega) (by omega)]
  have := Nat.mod_lt a (show 0 < b by omega)
  exact ⟨nI_ne0 (by omega) (by omega), zin_nI (by omega) (by decide)⟩

def rapt (a : Int32) (b : Int32) (e : Int32) (f : Int32) : Int32 :=
  (zmax (zabs (a - e)) (zabs (b - f)))

theorem c_apt {d : Nat} {a b e f : Int32} {μ : zM} : zden zcds (d + 1) 131 [.int (a), .int (b), .int (e), .int (f)] (μ) = some (0, some (.int ((rapt a b e f))), 0, 0, μ) := by
  refine (zd_in (d := d + 0) (cd := zc131) (nL := 4) (L := [(0, .int (a)), (1, .int (b)), (2, .int (e)), (3, .int (f))]) rfl (Nat.le_of_ble_eq_true rfl) rfl).trans ?_
  refine (ys4 1 (v := .int (a)) rfl rfl rfl rfl).trans ?_
  refine (ys4 2 (v := .int (e)) rfl rfl rfl rfl).trans ?_
  refine (ys7_1 3 rfl rfl).trans ?_
  refine (ys41_0 6 rfl (Nat.le_of_ble_eq_true rfl) rfl).trans ?_
  refine (ys4 7 (v := .int (b)) rfl rfl rfl rfl).trans ?_
  refine (ys4 8 (v := .int (f)) rfl rfl rfl rfl).trans ?_
  refine (ys7_1 9 rfl rfl).trans ?_
  refine (ys41_0 12 rfl (Nat.le_of_ble_eq_true rfl) rfl).trans ?_
  refine (ys41_1 15 rfl (Nat.le_of_ble_eq_true rfl) rfl).trans ?_
  refine (ys36 rfl rfl).trans ?_
  rw [show rapt a b e f = (zmax (zabs (a - e)) (zabs (b - f))) from by unfold rapt; (try dsimp only); first | done | rfl]; (first | done | rfl)

def rnr (a : Int32) (b : Int32) (e : Int32) : Int32 :=
  if b ≤ a then
    (zmax b (a - e))
  else
    (zmin b (a + e))

theorem c_rnr {d : Nat} {a b e : Int32} {μ : zM} : zden zcds (d + 1) 132 [.int (a), .int (b), .int (e)] (μ) = some (0, some (.int ((rnr a b e))), 0, 0, μ) := by
  refine (zd_in (d := d + 0) (cd := zc132) (nL := 3) (L := [(0, .int (a)), (1, .int (b)), (2, .int (e))]) rfl (Nat.le_of_ble_eq_true rfl) rfl).trans ?_
  refine (ys4 1 (v := .int (a)) rfl rfl rfl rfl).trans ?_
  refine (ys4 2 (v := .int (b)) rfl rfl rfl rfl).trans ?_
  refine ys18_3 5 rfl rfl (fun h2 => ?_) (fun h2 => ?_)
  · refine (ys4 16 (v := .int (b)) rfl rfl rfl rfl).trans ?_
    refine (ys4 17 (v := .int (a)) rfl rfl rfl rfl).trans ?_
    refine (ys4 18 (v := .int (e)) rfl rfl rfl rfl).trans ?_
    refine (ys7_1 19 rfl rfl).trans ?_
    refine (ys41_1 22 rfl (Nat.le_of_ble_eq_true rfl) rfl).trans ?_
    refine (ys36 rfl rfl).trans ?_
    rw [show rnr a b e = (zmax b (a - e)) from by unfold rnr; (try dsimp only); rw [if_pos h2]]; (first | done | rfl)
  · refine (ys4 6 (v := .int (b)) rfl rfl rfl rfl).trans ?_
    refine (ys4 7 (v := .int (a)) rfl rfl rfl rfl).trans ?_
    refine (ys4 8 (v := .int (e)) rfl rfl rfl rfl).trans ?_
    refine (ys7_0 9 rfl rfl).trans ?_
    refine (ys41_2 12 rfl (Nat.le_of_ble_eq_true rfl) rfl).trans ?_
    refine (ys19 rfl).trans ?_
    refine (ys36 rfl rfl).trans ?_
    rw [show rnr a b e = (zmin b (a + e)) from by unfold rnr; (try dsimp only); rw [if_neg h2]]; (first | done | rfl)

theorem rapt_eq (a b e f : Int32) : rapt a b e f = zdst a b e f := rfl
theorem rnr_eq (a b e : Int32) : rnr a b e = znear a b e := by
  rw [← rnear_eq]
  unfold rnr rnear
  by_cases h : a < b
  · rw [if_pos h]
    first | rw [if_pos h] | rw [if_neg (i_nle h)]
  · rw [if_neg h]
    first | rw [if_neg h] | rw [if_pos (i_le h)]

def ria (S : zFn) (T : zFn) (k : Nat) : Int32 :=
  if (S 18 k) = (T 14 k) then
    1
  else
    0

theorem c_ia {d : Nat} {x t s : Nat} {S T J : zFn} {μ : zM} (hC : zSC μ x t s J T) {k : Nat} (hk : k < 12) : zden zcds (d + 1) 188 [.ref (s + 0), .int (nI k)] (zwi μ (zfl J s 22 S)) = some (0, some (.int ((ria S T k))), 0, 0, zwi μ (zfl J s 22 S)) := by
  refine (zd_in (d := d + 0) (cd := zc188) (nL := 2) (L := [(0, .ref (s + 0)), (1, .int (nI k))]) rfl (Nat.le_of_ble_eq_true rfl) rfl).trans ?_
  refine (ys4 1 (v := .ref (s + 0)) rfl rfl rfl rfl).trans ?_
  refine (ygr 4 rfl (zFS.tag hC.1 (j := 0) (by decide) rfl) rfl (hC.2.1 17 (by decide))).trans ?_
  refine (ys4 5 (v := .int (nI k)) rfl rfl rfl rfl).trans ?_
  refine (ylx 6 (N := 12) rfl (j := k) rfl (Or.inl (zFS.tag hC.1 (j := 18) (by decide) rfl)) (zFS.ni hC.1 (j := 18) (by decide) rfl) (by omega) (by decide) rfl (zfl_at (j := 18) (by decide))).trans ?_
  refine (ys4 7 (v := .ref (s + 0)) rfl rfl rfl rfl).trans ?_
  refine (ygr 10 rfl (zFS.tag hC.1 (j := 0) (by decide) rfl) rfl hC.2.2.1).trans ?_
  refine (ygr 13 rfl hC.2.2.2.2.2.1 rfl hC.2.2.2.2.2.2.1).trans ?_
  refine (ygr 16 rfl (zFS.tag hC.2.2.2.1 (j := 0) (by decide) rfl) rfl (hC.2.2.2.2.1 13 (by decide))).trans ?_
  refine (ys4 17 (v := .int (nI k)) rfl rfl rfl rfl).trans ?_
  refine (ylx 18 (N := 12) rfl (j := k) rfl (Or.inl (zFS.tag hC.2.2.2.1 (j := 14) (by decide) rfl)) (zFS.ni hC.2.2.2.1 (j := 14) (by decide) rfl) (by omega) (by decide) rfl (zst_rd hC (j := 14) (by decide))).trans ?_
  refine ys18_1 21 rfl rfl (fun h18 => ?_) (fun h18 => ?_)
  · refine (ys1 22 (x := 1) rfl rfl rfl).trans ?_
    refine (ys19 rfl).trans ?_
    refine (ys36 rfl (by decide)).trans ?_
    rw [show ria S T k = 1 from by unfold ria; (try dsimp only); rw [if_pos h18]]; (first | done | rfl)
  · refine (ys1 26 (x := 0) rfl rfl rfl).trans ?_
    refine (ys36 rfl (by decide)).trans ?_
    rw [show ria S T k = 0 from by unfold ria; (try dsimp only); rw [if_neg h18]]; (first | done | rfl)

def rxo (S : zFn) (p : Nat) : Int32 :=
  if (S 4 p) = 0 then
    (S 1 (zsf (S 5 p) 6))
  else
    (S 6 p)

theorem c_rx {d : Nat} {x t s : Nat} {S T J : zFn} {μ : zM} (hC : zSC μ x t s J T) {p : Nat} (hp : p < 20) (hI : zIN T S) : zden zcds (d + 1) 189 [.ref (s + 0), .int (nI p)] (zwi μ (zfl J s 22 S)) = some (0, some (.int ((rxo S p))), 0, 0, zwi μ (zfl J s 22 S)) := by
  refine (zd_in (d := d + 0) (cd := zc189) (nL := 2) (L := [(0, .ref (s + 0)), (1, .int (nI p))]) rfl (Nat.le_of_ble_eq_true rfl) rfl).trans ?_
  refine (ys4 1 (v := .ref (s + 0)) rfl rfl rfl rfl).trans ?_
  refine (ygr 4 rfl (zFS.tag hC.1 (j := 0) (by decide) rfl) rfl (hC.2.1 3 (by decide))).trans ?_
  refine (ys4 5 (v := .int (nI p)) rfl rfl rfl rfl).trans ?_
  refine (ylx 6 (N := 20) rfl (j := p) rfl (Or.inl (zFS.tag hC.1 (j := 4) (by decide) rfl)) (zFS.ni hC.1 (j := 4) (by decide) rfl) (by omega) (by decide) rfl (zfl_at (j := 4) (by decide))).trans ?_
  refine ys17_1 9 rfl rfl (fun h6 => ?_) (fun h6 => ?_)
  · refine (ys4 10 (v := .ref (s + 0)) rfl rfl rfl rfl).trans ?_
    refine (ygr 13 rfl (zFS.tag hC.1 (j := 0) (by decide) rfl) rfl (hC.2.1 0 (by decide))).trans ?_
    refine (ys4 14 (v := .ref (s + 0)) rfl rfl rfl rfl).trans ?_
    refine (ygr 17 rfl (zFS.tag hC.1 (j := 0) (by decide) rfl) rfl (hC.2.1 4 (by decide))).trans ?_
    refine (ys4 18 (v := .int (nI p)) rfl rfl rfl rfl).trans ?_
    refine (ylx 19 (N := 20) rfl (j := p) rfl (Or.inl (zFS.tag hC.1 (j := 5) (by decide) rfl)) (zFS.ni hC.1 (j := 5) (by decide) rfl) (by omega) (by decide) rfl (Eq.trans (zfl_at (j := 5) (by decide)) (show (S 5 p) = (nI (zsf (S 5 p) 6)) from ((hI.1 p hp).2.1.eq (by decide))))).trans ?_
    refine (ylx 20 (N := 6) rfl (j := (zsf (S 5 p) 6)) rfl (Or.inl (zFS.tag hC.1 (j := 1) (by decide) rfl)) (zFS.ni hC.1 (j := 1) (by decide) rfl) (zsf_lt (by decide) (by decide)) (by decide) rfl (zfl_at (j := 1) (by decide))).trans ?_
    refine (ys19 rfl).trans ?_
    refine (ys36 rfl rfl).trans ?_
    rw [show rxo S p = (S 1 (zsf (S 5 p) 6)) from by unfold rxo; (try dsimp only); rw [if_pos h6]]; (first | done | rfl)
  · refine (ys4 24 (v := .ref (s + 0)) rfl rfl rfl rfl).trans ?_
    refine (ygr 27 rfl (zFS.tag hC.1 (j := 0) (by decide) rfl) rfl (hC.2.1 5 (by decide))).trans ?_
    refine (ys4 28 (v := .int (nI p)) rfl rfl rfl rfl).trans ?_
    refine (ylx 29 (N := 20) rfl (j := p) rfl (Or.inl (zFS.tag hC.1 (j := 6) (by decide) rfl)) (zFS.ni hC.1 (j := 6) (by decide) rfl) (by omega) (by decide) rfl (zfl_at (j := 6) (by decide))).trans ?_
    refine (ys36 rfl rfl).trans ?_
    rw [show rxo S p = (S 6 p) from by unfold rxo; (try dsimp only); rw [if_neg h6]]; (first | done | rfl)

def ryo (S : zFn) (p : Nat) : Int32 :=
  if (S 4 p) = 0 then
    (S 2 (zsf (S 5 p) 6))
  else
    (S 7 p)

theorem c_ry {d : Nat} {x t s : Nat} {S T J : zFn} {μ : zM} (hC : zSC μ x t s J T) {p : Nat} (hp : p < 20) (hI : zIN T S) : zden zcds (d + 1) 190 [.ref (s + 0), .int (nI p)] (zwi μ (zfl J s 22 S)) = some (0, some (.int ((ryo S p))), 0, 0, zwi μ (zfl J s 22 S)) := by
  refine (zd_in (d := d + 0) (cd := zc190) (nL := 2) (L := [(0, .ref (s + 0)), (1, .int (nI p))]) rfl (Nat.le_of_ble_eq_true rfl) rfl).trans ?_
  refine (ys4 1 (v := .ref (s + 0)) rfl rfl rfl rfl).trans ?_
  refine (ygr 4 rfl (zFS.tag hC.1 (j := 0) (by decide) rfl) rfl (hC.2.1 3 (by decide))).trans ?_
  refine (ys4 5 (v := .int (nI p)) rfl rfl rfl rfl).trans ?_
  refine (ylx 6 (N := 20) rfl (j := p) rfl (Or.inl (zFS.tag hC.1 (j := 4) (by decide) rfl)) (zFS.ni hC.1 (j := 4) (by decide) rfl) (by omega) (by decide) rfl (zfl_at (j := 4) (by decide))).trans ?_
  refine ys17_1 9 rfl rfl (fun h6 => ?_) (fun h6 => ?_)
  · refine (ys4 10 (v := .ref (s + 0)) rfl rfl rfl rfl).trans ?_
    refine (ygr 13 rfl (zFS.tag hC.1 (j := 0) (by decide) rfl) rfl (hC.2.1 1 (by decide))).trans ?_
    refine (ys4 14 (v := .ref (s + 0)) rfl rfl rfl rfl).trans ?_
    refine (ygr 17 rfl (zFS.tag hC.1 (j := 0) (by decide) rfl) rfl (hC.2.1 4 (by decide))).trans ?_
    refine (ys4 18 (v := .int (nI p)) rfl rfl rfl rfl).trans ?_
    refine (ylx 19 (N := 20) rfl (j := p) rfl (Or.inl (zFS.tag hC.1 (j := 5) (by decide) rfl)) (zFS.ni hC.1 (j := 5) (by decide) rfl) (by omega) (by decide) rfl (Eq.trans (zfl_at (j := 5) (by decide)) (show (S 5 p) = (nI (zsf (S 5 p) 6)) from ((hI.1 p hp).2.1.eq (by decide))))).trans ?_
    refine (ylx 20 (N := 6) rfl (j := (zsf (S 5 p) 6)) rfl (Or.inl (zFS.tag hC.1 (j := 2) (by decide) rfl)) (zFS.ni hC.1 (j := 2) (by decide) rfl) (zsf_lt (by decide) (by decide)) (by decide) rfl (zfl_at (j := 2) (by decide))).trans ?_
    refine (ys19 rfl).trans ?_
    refine (ys36 rfl rfl).trans ?_
    rw [show ryo S p = (S 2 (zsf (S 5 p) 6)) from by unfold ryo; (try dsimp only); rw [if_pos h6]]; (first | done | rfl)
  · refine (ys4 24 (v := .ref (s + 0)) rfl rfl rfl rfl).trans ?_
    refine (ygr 27 rfl (zFS.tag hC.1 (j := 0) (by decide) rfl) rfl (hC.2.1 6 (by decide))).trans ?_
    refine (ys4 28 (v := .int (nI p)) rfl rfl rfl rfl).trans ?_
    refine (ylx 29 (N := 20) rfl (j := p) rfl (Or.inl (zFS.tag hC.1 (j := 7) (by decide) rfl)) (zFS.ni hC.1 (j := 7) (by decide) rfl) (by omega) (by decide) rfl (zfl_at (j := 7) (by decide))).trans ?_
    refine (ys36 rfl rfl).trans ?_
    rw [show ryo S p = (S 7 p) from by unfold ryo; (try dsimp only); rw [if_neg h6]]; (first | done | rfl)

def rfh (S : zFn) (T : zFn) (p : Nat) : Int32 :=
  (rapt (rxo S p) (ryo S p) (S 1 (zsf (T 5 p) 6)) (S 2 (zsf (T 5 p) 6)))

theorem c_fh {d : Nat} {x t s : Nat} {S T J : zFn} {μ : zM} (hC : zSC μ x t s J T) {p : Nat} (hp : p < 20) (hI : zIN T S) : zden zcds (d + 2) 191 [.ref (s + 0), .int (nI p)] (zwi μ (zfl J s 22 S)) = some (0, some (.int ((rfh S T p))), 0, 0, zwi μ (zfl J s 22 S)) := by
  refine (zd_in (d := d + 1) (cd := zc191) (nL := 2) (L := [(0, .ref (s + 0)), (1, .int (nI p))]) rfl (Nat.le_of_ble_eq_true rfl) rfl).trans ?_
  refine (ys4 1 (v := .ref (s + 0)) rfl rfl rfl rfl).trans ?_
  refine (ys4 2 (v := .int (nI p)) rfl rfl rfl rfl).trans ?_
  refine (yc2 5 rfl rfl (Nat.le_of_ble_eq_true rfl) (Or.inr (by show ztg (zwi _ _) _ = _; rw [ztg_wi]; exact (zFS.tag hC.1 (j := 0) (by decide) rfl))) rfl rfl (c_rx hC hp hI)).trans ?_
  refine (ys4 6 (v := .ref (s + 0)) rfl rfl rfl rfl).trans ?_
  refine (ys4 7 (v := .int (nI p)) rfl rfl rfl rfl).trans ?_
  refine (yc2 10 rfl rfl (Nat.le_of_ble_eq_true rfl) (Or.inr (by show ztg (zwi _ _) _ = _; rw [ztg_wi]; exact (zFS.tag hC.1 (j := 0) (by decide) rfl))) rfl rfl (c_ry hC hp hI)).trans ?_
  refine (ys4 11 (v := .ref (s + 0)) rfl rfl rfl rfl).trans ?_
  refine (ygr 14 rfl (zFS.tag hC.1 (j := 0) (by decide) rfl) rfl (hC.2.1 0 (by decide))).trans ?_
  refine (ys4 15 (v := .ref (s + 0)) rfl rfl rfl rfl).trans ?_
  refine (ygr 18 rfl (zFS.tag hC.1 (j := 0) (by decide) rfl) rfl hC.2.2.1).trans ?_
  refine (ygr 21 rfl hC.2.2.2.2.2.1 rfl hC.2.2.2.2.2.2.1).trans ?_
  refine (ygr 24 rfl (zFS.tag hC.2.2.2.1 (j := 0) (by decide) rfl) rfl (hC.2.2.2.2.1 4 (by decide))).trans ?_
  refine (ys4 25 (v := .int (nI p)) rfl rfl rfl rfl).trans ?_
  refine (ylx 26 (N := 20) rfl (j := p) rfl (Or.inl (zFS.tag hC.2.2.2.1 (j := 5) (by decide) rfl)) (zFS.ni hC.2.2.2.1 (j := 5) (by decide) rfl) (by omega) (by decide) rfl (Eq.trans (zst_rd hC (j := 5) (by decide)) (show (T 5 p) = (nI (zsf (T 5 p) 6)) from ((hI.1 p hp).1.eq (by decide))))).trans ?_
  refine (ylx 27 (N := 6) rfl (j := (zsf (T 5 p) 6)) rfl (Or.inl (zFS.tag hC.1 (j := 1) (by decide) rfl)) (zFS.ni hC.1 (j := 1) (by decide) rfl) (zsf_lt (by decide) (by decide)) (by decide) rfl (zfl_at (j := 1) (by decide))).trans ?_
  refine (ys4 28 (v := .ref (s + 0)) rfl rfl rfl rfl).trans ?_
  refine (ygr 31 rfl (zFS.tag hC.1 (j := 0) (by decide) rfl) rfl (hC.2.1 1 (by decide))).trans ?_
  refine (ys4 32 (v := .ref (s + 0)) rfl rfl rfl rfl).trans ?_
  refine (ygr 35 rfl (zFS.tag hC.1 (j := 0) (by decide) rfl) rfl hC.2.2.1).trans ?_
  refine (ygr 38 rfl hC.2.2.2.2.2.1 rfl hC.2.2.2.2.2.2.1).trans ?_
  refine (ygr 41 rfl (zFS.tag hC.2.2.2.1 (j := 0) (by decide) rfl) rfl (hC.2.2.2.2.1 4 (by decide))).trans ?_
  refine (ys4 42 (v := .int (nI p)) rfl rfl rfl rfl).trans ?_
  refine (ylx 43 (N := 20) rfl (j := p) rfl (Or.inl (zFS.tag hC.2.2.2.1 (j := 5) (by decide) rfl)) (zFS.ni hC.2.2.2.1 (j := 5) (by decide) rfl) (by omega) (by decide) rfl (Eq.trans (zst_rd hC (j := 5) (by decide)) (show (T 5 p) = (nI (zsf (T 5 p) 6)) from ((hI.1 p hp).1.eq (by decide))))).trans ?_
  refine (ylx 44 (N := 6) rfl (j := (zsf (T 5 p) 6)) rfl (Or.inl (zFS.tag hC.1 (j := 2) (by decide) rfl)) (zFS.ni hC.1 (j := 2) (by decide) rfl) (zsf_lt (by decide) (by decide)) (by decide) rfl (zfl_at (j := 2) (by decide))).trans ?_
  refine (yc4 47 rfl rfl (Nat.le_of_ble_eq_true rfl) (Or.inl rfl) rfl rfl c_apt).trans ?_
  refine (ys36 rfl rfl).trans ?_
  rw [show rfh S T p = (rapt (rxo S p) (ryo S p) (S 1 (zsf (T 5 p) 6)) (S 2 (zsf (T 5 p) 6))) from by unfold rfh; (try dsimp only); first | done | rfl]; (first | done | rfl)

def rcso (S : zFn) (k : Nat) (p : Nat) : Int32 :=
  if (S 4 p) = 0 then
    if (S 5 p) = (S 17 k) then
      if ((zbin 7 ((S 21 k)) (nI p)) &&& 1) = 0 then
        1
      else
        0
    else
      0
  else
    0

theorem c_rcso {d : Nat} {x t s : Nat} {S T J : zFn} {μ : zM} (hC : zSC μ x t s J T) {k : Nat} (hk : k < 12) {p : Nat} (hp : p < 20) : zden zcds (d + 1) 192 [.ref (s + 0), .int (nI k), .int (nI p)] (zwi μ (zfl J s 22 S)) = some (0, some (.int ((rcso S k p))), 0, 0, zwi μ (zfl J s 22 S)) := by
  refine (zd_in (d := d + 0) (cd := zc192) (nL := 3) (L := [(0, .ref (s + 0)), (1, .int (nI k)), (2, .int (nI p))]) rfl (Nat.le_of_ble_eq_true rfl) rfl).trans ?_
  refine (ys4 1 (v := .ref (s + 0)) rfl rfl rfl rfl).trans ?_
  refine (ygr 4 rfl (zFS.tag hC.1 (j := 0) (by decide) rfl) rfl (hC.2.1 3 (by decide))).trans ?_
  refine (ys4 5 (v := .int (nI p)) rfl rfl rfl rfl).trans ?_
  refine (ylx 6 (N := 20) rfl (j := p) rfl (Or.inl (zFS.tag hC.1 (j := 4) (by decide) rfl)) (zFS.ni hC.1 (j := 4) (by decide) rfl) (by omega) (by decide) rfl (zfl_at (j := 4) (by decide))).trans ?_
  refine ys17_1 9 rfl rfl (fun h6 => ?_) (fun h6 => ?_)
  · refine (ys4 10 (v := .ref (s + 0)) rfl rfl rfl rfl).trans ?_
    refine (ygr 13 rfl (zFS.tag hC.1 (j := 0) (by decide) rfl) rfl (hC.2.1 4 (by decide))).trans ?_
    refine (ys4 14 (v := .int (nI p)) rfl rfl rfl rfl).trans ?_
    refine (ylx 15 (N := 20) rfl (j := p) rfl (Or.inl (zFS.tag hC.1 (j := 5) (by decide) rfl)) (zFS.ni hC.1 (j := 5) (by decide) rfl) (by omega) (by decide) rfl (zfl_at (j := 5) (by decide))).trans ?_
    refine (ys4 16 (v := .ref (s + 0)) rfl rfl rfl rfl).trans ?_
    refine (ygr 19 rfl (zFS.tag hC.1 (j := 0) (by decide) rfl) rfl (hC.2.1 16 (by decide))).trans ?_
    refine (ys4 20 (v := .int (nI k)) rfl rfl rfl rfl).trans ?_
    refine (ylx 21 (N := 12) rfl (j := k) rfl (Or.inl (zFS.tag hC.1 (j := 17) (by decide) rfl)) (zFS.ni hC.1 (j := 17) (by decide) rfl) (by omega) (by decide) rfl (zfl_at (j := 17) (by decide))).trans ?_
    refine ys18_1 24 rfl rfl (fun h21 => ?_) (fun h21 => ?_)
    · refine (ys4 25 (v := .ref (s + 0)) rfl rfl rfl rfl).trans ?_
      refine (ygr 28 rfl (zFS.tag hC.1 (j := 0) (by decide) rfl) rfl (hC.2.1 20 (by decide))).trans ?_
      refine (ys4 29 (v := .int (nI k)) rfl rfl rfl rfl).trans ?_
      refine (ylx 30 (N := 12) rfl (j := k) rfl (Or.inl (zFS.tag hC.1 (j := 21) (by decide) rfl)) (zFS.ni hC.1 (j := 21) (by decide) rfl) (by omega) (by decide) rfl (zfl_at (j := 21) (by decide))).trans ?_
      refine (ys4 31 (v := .int (nI p)) rfl rfl rfl rfl).trans ?_
      refine (ys7 32 (b := 7) rfl rfl).trans ?_
      refine (ys1 33 (x := 1) rfl rfl rfl).trans ?_
      refine (ys7_3 34 rfl rfl).trans ?_
      refine ys17_1 37 rfl rfl (fun h34 => ?_) (fun h34 => ?_)
      · refine (ys1 38 (x := 1) rfl rfl rfl).trans ?_
        refine (ys19 rfl).trans ?_
        refine (ys36 rfl (by decide)).trans ?_
        rw [show rcso S k p = 1 from by unfold rcso; (try dsimp only); rw [if_pos h6, if_pos h21, if_pos h34]]; (first | done | rfl)
      · refine (ys1 42 (x := 0) rfl rfl rfl).trans ?_
        refine (ys36 rfl (by decide)).trans ?_
        rw [show rcso S k p = 0 from by unfold rcso; (try dsimp only); rw [if_pos h6, if_pos h21, if_neg h34]]; (first | done | rfl)
    · refine (ys1 42 (x := 0) rfl rfl rfl).trans ?_
      refine (ys36 rfl (by decide)).trans ?_
      rw [show rcso S k p = 0 from by unfold rcso; (try dsimp only); rw [if_pos h6, if_neg h21]]; (first | done | rfl)
  · refine (ys1 42 (x := 0) rfl rfl rfl).trans ?_
    refine (ys36 rfl (by decide)).trans ?_
    rw [show rcso S k p = 0 from by unfold rcso; (try dsimp only); rw [if_neg h6]]; (first | done | rfl)

def rca (S : zFn) (T : zFn) (k : Nat) (i : Nat) : Int32 :=
  (T 16 (((120 * k) + (20 * (zsf (S 18 k) 7))) + i))

theorem c_rca {d : Nat} {x t s : Nat} {S T J : zFn} {μ : zM} (hC : zSC μ x t s J T) {k : Nat} (hk : k < 12) {i : Nat} (hi : i < 20) (hI : zIN T S) (h6 : zsf (S 18 k) 7 < 6) : zden zcds (d + 1) 193 [.ref (s + 0), .int (nI k), .int (nI i)] (zwi μ (zfl J s 22 S)) = some (0, some (.int ((rca S T k i))), 0, 0, zwi μ (zfl J s 22 S)) := by
  refine (zd_in (d := d + 0) (cd := zc193) (nL := 3) (L := [(0, .ref (s + 0)), (1, .int (nI k)), (2, .int (nI i))]) rfl (Nat.le_of_ble_eq_true rfl) rfl).trans ?_
  refine (ys4 1 (v := .ref (s + 0)) rfl rfl rfl rfl).trans ?_
  refine (ygr 4 rfl (zFS.tag hC.1 (j := 0) (by decide) rfl) rfl hC.2.2.1).trans ?_
  refine (ygr 7 rfl hC.2.2.2.2.2.1 rfl hC.2.2.2.2.2.2.1).trans ?_
  refine (ygr 10 rfl (zFS.tag hC.2.2.2.1 (j := 0) (by decide) rfl) rfl (hC.2.2.2.2.1 15 (by decide))).trans ?_
  refine (ys1 12 (x := 120) rfl rfl rfl).trans ?_
  refine (ys4 13 (v := .int (nI k)) rfl rfl rfl rfl).trans ?_
  refine (ys7_2 14 rfl rfl).trans ?_
  rw [show (120 * (nI k)) = nI (120 * k) from pk_mul 120 k]
  refine (ys1 16 (x := 20) rfl rfl rfl).trans ?_
  refine (ys4 17 (v := .ref (s + 0)) rfl rfl rfl rfl).trans ?_
  refine (ygr 20 rfl (zFS.tag hC.1 (j := 0) (by decide) rfl) rfl (hC.2.1 17 (by decide))).trans ?_
  refine (ys4 21 (v := .int (nI k)) rfl rfl rfl rfl).trans ?_
  refine (ylx 22 (N := 12) rfl (j := k) rfl (Or.inl (zFS.tag hC.1 (j := 18) (by decide) rfl)) (zFS.ni hC.1 (j := 18) (by decide) rfl) (by omega) (by decide) rfl (Eq.trans (zfl_at (j := 18) (by decide)) (show (S 18 k) = (nI (zsf (S 18 k) 7)) from ((hI.2.2.1 k hk).ix.eq (by decide))))).trans ?_
  refine (ys7_2 23 rfl rfl).trans ?_
  rw [show (20 * (nI (zsf (S 18 k) 7))) = nI (20 * (zsf (S 18 k) 7)) from pk_mul 20 (zsf (S 18 k) 7)]
  refine (ys7_0 24 rfl rfl).trans ?_
  rw [show ((nI (120 * k)) + (nI (20 * (zsf (S 18 k) 7)))) = nI ((120 * k) + (20 * (zsf (S 18 k) 7))) from nI_add (120 * k) (20 * (zsf (S 18 k) 7))]
  refine (ys4 25 (v := .int (nI i)) rfl rfl rfl rfl).trans ?_
  refine (ys7_0 26 rfl rfl).trans ?_
  rw [show ((nI ((120 * k) + (20 * (zsf (S 18 k) 7)))) + (nI i)) = nI (((120 * k) + (20 * (zsf (S 18 k) 7))) + i) from nI_add ((120 * k) + (20 * (zsf (S 18 k) 7))) i]
  refine (ylx 27 (N := 1440) rfl (j := (((120 * k) + (20 * (zsf (S 18 k) 7))) + i)) rfl (Or.inl (zFS.tag hC.2.2.2.1 (j := 16) (by decide) rfl)) (zFS.ni hC.2.2.2.1 (j := 16) (by decide) rfl) (by omega) (by decide) rfl (zst_rd hC (j := 16) (by decide))).trans ?_
  refine (ys36 rfl rfl).trans ?_
  rw [show rca S T k i = (T 16 (((120 * k) + (20 * (zsf (S 18 k) 7))) + i)) from by unfold rca; (try dsimp only); first | done | rfl]; (first | done | rfl)

theorem ria_ne {S T : zFn} {k : Nat} (h : ria S T k = 0) : ¬ S 18 k = T 14 k := by
  intro e
  unfold ria at h
  rw [if_pos e] at h
  exact absurd h (by decide)

def rcs (S : zFn) (T : zFn) (k : Nat) : Int32 :=
  if (ria S T k) = 0 then
    (T 15 ((6 * k) + (zsf (S 18 k) 7)))
  else
    0

theorem c_rcs {d : Nat} {x t s : Nat} {S T J : zFn} {μ : zM} (hC : zSC μ x t s J T) {k : Nat} (hk : k < 12) (hI : zIN T S) : zden zcds (d + 2) 194 [.ref (s + 0), .int (nI k)] (zwi μ (zfl J s 22 S)) = some (0, some (.int ((rcs S T k))), 0, 0, zwi μ (zfl J s 22 S)) := by
  refine (zd_in (d := d + 1) (cd := zc194) (nL := 2) (L := [(0, .ref (s + 0)), (1, .int (nI k))]) rfl (Nat.le_of_ble_eq_true rfl) rfl).trans ?_
  refine (ys4 1 (v := .ref (s + 0)) rfl rfl rfl rfl).trans ?_
  refine (ys4 2 (v := .int (nI k)) rfl rfl rfl rfl).trans ?_
  refine (yc2 5 rfl rfl (Nat.le_of_ble_eq_true rfl) (Or.inr (by show ztg (zwi _ _) _ = _; rw [ztg_wi]; exact (zFS.tag hC.1 (j := 0) (by decide) rfl))) rfl rfl (c_ia hC hk)).trans ?_
  refine ys17_0 8 rfl rfl (fun h5 => ?_) (fun h5 => ?_)
  · have h6 := ((hI.2.2.1 k hk).lt (ria_ne h5)).1
    refine (ys4 13 (v := .ref (s + 0)) rfl rfl rfl rfl).trans ?_
    refine (ygr 16 rfl (zFS.tag hC.1 (j := 0) (by decide) rfl) rfl hC.2.2.1).trans ?_
    refine (ygr 19 rfl hC.2.2.2.2.2.1 rfl hC.2.2.2.2.2.2.1).trans ?_
    refine (ygr 22 rfl (zFS.tag hC.2.2.2.1 (j := 0) (by decide) rfl) rfl (hC.2.2.2.2.1 14 (by decide))).trans ?_
    refine (ys1 24 (x := 6) rfl rfl rfl).trans ?_
    refine (ys4 25 (v := .int (nI k)) rfl rfl rfl rfl).trans ?_
    refine (ys7_2 26 rfl rfl).trans ?_
    rw [show (6 * (nI k)) = nI (6 * k) from pk_mul 6 k]
    refine (ys4 27 (v := .ref (s + 0)) rfl rfl rfl rfl).trans ?_
    refine (ygr 30 rfl (zFS.tag hC.1 (j := 0) (by decide) rfl) rfl (hC.2.1 17 (by decide))).trans ?_
    refine (ys4 31 (v := .int (nI k)) rfl rfl rfl rfl).trans ?_
    refine (ylx 32 (N := 12) rfl (j := k) rfl (Or.inl (zFS.tag hC.1 (j := 18) (by decide) rfl)) (zFS.ni hC.1 (j := 18) (by decide) rfl) (by omega) (by decide) rfl (Eq.trans (zfl_at (j := 18) (by decide)) (show (S 18 k) = (nI (zsf (S 18 k) 7)) from ((hI.2.2.1 k hk).ix.eq (by decide))))).trans ?_
    refine (ys7_0 33 rfl rfl).trans ?_
    rw [show ((nI (6 * k)) + (nI (zsf (S 18 k) 7))) = nI ((6 * k) + (zsf (S 18 k) 7)) from nI_add (6 * k) (zsf (S 18 k) 7)]
    refine (ylx 34 (N := 72) rfl (j := ((6 * k) + (zsf (S 18 k) 7))) rfl (Or.inl (zFS.tag hC.2.2.2.1 (j := 15) (by decide) rfl)) (zFS.ni hC.2.2.2.1 (j := 15) (by decide) rfl) (by omega) (by decide) rfl (zst_rd hC (j := 15) (by decide))).trans ?_
    refine (ys36 rfl rfl).trans ?_
    rw [show rcs S T k = (T 15 ((6 * k) + (zsf (S 18 k) 7))) from by unfold rcs; (try dsimp only); rw [if_pos h5]]; (first | done | rfl)
  · refine (ys1 9 (x := 0) rfl rfl rfl).trans ?_
    refine (ys19 rfl).trans ?_
    refine (ys36 rfl rfl).trans ?_
    rw [show rcs S T k = 0 from by unfold rcs; (try dsimp only); rw [if_neg h5]]; (first | done | rfl)

def rgl (S : zFn) (T : zFn) (k : Nat) : zFn :=
  if 2 ≤ (T 1 k) then
    let S1 := zup S 1 k ((rnr (S 1 k) (T 2 ((6 * k) + (zsf (S 3 k) 6))) (T 4 k)))
    let S2 := zup S1 2 k ((rnr (S1 2 k) (T 3 ((6 * k) + (zsf (S 3 k) 6))) (T 4 k)))
    if (S2 1 k) = (T 2 ((6 * k) + (zsf (S 3 k) 6))) then
      if (S2 2 k) = (T 3 ((6 * k) + (zsf (S 3 k) 6))) then
        let S3 := zup S2 3 k (((nI ((zsf (S2 3 k) 6) + 1)) - (nI ((zsf (S2 3 k) 6) + 1)) / (T 1 k) * (T 1 k)))
        S3
      else
        S2
    else
      S2
  else
    S

theorem c_gl {d : Nat} {x t s : Nat} {S T J : zFn} {μ : zM} (hC : zSC μ x t s J T) {k : Nat} (hk : k < 6) (hI : zIN T S) : zden zcds (d + 2) 195 [.ref (s + 0), .int (nI k)] (zwi μ (zfl J s 22 S)) = some (0, none, 0, 0, zwi μ (zfl J s 22 ((rgl S T k)))) := by
  have hz := zsf_lt (i := S 3 k) (n := 6) (by decide) (by decide)
  refine (zd_in (d := d + 1) (cd := zc195) (nL := 4) (L := [(0, .ref (s + 0)), (1, .int (nI k))]) rfl (Nat.le_of_ble_eq_true rfl) rfl).trans ?_
  refine (ys4 1 (v := .ref (s + 0)) rfl rfl rfl rfl).trans ?_
  refine (ygr 4 rfl (zFS.tag hC.1 (j := 0) (by decide) rfl) rfl hC.2.2.1).trans ?_
  refine (ygr 7 rfl hC.2.2.2.2.2.1 rfl hC.2.2.2.2.2.2.1).trans ?_
  refine (ygr 10 rfl (zFS.tag hC.2.2.2.1 (j := 0) (by decide) rfl) rfl (hC.2.2.2.2.1 0 (by decide))).trans ?_
  refine (ys4 11 (v := .int (nI k)) rfl rfl rfl rfl).trans ?_
  refine (ylx 12 (N := 6) rfl (j := k) rfl (Or.inl (zFS.tag hC.2.2.2.1 (j := 1) (by decide) rfl)) (zFS.ni hC.2.2.2.1 (j := 1) (by decide) rfl) (by omega) (by decide) rfl (zst_rd hC (j := 1) (by decide))).trans ?_
  refine (ys1 13 (x := 2) rfl rfl rfl).trans ?_
  refine ys18_3 16 rfl rfl (fun h13 => ?_) (fun h13 => ?_)
  · refine (ys4 18 (v := .ref (s + 0)) rfl rfl rfl rfl).trans ?_
    refine (ygr 21 rfl (zFS.tag hC.1 (j := 0) (by decide) rfl) rfl hC.2.2.1).trans ?_
    refine (ygr 24 rfl hC.2.2.2.2.2.1 rfl hC.2.2.2.2.2.2.1).trans ?_
    refine (ygr 27 rfl (zFS.tag hC.2.2.2.1 (j := 0) (by decide) rfl) rfl (hC.2.2.2.2.1 1 (by decide))).trans ?_
    refine (ys1 29 (x := 6) rfl rfl rfl).trans ?_
    refine (ys4 30 (v := .int (nI k)) rfl rfl rfl rfl).trans ?_
    refine (ys7_2 31 rfl rfl).trans ?_
    rw [show (6 * (nI k)) = nI (6 * k) from pk_mul 6 k]
    refine (ys4 32 (v := .ref (s + 0)) rfl rfl rfl rfl).trans ?_
    refine (ygr 35 rfl (zFS.tag hC.1 (j := 0) (by decide) rfl) rfl (hC.2.1 2 (by decide))).trans ?_
    refine (ys4 36 (v := .int (nI k)) rfl rfl rfl rfl).trans ?_
    refine (ylx 37 (N := 6) rfl (j := k) rfl (Or.inl (zFS.tag hC.1 (j := 3) (by decide) rfl)) (zFS.ni hC.1 (j := 3) (by decide) rfl) (by omega) (by decide) rfl (Eq.trans (zfl_at (j := 3) (by decide)) (show (S 3 k) = (nI (zsf (S 3 k) 6)) from ((hI.2.1 k hk).2.eq (by decide))))).trans ?_
    refine (ys7_0 38 rfl rfl).trans ?_
    rw [show ((nI (6 * k)) + (nI (zsf (S 3 k) 6))) = nI ((6 * k) + (zsf (S 3 k) 6)) from nI_add (6 * k) (zsf (S 3 k) 6)]
    refine (ylx 39 (N := 36) rfl (j := ((6 * k) + (zsf (S 3 k) 6))) rfl (Or.inl (zFS.tag hC.2.2.2.1 (j := 2) (by decide) rfl)) (zFS.ni hC.2.2.2.1 (j := 2) (by decide) rfl) (by omega) (by decide) rfl (zst_rd hC (j := 2) (by decide))).trans ?_
    refine (ys5 40 (L2 := [(2, .int ((T 2 ((6 * k) + (zsf (S 3 k) 6))))), (0, .ref (s + 0)), (1, .int (nI k))]) rfl rfl rfl rfl).trans ?_
    refine (ys4 41 (v := .ref (s + 0)) rfl rfl rfl rfl).trans ?_
    refine (ygr 44 rfl (zFS.tag hC.1 (j := 0) (by decide) rfl) rfl hC.2.2.1).trans ?_
    refine (ygr 47 rfl hC.2.2.2.2.2.1 rfl hC.2.2.2.2.2.2.1).trans ?_
    refine (ygr 50 rfl (zFS.tag hC.2.2.2.1 (j := 0) (by decide) rfl) rfl (hC.2.2.2.2.1 2 (by decide))).trans ?_
    refine (ys1 52 (x := 6) rfl rfl rfl).trans ?_
    refine (ys4 53 (v := .int (nI k)) rfl rfl rfl rfl).trans ?_
    refine (ys7_2 54 rfl rfl).trans ?_
    rw [show (6 * (nI k)) = nI (6 * k) from pk_mul 6 k]
    refine (ys4 55 (v := .ref (s + 0)) rfl rfl rfl rfl).trans ?_
    refine (ygr 58 rfl (zFS.tag hC.1 (j := 0) (by decide) rfl) rfl (hC.2.1 2 (by decide))).trans ?_
    refine (ys4 59 (v := .int (nI k)) rfl rfl rfl rfl).trans ?_
    refine (ylx 60 (N := 6) rfl (j := k) rfl (Or.inl (zFS.tag hC.1 (j := 3) (by decide) rfl)) (zFS.ni hC.1 (j := 3) (by decide) rfl) (by omega) (by decide) rfl (Eq.trans (zfl_at (j := 3) (by decide)) (show (S 3 k) = (nI (zsf (S 3 k) 6)) from ((hI.2.1 k hk).2.eq (by decide))))).trans ?_
    refine (ys7_0 61 rfl rfl).trans ?_
    rw [show ((nI (6 * k)) + (nI (zsf (S 3 k) 6))) = nI ((6 * k) + (zsf (S 3 k) 6)) from nI_add (6 * k) (zsf (S 3 k) 6)]
    refine (ylx 62 (N := 36) rfl (j := ((6 * k) + (zsf (S 3 k) 6))) rfl (Or.inl (zFS.tag hC.2.2.2.1 (j := 3) (by decide) rfl)) (zFS.ni hC.2.2.2.1 (j := 3) (by decide) rfl) (by omega) (by decide) rfl (zst_rd hC (j := 3) (by decide))).trans ?_
    refine (ys5 63 (L2 := [(3, .int ((T 3 ((6 * k) + (zsf (S 3 k) 6))))), (2, .int ((T 2 ((6 * k) + (zsf (S 3 k) 6))))), (0, .ref (s + 0)), (1, .int (nI k))]) rfl rfl rfl rfl).trans ?_
    refine (ys4 64 (v := .ref (s + 0)) rfl rfl rfl rfl).trans ?_
    refine (ygr 67 rfl (zFS.tag hC.1 (j := 0) (by decide) rfl) rfl (hC.2.1 0 (by decide))).trans ?_
    refine (ys4 68 (v := .int (nI k)) rfl rfl rfl rfl).trans ?_
    refine (ys4 69 (v := .ref (s + 0)) rfl rfl rfl rfl).trans ?_
    refine (ygr 72 rfl (zFS.tag hC.1 (j := 0) (by decide) rfl) rfl (hC.2.1 0 (by decide))).trans ?_
    refine (ys4 73 (v := .int (nI k)) rfl rfl rfl rfl).trans ?_
    refine (ylx 74 (N := 6) rfl (j := k) rfl (Or.inl (zFS.tag hC.1 (j := 1) (by decide) rfl)) (zFS.ni hC.1 (j := 1) (by decide) rfl) (by omega) (by decide) rfl (zfl_at (j := 1) (by decide))).trans ?_
    refine (ys4 75 (v := .int ((T 2 ((6 * k) + (zsf (S 3 k) 6))))) rfl rfl rfl rfl).trans ?_
    refine (ys4 76 (v := .ref (s + 0)) rfl rfl rfl rfl).trans ?_
    refine (ygr 79 rfl (zFS.tag hC.1 (j := 0) (by decide) rfl) rfl hC.2.2.1).trans ?_
    refine (ygr 82 rfl hC.2.2.2.2.2.1 rfl hC.2.2.2.2.2.2.1).trans ?_
    refine (ygr 85 rfl (zFS.tag hC.2.2.2.1 (j := 0) (by decide) rfl) rfl (hC.2.2.2.2.1 3 (by decide))).trans ?_
    refine (ys4 86 (v := .int (nI k)) rfl rfl rfl rfl).trans ?_
    refine (ylx 87 (N := 6) rfl (j := k) rfl (Or.inl (zFS.tag hC.2.2.2.1 (j := 4) (by decide) rfl)) (zFS.ni hC.2.2.2.1 (j := 4) (by decide) rfl) (by omega) (by decide) rfl (zst_rd hC (j := 4) (by decide))).trans ?_
    refine (yc3 90 rfl rfl (Nat.le_of_ble_eq_true rfl) (Or.inl rfl) rfl rfl c_rnr).trans ?_
    refine (ywx 91 (N := 6) rfl (j := k) rfl (zFS.tag hC.1 (j := 1) (by decide) rfl) (zFS.k0 hC.1 (j := 1)) (zFS.ni hC.1 (j := 1) (by decide) rfl) (by omega) (by decide) rfl (zfl_up (j := 1) (by decide))).trans ?_
    generalize hS1 : zup S 1 k ((rnr (S 1 k) (T 2 ((6 * k) + (zsf (S 3 k) 6))) (T 4 k))) = S1
    have hIS1 : zIN T S1 := by rw [← hS1]; exact zIN_u hI (by decide)
    refine (ys4 92 (v := .ref (s + 0)) rfl rfl rfl rfl).trans ?_
    refine (ygr 95 rfl (zFS.tag hC.1 (j := 0) (by decide) rfl) rfl (hC.2.1 1 (by decide))).trans ?_
    refine (ys4 96 (v := .int (nI k)) rfl rfl rfl rfl).trans ?_
    refine (ys4 97 (v := .ref (s + 0)) rfl rfl rfl rfl).trans ?_
    refine (ygr 100 rfl (zFS.tag hC.1 (j := 0) (by decide) rfl) rfl (hC.2.1 1 (by decide))).trans ?_
    refine (ys4 101 (v := .int (nI k)) rfl rfl rfl rfl).trans ?_
    refine (ylx 102 (N := 6) rfl (j := k) rfl (Or.inl (zFS.tag hC.1 (j := 2) (by decide) rfl)) (zFS.ni hC.1 (j := 2) (by decide) rfl) (by omega) (by decide) rfl (zfl_at (j := 2) (by decide))).trans ?_
    refine (ys4 103 (v := .int ((T 3 ((6 * k) + (zsf (S 3 k) 6))))) rfl rfl rfl rfl).trans ?_
    refine (ys4 104 (v := .ref (s + 0)) rfl rfl rfl rfl).trans ?_
    refine (ygr 107 rfl (zFS.tag hC.1 (j := 0) (by decide) rfl) rfl hC.2.2.1).trans ?_
    refine (ygr 110 rfl hC.2.2.2.2.2.1 rfl hC.2.2.2.2.2.2.1).trans ?_
    refine (ygr 113 rfl (zFS.tag hC.2.2.2.1 (j := 0) (by decide) rfl) rfl (hC.2.2.2.2.1 3 (by decide))).trans ?_
    refine (ys4 114 (v := .int (nI k)) rfl rfl rfl rfl).trans ?_
    refine (ylx 115 (N := 6) rfl (j := k) rfl (Or.inl (zFS.tag hC.2.2.2.1 (j := 4) (by decide) rfl)) (zFS.ni hC.2.2.2.1 (j := 4) (by decide) rfl) (by omega) (by decide) rfl (zst_rd hC (j := 4) (by decide))).trans ?_
    refine (yc3 118 rfl rfl (Nat.le_of_ble_eq_true rfl) (Or.inl rfl) rfl rfl c_rnr).trans ?_
    refine (ywx 119 (N := 6) rfl (j := k) rfl (zFS.tag hC.1 (j := 2) (by decide) rfl) (zFS.k0 hC.1 (j := 2)) (zFS.ni hC.1 (j := 2) (by decide) rfl) (by omega) (by decide) rfl (zfl_up (j := 2) (by decide))).trans ?_
    generalize hS2 : zup S1 2 k ((rnr (S1 2 k) (T 3 ((6 * k) + (zsf (S 3 k) 6))) (T 4 k))) = S2
    have hIS2 : zIN T S2 := by rw [← hS2]; exact zIN_u hIS1 (by decide)
    refine (ys4 120 (v := .ref (s + 0)) rfl rfl rfl rfl).trans ?_
    refine (ygr 123 rfl (zFS.tag hC.1 (j := 0) (by decide) rfl) rfl (hC.2.1 0 (by decide))).trans ?_
    refine (ys4 124 (v := .int (nI k)) rfl rfl rfl rfl).trans ?_
    refine (ylx 125 (N := 6) rfl (j := k) rfl (Or.inl (zFS.tag hC.1 (j := 1) (by decide) rfl)) (zFS.ni hC.1 (j := 1) (by decide) rfl) (by omega) (by decide) rfl (zfl_at (j := 1) (by decide))).trans ?_
    refine (ys4 126 (v := .int ((T 2 ((6 * k) + (zsf (S 3 k) 6))))) rfl rfl rfl rfl).trans ?_
    refine ys18_1 129 rfl rfl (fun h126 => ?_) (fun h126 => ?_)
    · refine (ys4 130 (v := .ref (s + 0)) rfl rfl rfl rfl).trans ?_
      refine (ygr 133 rfl (zFS.tag hC.1 (j := 0) (by decide) rfl) rfl (hC.2.1 1 (by decide))).trans ?_
      refine (ys4 134 (v := .int (nI k)) rfl rfl rfl rfl).trans ?_
      refine (ylx 135 (N := 6) rfl (j := k) rfl (Or.inl (zFS.tag hC.1 (j := 2) (by decide) rfl)) (zFS.ni hC.1 (j := 2) (by decide) rfl) (by omega) (by decide) rfl (zfl_at (j := 2) (by decide))).trans ?_
      refine (ys4 136 (v := .int ((T 3 ((6 * k) + (zsf (S 3 k) 6))))) rfl rfl rfl rfl).trans ?_
      refine ys18_1 139 rfl rfl (fun h136 => ?_) (fun h136 => ?_)
      · refine (ys4 140 (v := .ref (s + 0)) rfl rfl rfl rfl).trans ?_
        refine (ygr 143 rfl (zFS.tag hC.1 (j := 0) (by decide) rfl) rfl (hC.2.1 2 (by decide))).trans ?_
        refine (ys4 144 (v := .int (nI k)) rfl rfl rfl rfl).trans ?_
        refine (ys4 145 (v := .ref (s + 0)) rfl rfl rfl rfl).trans ?_
        refine (ygr 148 rfl (zFS.tag hC.1 (j := 0) (by decide) rfl) rfl (hC.2.1 2 (by decide))).trans ?_
        refine (ys4 149 (v := .int (nI k)) rfl rfl rfl rfl).trans ?_
        refine (ylx 150 (N := 6) rfl (j := k) rfl (Or.inl (zFS.tag hC.1 (j := 3) (by decide) rfl)) (zFS.ni hC.1 (j := 3) (by decide) rfl) (by omega) (by decide) rfl (Eq.trans (zfl_at (j := 3) (by decide)) (show (S2 3 k) = (nI (zsf (S2 3 k) 6)) from ((hIS2.2.1 k hk).2.eq (by decide))))).trans ?_
        refine (ys1 151 (x := 1) rfl rfl rfl).trans ?_
        refine (ys7_0 152 rfl rfl).trans ?_
        rw [show ((nI (zsf (S2 3 k) 6)) + 1) = nI ((zsf (S2 3 k) 6) + 1) from nI_add (zsf (S2 3 k) 6) 1]
        refine (ys4 153 (v := .ref (s + 0)) rfl rfl rfl rfl).trans ?_
        refine (ygr 156 rfl (zFS.tag hC.1 (j := 0) (by decide) rfl) rfl hC.2.2.1).trans ?_
        refine (ygr 159 rfl hC.2.2.2.2.2.1 rfl hC.2.2.2.2.2.2.1).trans ?_
        refine (ygr 162 rfl (zFS.tag hC.2.2.2.1 (j := 0) (by decide) rfl) rfl (hC.2.2.2.2.1 0 (by decide))).trans ?_
        refine (ys4 163 (v := .int (nI k)) rfl rfl rfl rfl).trans ?_
        refine (ylx 164 (N := 6) rfl (j := k) rfl (Or.inl (zFS.tag hC.2.2.2.1 (j := 1) (by decide) rfl)) (zFS.ni hC.2.2.2.1 (j := 1) (by decide) rfl) (by omega) (by decide) rfl (zst_rd hC (j := 1) (by decide))).trans ?_
        refine (ys9 165 rfl (rrem (a := zsf (S2 3 k) 6 + 1) (by have := zsf_lt (i := S2 3 k) (n := 6) (by decide) (by decide); omega) (i_nlt h13) (hI.2.1 k hk).1).1 rfl).trans ?_
        refine (ywx 166 (N := 6) rfl (j := k) rfl (zFS.tag hC.1 (j := 3) (by decide) rfl) (zFS.k0 hC.1 (j := 3)) (zFS.ni hC.1 (j := 3) (by decide) rfl) (by omega) (by decide) rfl (zfl_up (j := 3) (by decide))).trans ?_
        generalize hS3 : zup S2 3 k (((nI ((zsf (S2 3 k) 6) + 1)) - (nI ((zsf (S2 3 k) 6) + 1)) / (T 1 k) * (T 1 k))) = S3
        have hIS3 : zIN T S3 := by rw [← hS3]; exact zIN_n hIS2 (rrem (a := zsf (S2 3 k) 6 + 1) (by have := zsf_lt (i := S2 3 k) (n := 6) (by decide) (by decide); omega) (i_nlt h13) (hI.2.1 k hk).1).2
        refine (ys36v rfl rfl).trans ?_
        rw [show rgl S T k = S3 from by subst hS3 hS2 hS1; unfold rgl; (try dsimp only); rw [if_pos h13, if_pos h126, if_pos h136]]; (first | done | rfl)
      · refine (ys36v rfl rfl).trans ?_
        rw [show rgl S T k = S2 from by subst hS2 hS1; unfold rgl; (try dsimp only); rw [if_pos h13, if_pos h126, if_neg h136]]; (first | done | rfl)
    · refine (ys36v rfl rfl).trans ?_
      rw [show rgl S T k = S2 from by subst hS2 hS1; unfold rgl; (try dsimp only); rw [if_pos h13, if_neg h126]]; (first | done | rfl)
  · refine (ys36v rfl rfl).trans ?_
    rw [show rgl S T k = S from by unfold rgl; (try dsimp only); rw [if_neg h13]]; (first | done | rfl)

def raim (S : zFn) (T : zFn) (p : Nat) : zFn :=
  let S1 := zup S 8 p ((S 1 (zsf (T 5 p) 6)))
  let S2 := zup S1 9 p ((S1 2 (zsf (T 5 p) 6)))
  S2

theorem c_aim {d : Nat} {x t s : Nat} {S T J : zFn} {μ : zM} (hC : zSC μ x t s J T) {p : Nat} (hp : p < 20) (hI : zIN T S) : zden zcds (d + 1) 197 [.ref (s + 0), .int (nI p)] (zwi μ (zfl J s 22 S)) = some (0, none, 0, 0, zwi μ (zfl J s 22 ((raim S T p)))) := by
  refine (zd_in (d := d + 0) (cd := zc197) (nL := 2) (L := [(0, .ref (s + 0)), (1, .int (nI p))]) rfl (Nat.le_of_ble_eq_true rfl) rfl).trans ?_
  refine (ys4 1 (v := .ref (s + 0)) rfl rfl rfl rfl).trans ?_
  refine (ygr 4 rfl (zFS.tag hC.1 (j := 0) (by decide) rfl) rfl (hC.2.1 7 (by decide))).trans ?_
  refine (ys4 5 (v := .int (nI p)) rfl rfl rfl rfl).trans ?_
  refine (ys4 6 (v := .ref (s + 0)) rfl rfl rfl rfl).trans ?_
  refine (ygr 9 rfl (zFS.tag hC.1 (j := 0) (by decide) rfl) rfl (hC.2.1 0 (by decide))).trans ?_
  refine (ys4 10 (v := .ref (s + 0)) rfl rfl rfl rfl).trans ?_
  refine (ygr 13 rfl (zFS.tag hC.1 (j := 0) (by decide) rfl) rfl hC.2.2.1).trans ?_
  refine (ygr 16 rfl hC.2.2.2.2.2.1 rfl hC.2.2.2.2.2.2.1).trans ?_
  refine (ygr 19 rfl (zFS.tag hC.2.2.2.1 (j := 0) (by decide) rfl) rfl (hC.2.2.2.2.1 4 (by decide))).trans ?_
  refine (ys4 20 (v := .int (nI p)) rfl rfl rfl rfl).trans ?_
  refine (ylx 21 (N := 20) rfl (j := p) rfl (Or.inl (zFS.tag hC.2.2.2.1 (j := 5) (by decide) rfl)) (zFS.ni hC.2.2.2.1 (j := 5) (by decide) rfl) (by omega) (by decide) rfl (Eq.trans (zst_rd hC (j := 5) (by decide)) (show (T 5 p) = (nI (zsf (T 5 p) 6)) from ((hI.1 p hp).1.eq (by decide))))).trans ?_
  refine (ylx 22 (N := 6) rfl (j := (zsf (T 5 p) 6)) rfl (Or.inl (zFS.tag hC.1 (j := 1) (by decide) rfl)) (zFS.ni hC.1 (j := 1) (by decide) rfl) (zsf_lt (by decide) (by decide)) (by decide) rfl (zfl_at (j := 1) (by decide))).trans ?_
  refine (ywx 23 (N := 20) rfl (j := p) rfl (zFS.tag hC.1 (j := 8) (by decide) rfl) (zFS.k0 hC.1 (j := 8)) (zFS.ni hC.1 (j := 8) (by decide) rfl) (by omega) (by decide) rfl (zfl_up (j := 8) (by decide))).trans ?_
  generalize hS1 : zup S 8 p ((S 1 (zsf (T 5 p) 6))) = S1
  have hIS1 : zIN T S1 := by rw [← hS1]; exact zIN_u hI (by decide)
  refine (ys4 24 (v := .ref (s + 0)) rfl rfl rfl rfl).trans ?_
  refine (ygr 27 rfl (zFS.tag hC.1 (j := 0) (by decide) rfl) rfl (hC.2.1 8 (by decide))).trans ?_
  refine (ys4 28 (v := .int (nI p)) rfl rfl rfl rfl).trans ?_
  refine (ys4 29 (v := .ref (s + 0)) rfl rfl rfl rfl).trans ?_
  refine (ygr 32 rfl (zFS.tag hC.1 (j := 0) (by decide) rfl) rfl (hC.2.1 1 (by decide))).trans ?_
  refine (ys4 33 (v := .ref (s + 0)) rfl rfl rfl rfl).trans ?_
  refine (ygr 36 rfl (zFS.tag hC.1 (j := 0) (by decide) rfl) rfl hC.2.2.1).trans ?_
  refine (ygr 39 rfl hC.2.2.2.2.2.1 rfl hC.2.2.2.2.2.2.1).trans ?_
  refine (ygr 42 rfl (zFS.tag hC.2.2.2.1 (j := 0) (by decide) rfl) rfl (hC.2.2.2.2.1 4 (by decide))).trans ?_
  refine (ys4 43 (v := .int (nI p)) rfl rfl rfl rfl).trans ?_
  refine (ylx 44 (N := 20) rfl (j := p) rfl (Or.inl (zFS.tag hC.2.2.2.1 (j := 5) (by decide) rfl)) (zFS.ni hC.2.2.2.1 (j := 5) (by decide) rfl) (by omega) (by decide) rfl (Eq.trans (zst_rd hC (j := 5) (by decide)) (show (T 5 p) = (nI (zsf (T 5 p) 6)) from ((hI.1 p hp).1.eq (by decide))))).trans ?_
  refine (ylx 45 (N := 6) rfl (j := (zsf (T 5 p) 6)) rfl (Or.inl (zFS.tag hC.1 (j := 2) (by decide) rfl)) (zFS.ni hC.1 (j := 2) (by decide) rfl) (zsf_lt (by decide) (by decide)) (by decide) rfl (zfl_at (j := 2) (by decide))).trans ?_
  refine (ywx 46 (N := 20) rfl (j := p) rfl (zFS.tag hC.1 (j := 9) (by decide) rfl) (zFS.k0 hC.1 (j := 9)) (zFS.ni hC.1 (j := 9) (by decide) rfl) (by omega) (by decide) rfl (zfl_up (j := 9) (by decide))).trans ?_
  generalize hS2 : zup S1 9 p ((S1 2 (zsf (T 5 p) 6))) = S2
  have hIS2 : zIN T S2 := by rw [← hS2]; exact zIN_u hIS1 (by decide)
  refine (ys36v rfl rfl).trans ?_
  rw [show raim S T p = S2 from by subst hS2 hS1; unfold raim; (try dsimp only); first | done | rfl]; (first | done | rfl)

theorem raim_I {S T : zFn} {p : Nat} (h : zIN T S) : zIN T (raim S T p) := by
  unfold raim
  dsimp only
  exact zIN_u (zIN_u h (by decide)) (by decide)

def rsu (S : zFn) (T : zFn) (k : Nat) (p : Nat) : zFn :=
  let S1 := zup S 4 p (1)
  let S2 := zup S1 6 p ((S1 1 (zsf (S1 5 p) 6)))
  let S3 := zup S2 7 p ((S2 2 (zsf (S2 5 p) 6)))
  let S4 := raim S3 T p
  let S5 := zup S4 10 p (0)
  let S6 := zup S5 11 p (nI k)
  let S7 := zup S6 12 p ((S6 18 k))
  let S8 := zup S7 21 k (((S7 21 k) ||| (zbin 6 (1) (nI p))))
  let S9 := zup S8 19 k (((S8 19 k) + 1))
  S9

theorem c_su {d : Nat} {x t s : Nat} {S T J : zFn} {μ : zM} (hC : zSC μ x t s J T) {k : Nat} (hk : k < 12) {p : Nat} (hp : p < 20) (hI : zIN T S) : zden zcds (d + 2) 196 [.ref (s + 0), .int (nI k), .int (nI p)] (zwi μ (zfl J s 22 S)) = some (0, none, 0, 0, zwi μ (zfl J s 22 ((rsu S T k p)))) := by
  refine (zd_in (d := d + 1) (cd := zc196) (nL := 3) (L := [(0, .ref (s + 0)), (1, .int (nI k)), (2, .int (nI p))]) rfl (Nat.le_of_ble_eq_true rfl) rfl).trans ?_
  refine (ys4 1 (v := .ref (s + 0)) rfl rfl rfl rfl).trans ?_
  refine (ygr 4 rfl (zFS.tag hC.1 (j := 0) (by decide) rfl) rfl (hC.2.1 3 (by decide))).trans ?_
  refine (ys4 5 (v := .int (nI p)) rfl rfl rfl rfl).trans ?_
  refine (ys1 6 (x := 1) rfl rfl rfl).trans ?_
  refine (ywx 7 (N := 20) rfl (j := p) rfl (zFS.tag hC.1 (j := 4) (by decide) rfl) (zFS.k0 hC.1 (j := 4)) (zFS.ni hC.1 (j := 4) (by decide) rfl) (by omega) (by decide) rfl (zfl_up (j := 4) (by decide))).trans ?_
  generalize hS1 : zup S 4 p (1) = S1
  have hIS1 : zIN T S1 := by rw [← hS1]; exact zIN_u hI (by decide)
  refine (ys4 8 (v := .ref (s + 0)) rfl rfl rfl rfl).trans ?_
  refine (ygr 11 rfl (zFS.tag hC.1 (j := 0) (by decide) rfl) rfl (hC.2.1 5 (by decide))).trans ?_
  refine (ys4 12 (v := .int (nI p)) rfl rfl rfl rfl).trans ?_
  refine (ys4 13 (v := .ref (s + 0)) rfl rfl rfl rfl).trans ?_
  refine (ygr 16 rfl (zFS.tag hC.1 (j := 0) (by decide) rfl) rfl (hC.2.1 0 (by decide))).trans ?_
  refine (ys4 17 (v := .ref (s + 0)) rfl rfl rfl rfl).trans ?_
  refine (ygr 20 rfl (zFS.tag hC.1 (j := 0) (by decide) rfl) rfl (hC.2.1 4 (by decide))).trans ?_
  refine (ys4 21 (v := .int (nI p)) rfl rfl rfl rfl).trans ?_
  refine (ylx 22 (N := 20) rfl (j := p) rfl (Or.inl (zFS.tag hC.1 (j := 5) (by decide) rfl)) (zFS.ni hC.1 (j := 5) (by decide) rfl) (by omega) (by decide) rfl (Eq.trans (zfl_at (j := 5) (by decide)) (show (S1 5 p) = (nI (zsf (S1 5 p) 6)) from ((hIS1.1 p hp).2.1.eq (by decide))))).trans ?_
  refine (ylx 23 (N := 6) rfl (j := (zsf (S1 5 p) 6)) rfl (Or.inl (zFS.tag hC.1 (j := 1) (by decide) rfl)) (zFS.ni hC.1 (j := 1) (by decide) rfl) (zsf_lt (by decide) (by decide)) (by decide) rfl (zfl_at (j := 1) (by decide))).trans ?_
  refine (ywx 24 (N := 20) rfl (j := p) rfl (zFS.tag hC.1 (j := 6) (by decide) rfl) (zFS.k0 hC.1 (j := 6)) (zFS.ni hC.1 (j := 6) (by decide) rfl) (by omega) (by decide) rfl (zfl_up (j := 6) (by decide))).trans ?_
  generalize hS2 : zup S1 6 p ((S1 1 (zsf (S1 5 p) 6))) = S2
  have hIS2 : zIN T S2 := by rw [← hS2]; exact zIN_u hIS1 (by decide)
  refine (ys4 25 (v := .ref (s + 0)) rfl rfl rfl rfl).trans ?_
  refine (ygr 28 rfl (zFS.tag hC.1 (j := 0) (by decide) rfl) rfl (hC.2.1 6 (by decide))).trans ?_
  refine (ys4 29 (v := .int (nI p)) rfl rfl rfl rfl).trans ?_
  refine (ys4 30 (v := .ref (s + 0)) rfl rfl rfl rfl).trans ?_
  refine (ygr 33 rfl (zFS.tag hC.1 (j := 0) (by decide) rfl) rfl (hC.2.1 1 (by decide))).trans ?_
  refine (ys4 34 (v := .ref (s + 0)) rfl rfl rfl rfl).trans ?_
  refine (ygr 37 rfl (zFS.tag hC.1 (j := 0) (by decide) rfl) rfl (hC.2.1 4 (by decide))).trans ?_
  refine (ys4 38 (v := .int (nI p)) rfl rfl rfl rfl).trans ?_
  refine (ylx 39 (N := 20) rfl (j := p) rfl (Or.inl (zFS.tag hC.1 (j := 5) (by decide) rfl)) (zFS.ni hC.1 (j := 5) (by decide) rfl) (by omega) (by decide) rfl (Eq.trans (zfl_at (j := 5) (by decide)) (show (S2 5 p) = (nI (zsf (S2 5 p) 6)) from ((hIS2.1 p hp).2.1.eq (by decide))))).trans ?_
  refine (ylx 40 (N := 6) rfl (j := (zsf (S2 5 p) 6)) rfl (Or.inl (zFS.tag hC.1 (j := 2) (by decide) rfl)) (zFS.ni hC.1 (j := 2) (by decide) rfl) (zsf_lt (by decide) (by decide)) (by decide) rfl (zfl_at (j := 2) (by decide))).trans ?_
  refine (ywx 41 (N := 20) rfl (j := p) rfl (zFS.tag hC.1 (j := 7) (by decide) rfl) (zFS.k0 hC.1 (j := 7)) (zFS.ni hC.1 (j := 7) (by decide) rfl) (by omega) (by decide) rfl (zfl_up (j := 7) (by decide))).trans ?_
  generalize hS3 : zup S2 7 p ((S2 2 (zsf (S2 5 p) 6))) = S3
  have hIS3 : zIN T S3 := by rw [← hS3]; exact zIN_u hIS2 (by decide)
  refine (ys4 42 (v := .ref (s + 0)) rfl rfl rfl rfl).trans ?_
  refine (ys4 43 (v := .int (nI p)) rfl rfl rfl rfl).trans ?_
  refine (yc2 46 rfl rfl (Nat.le_of_ble_eq_true rfl) (Or.inr (by show ztg (zwi _ _) _ = _; rw [ztg_wi]; exact (zFS.tag hC.1 (j := 0) (by decide) rfl))) rfl rfl (c_aim hC hp hIS3)).trans ?_
  generalize hS4 : raim S3 T p = S4
  have hIS4 : zIN T S4 := by rw [← hS4]; exact raim_I hIS3
  refine (ys4 47 (v := .ref (s + 0)) rfl rfl rfl rfl).trans ?_
  refine (ygr 50 rfl (zFS.tag hC.1 (j := 0) (by decide) rfl) rfl (hC.2.1 9 (by decide))).trans ?_
  refine (ys4 51 (v := .int (nI p)) rfl rfl rfl rfl).trans ?_
  refine (ys1 52 (x := 0) rfl rfl rfl).trans ?_
  refine (ywx 53 (N := 20) rfl (j := p) rfl (zFS.tag hC.1 (j := 10) (by decide) rfl) (zFS.k0 hC.1 (j := 10)) (zFS.ni hC.1 (j := 10) (by decide) rfl) (by omega) (by decide) rfl (zfl_up (j := 10) (by decide))).trans ?_
  generalize hS5 : zup S4 10 p (0) = S5
  have hIS5 : zIN T S5 := by rw [← hS5]; exact zIN_u hIS4 (by decide)
  refine (ys4 54 (v := .ref (s + 0)) rfl rfl rfl rfl).trans ?_
  refine (ygr 57 rfl (zFS.tag hC.1 (j := 0) (by decide) rfl) rfl (hC.2.1 10 (by decide))).trans ?_
  refine (ys4 58 (v := .int (nI p)) rfl rfl rfl rfl).trans ?_
  refine (ys4 59 (v := .int (nI k)) rfl rfl rfl rfl).trans ?_
  refine (ywx 60 (N := 20) rfl (j := p) rfl (zFS.tag hC.1 (j := 11) (by decide) rfl) (zFS.k0 hC.1 (j := 11)) (zFS.ni hC.1 (j := 11) (by decide) rfl) (by omega) (by decide) rfl (zfl_up (j := 11) (by decide))).trans ?_
  generalize hS6 : zup S5 11 p (nI k) = S6
  have hIS6 : zIN T S6 := by rw [← hS6]; exact zIN_k hIS5 (zin_nI hk (by decide))
  refine (ys4 61 (v := .ref (s + 0)) rfl rfl rfl rfl).trans ?_
  refine (ygr 64 rfl (zFS.tag hC.1 (j := 0) (by decide) rfl) rfl (hC.2.1 11 (by decide))).trans ?_
  refine (ys4 65 (v := .int (nI p)) rfl rfl rfl rfl).trans ?_
  refine (ys4 66 (v := .ref (s + 0)) rfl rfl rfl rfl).trans ?_
  refine (ygr 69 rfl (zFS.tag hC.1 (j := 0) (by decide) rfl) rfl (hC.2.1 17 (by decide))).trans ?_
  refine (ys4 70 (v := .int (nI k)) rfl rfl rfl rfl).trans ?_
  refine (ylx 71 (N := 12) rfl (j := k) rfl (Or.inl (zFS.tag hC.1 (j := 18) (by decide) rfl)) (zFS.ni hC.1 (j := 18) (by decide) rfl) (by omega) (by decide) rfl (zfl_at (j := 18) (by decide))).trans ?_
  refine (ywx 72 (N := 20) rfl (j := p) rfl (zFS.tag hC.1 (j := 12) (by decide) rfl) (zFS.k0 hC.1 (j := 12)) (zFS.ni hC.1 (j := 12) (by decide) rfl) (by omega) (by decide) rfl (zfl_up (j := 12) (by decide))).trans ?_
  generalize hS7 : zup S6 12 p ((S6 18 k)) = S7
  have hIS7 : zIN T S7 := by rw [← hS7]; exact zIN_u hIS6 (by decide)
  refine (ys4 73 (v := .ref (s + 0)) rfl rfl rfl rfl).trans ?_
  refine (ygr 76 rfl (zFS.tag hC.1 (j := 0) (by decide) rfl) rfl (hC.2.1 20 (by decide))).trans ?_
  refine (ys4 77 (v := .int (nI k)) rfl rfl rfl rfl).trans ?_
  refine (ys15 78 rfl (Nat.le_of_ble_eq_true rfl) (Nat.le_of_ble_eq_true rfl) rfl).trans ?_
  refine (ylx 79 (N := 12) rfl (j := k) rfl (Or.inl (zFS.tag hC.1 (j := 21) (by decide) rfl)) (zFS.ni hC.1 (j := 21) (by decide) rfl) (by omega) (by decide) rfl (zfl_at (j := 21) (by decide))).trans ?_
  refine (ys1 80 (x := 1) rfl rfl rfl).trans ?_
  refine (ys4 81 (v := .int (nI p)) rfl rfl rfl rfl).trans ?_
  refine (ys7 82 (b := 6) rfl rfl).trans ?_
  refine (ys7_4 83 rfl rfl).trans ?_
  refine (ywx 84 (N := 12) rfl (j := k) rfl (zFS.tag hC.1 (j := 21) (by decide) rfl) (zFS.k0 hC.1 (j := 21)) (zFS.ni hC.1 (j := 21) (by decide) rfl) (by omega) (by decide) rfl (zfl_up (j := 21) (by decide))).trans ?_
  generalize hS8 : zup S7 21 k (((S7 21 k) ||| (zbin 6 (1) (nI p)))) = S8
  have hIS8 : zIN T S8 := by rw [← hS8]; exact zIN_u hIS7 (by decide)
  refine (ys4 85 (v := .ref (s + 0)) rfl rfl rfl rfl).trans ?_
  refine (ygr 88 rfl (zFS.tag hC.1 (j := 0) (by decide) rfl) rfl (hC.2.1 18 (by decide))).trans ?_
  refine (ys4 89 (v := .int (nI k)) rfl rfl rfl rfl).trans ?_
  refine (ys15 90 rfl (Nat.le_of_ble_eq_true rfl) (Nat.le_of_ble_eq_true rfl) rfl).trans ?_
  refine (ylx 91 (N := 12) rfl (j := k) rfl (Or.inl (zFS.tag hC.1 (j := 19) (by decide) rfl)) (zFS.ni hC.1 (j := 19) (by decide) rfl) (by omega) (by decide) rfl (zfl_at (j := 19) (by decide))).trans ?_
  refine (ys1 92 (x := 1) rfl rfl rfl).trans ?_
  refine (ys7_0 93 rfl rfl).trans ?_
  refine (ywx 94 (N := 12) rfl (j := k) rfl (zFS.tag hC.1 (j := 19) (by decide) rfl) (zFS.k0 hC.1 (j := 19)) (zFS.ni hC.1 (j := 19) (by decide) rfl) (by omega) (by decide) rfl (zfl_up (j := 19) (by decide))).trans ?_
  generalize hS9 : zup S8 19 k (((S8 19 k) + 1)) = S9
  have hIS9 : zIN T S9 := by rw [← hS9]; exact zIN_u hIS8 (by decide)
  refine (ys36v rfl rfl).trans ?_
  rw [show rsu S T k p = S9 from by subst hS9 hS8 hS7 hS6 hS5 hS4 hS3 hS2 hS1; unfold rsu; (try dsimp only); first | done | rfl]; (first | done | rfl)

def rla (S : zFn) (T : zFn) (p : Nat) : zFn :=
  let S1 := zup S 4 p (0)
  let S2 := zup S1 5 p ((T 5 p))
  let S3 := zup S2 10 p (0)
  if (ria S3 T (zsf (S 11 p) 12)) = 0 then
    if (S3 18 (zsf (S 11 p) 12)) = (S3 12 p) then
      let S4 := zup S3 17 (zsf (S 11 p) 12) ((T 5 p))
      let S5 := zup S4 18 (zsf (S 11 p) 12) (((S4 18 (zsf (S 11 p) 12)) + 1))
      let S6 := zup S5 21 (zsf (S 11 p) 12) (0)
      if (ria S6 T (zsf (S 11 p) 12)) = 0 then
        S6
      else
        let S7 := zup S6 20 (zsf (S 11 p) 12) ((S6 0 0))
        S7
    else
      let S8 := zup S3 0 1 (((S3 0 1) + 1))
      S8
  else
    let S9 := zup S3 0 1 (((S3 0 1) + 1))
    S9

theorem c_la {d : Nat} {x t s : Nat} {S T J : zFn} {μ : zM} (hC : zSC μ x t s J T) {p : Nat} (hp : p < 20) (hI : zIN T S) : zden zcds (d + 2) 198 [.ref (s + 0), .int (nI p)] (zwi μ (zfl J s 22 S)) = some (0, none, 0, 0, zwi μ (zfl J s 22 ((rla S T p)))) := by
  refine (zd_in (d := d + 1) (cd := zc198) (nL := 3) (L := [(0, .ref (s + 0)), (1, .int (nI p))]) rfl (Nat.le_of_ble_eq_true rfl) rfl).trans ?_
  refine (ys4 1 (v := .ref (s + 0)) rfl rfl rfl rfl).trans ?_
  refine (ygr 4 rfl (zFS.tag hC.1 (j := 0) (by decide) rfl) rfl (hC.2.1 10 (by decide))).trans ?_
  refine (ys4 5 (v := .int (nI p)) rfl rfl rfl rfl).trans ?_
  refine (ylx 6 (N := 20) rfl (j := p) rfl (Or.inl (zFS.tag hC.1 (j := 11) (by decide) rfl)) (zFS.ni hC.1 (j := 11) (by decide) rfl) (by omega) (by decide) rfl (Eq.trans (zfl_at (j := 11) (by decide)) (show (S 11 p) = (nI (zsf (S 11 p) 12)) from ((hI.1 p hp).2.2.eq (by decide))))).trans ?_
  refine (ys5 7 (L2 := [(2, .int ((nI (zsf (S 11 p) 12)))), (0, .ref (s + 0)), (1, .int (nI p))]) rfl rfl rfl rfl).trans ?_
  refine (ys4 8 (v := .ref (s + 0)) rfl rfl rfl rfl).trans ?_
  refine (ygr 11 rfl (zFS.tag hC.1 (j := 0) (by decide) rfl) rfl (hC.2.1 3 (by decide))).trans ?_
  refine (ys4 12 (v := .int (nI p)) rfl rfl rfl rfl).trans ?_
  refine (ys1 13 (x := 0) rfl rfl rfl).trans ?_
  refine (ywx 14 (N := 20) rfl (j := p) rfl (zFS.tag hC.1 (j := 4) (by decide) rfl) (zFS.k0 hC.1 (j := 4)) (zFS.ni hC.1 (j := 4) (by decide) rfl) (by omega) (by decide) rfl (zfl_up (j := 4) (by decide))).trans ?_
  generalize hS1 : zup S 4 p (0) = S1
  have hIS1 : zIN T S1 := by rw [← hS1]; exact zIN_u hI (by decide)
  refine (ys4 15 (v := .ref (s + 0)) rfl rfl rfl rfl).trans ?_
  refine (ygr 18 rfl (zFS.tag hC.1 (j := 0) (by decide) rfl) rfl (hC.2.1 4 (by decide))).trans ?_
  refine (ys4 19 (v := .int (nI p)) rfl rfl rfl rfl).trans ?_
  refine (ys4 20 (v := .ref (s + 0)) rfl rfl rfl rfl).trans ?_
  refine (ygr 23 rfl (zFS.tag hC.1 (j := 0) (by decide) rfl) rfl hC.2.2.1).trans ?_
  refine (ygr 26 rfl hC.2.2.2.2.2.1 rfl hC.2.2.2.2.2.2.1).trans ?_
  refine (ygr 29 rfl (zFS.tag hC.2.2.2.1 (j := 0) (by decide) rfl) rfl (hC.2.2.2.2.1 4 (by decide))).trans ?_
  refine (ys4 30 (v := .int (nI p)) rfl rfl rfl rfl).trans ?_
  refine (ylx 31 (N := 20) rfl (j := p) rfl (Or.inl (zFS.tag hC.2.2.2.1 (j := 5) (by decide) rfl)) (zFS.ni hC.2.2.2.1 (j := 5) (by decide) rfl) (by omega) (by decide) rfl (zst_rd hC (j := 5) (by decide))).trans ?_
  refine (ywx 32 (N := 20) rfl (j := p) rfl (zFS.tag hC.1 (j := 5) (by decide) rfl) (zFS.k0 hC.1 (j := 5)) (zFS.ni hC.1 (j := 5) (by decide) rfl) (by omega) (by decide) rfl (zfl_up (j := 5) (by decide))).trans ?_
  generalize hS2 : zup S1 5 p ((T 5 p)) = S2
  have hIS2 : zIN T S2 := by rw [← hS2]; exact zIN_c hIS1 (hI.1 p hp).1
  refine (ys4 33 (v := .ref (s + 0)) rfl rfl rfl rfl).trans ?_
  refine (ygr 36 rfl (zFS.tag hC.1 (j := 0) (by decide) rfl) rfl (hC.2.1 9 (by decide))).trans ?_
  refine (ys4 37 (v := .int (nI p)) rfl rfl rfl rfl).trans ?_
  refine (ys1 38 (x := 0) rfl rfl rfl).trans ?_
  refine (ywx 39 (N := 20) rfl (j := p) rfl (zFS.tag hC.1 (j := 10) (by decide) rfl) (zFS.k0 hC.1 (j := 10)) (zFS.ni hC.1 (j := 10) (by decide) rfl) (by omega) (by decide) rfl (zfl_up (j := 10) (by decide))).trans ?_
  generalize hS3 : zup S2 10 p (0) = S3
  have hIS3 : zIN T S3 := by rw [← hS3]; exact zIN_u hIS2 (by decide)
  refine (ys4 40 (v := .ref (s + 0)) rfl rfl rfl rfl).trans ?_
  refine (ys4 41 (v := .int ((nI (zsf (S 11 p) 12)))) rfl rfl rfl rfl).trans ?_
  refine (yc2 44 rfl rfl (Nat.le_of_ble_eq_true rfl) (Or.inr (by show ztg (zwi _ _) _ = _; rw [ztg_wi]; exact (zFS.tag hC.1 (j := 0) (by decide) rfl))) rfl rfl (c_ia hC (zsf_lt (by decide) (by decide)))).trans ?_
  refine ys17_1 47 rfl rfl (fun h44 => ?_) (fun h44 => ?_)
  · refine (ys4 48 (v := .ref (s + 0)) rfl rfl rfl rfl).trans ?_
    refine (ygr 51 rfl (zFS.tag hC.1 (j := 0) (by decide) rfl) rfl (hC.2.1 17 (by decide))).trans ?_
    refine (ys4 52 (v := .int ((nI (zsf (S 11 p) 12)))) rfl rfl rfl rfl).trans ?_
    refine (ylx 53 (N := 12) rfl (j := (zsf (S 11 p) 12)) rfl (Or.inl (zFS.tag hC.1 (j := 18) (by decide) rfl)) (zFS.ni hC.1 (j := 18) (by decide) rfl) (zsf_lt (by decide) (by decide)) (by decide) rfl (zfl_at (j := 18) (by decide))).trans ?_
    refine (ys4 54 (v := .ref (s + 0)) rfl rfl rfl rfl).trans ?_
    refine (ygr 57 rfl (zFS.tag hC.1 (j := 0) (by decide) rfl) rfl (hC.2.1 11 (by decide))).trans ?_
    refine (ys4 58 (v := .int (nI p)) rfl rfl rfl rfl).trans ?_
    refine (ylx 59 (N := 20) rfl (j := p) rfl (Or.inl (zFS.tag hC.1 (j := 12) (by decide) rfl)) (zFS.ni hC.1 (j := 12) (by decide) rfl) (by omega) (by decide) rfl (zfl_at (j := 12) (by decide))).trans ?_
    refine ys18_0 62 rfl rfl (fun h59 => ?_) (fun h59 => ?_)
    · refine (ys4 74 (v := .ref (s + 0)) rfl rfl rfl rfl).trans ?_
      refine (ygr 77 rfl (zFS.tag hC.1 (j := 0) (by decide) rfl) rfl (hC.2.1 16 (by decide))).trans ?_
      refine (ys4 78 (v := .int ((nI (zsf (S 11 p) 12)))) rfl rfl rfl rfl).trans ?_
      refine (ys4 79 (v := .ref (s + 0)) rfl rfl rfl rfl).trans ?_
      refine (ygr 82 rfl (zFS.tag hC.1 (j := 0) (by decide) rfl) rfl hC.2.2.1).trans ?_
      refine (ygr 85 rfl hC.2.2.2.2.2.1 rfl hC.2.2.2.2.2.2.1).trans ?_
      refine (ygr 88 rfl (zFS.tag hC.2.2.2.1 (j := 0) (by decide) rfl) rfl (hC.2.2.2.2.1 4 (by decide))).trans ?_
      refine (ys4 89 (v := .int (nI p)) rfl rfl rfl rfl).trans ?_
      refine (ylx 90 (N := 20) rfl (j := p) rfl (Or.inl (zFS.tag hC.2.2.2.1 (j := 5) (by decide) rfl)) (zFS.ni hC.2.2.2.1 (j := 5) (by decide) rfl) (by omega) (by decide) rfl (zst_rd hC (j := 5) (by decide))).trans ?_
      refine (ywx 91 (N := 12) rfl (j := (zsf (S 11 p) 12)) rfl (zFS.tag hC.1 (j := 17) (by decide) rfl) (zFS.k0 hC.1 (j := 17)) (zFS.ni hC.1 (j := 17) (by decide) rfl) (zsf_lt (by decide) (by decide)) (by decide) rfl (zfl_up (j := 17) (by decide))).trans ?_
      generalize hS4 : zup S3 17 (zsf (S 11 p) 12) ((T 5 p)) = S4
      have hIS4 : zIN T S4 := by rw [← hS4]; exact zIN_u hIS3 (by decide)
      refine (ys4 92 (v := .ref (s + 0)) rfl rfl rfl rfl).trans ?_
      refine (ygr 95 rfl (zFS.tag hC.1 (j := 0) (by decide) rfl) rfl (hC.2.1 17 (by decide))).trans ?_
      refine (ys4 96 (v := .int ((nI (zsf (S 11 p) 12)))) rfl rfl rfl rfl).trans ?_
      refine (ys15 97 rfl (Nat.le_of_ble_eq_true rfl) (Nat.le_of_ble_eq_true rfl) rfl).trans ?_
      refine (ylx 98 (N := 12) rfl (j := (zsf (S 11 p) 12)) rfl (Or.inl (zFS.tag hC.1 (j := 18) (by decide) rfl)) (zFS.ni hC.1 (j := 18) (by decide) rfl) (zsf_lt (by decide) (by decide)) (by decide) rfl (zfl_at (j := 18) (by decide))).trans ?_
      refine (ys1 99 (x := 1) rfl rfl rfl).trans ?_
      refine (ys7_0 100 rfl rfl).trans ?_
      refine (ywx 101 (N := 12) rfl (j := (zsf (S 11 p) 12)) rfl (zFS.tag hC.1 (j := 18) (by decide) rfl) (zFS.k0 hC.1 (j := 18)) (zFS.ni hC.1 (j := 18) (by decide) rfl) (zsf_lt (by decide) (by decide)) (by decide) rfl (zfl_up (j := 18) (by decide))).trans ?_
      generalize hS5 : zup S4 18 (zsf (S 11 p) 12) (((S4 18 (zsf (S 11 p) 12)) + 1)) = S5
      have hIS5 : zIN T S5 := by rw [← hS5]; exact zIN_s hIS4 (((hIS4.2.2.1 _ (zsf_lt (by decide) (by decide))).lt (by have e := ria_ne h44; rw [← hS4, zup_ne' (by omega)]; exact e)).2)
      refine (ys4 102 (v := .ref (s + 0)) rfl rfl rfl rfl).trans ?_
      refine (ygr 105 rfl (zFS.tag hC.1 (j := 0) (by decide) rfl) rfl (hC.2.1 20 (by decide))).trans ?_
      refine (ys4 106 (v := .int ((nI (zsf (S 11 p) 12)))) rfl rfl rfl rfl).trans ?_
      refine (ys1 107 (x := 0) rfl rfl rfl).trans ?_
      refine (ywx 108 (N := 12) rfl (j := (zsf (S 11 p) 12)) rfl (zFS.tag hC.1 (j := 21) (by decide) rfl) (zFS.k0 hC.1 (j := 21)) (zFS.ni hC.1 (j := 21) (by decide) rfl) (zsf_lt (by decide) (by decide)) (by decide) rfl (zfl_up (j := 21) (by decide))).trans ?_
      generalize hS6 : zup S5 21 (zsf (S 11 p) 12) (0) = S6
      have hIS6 : zIN T S6 := by rw [← hS6]; exact zIN_u hIS5 (by decide)
      refine (ys4 109 (v := .ref (s + 0)) rfl rfl rfl rfl).trans ?_
      refine (ys4 110 (v := .int ((nI (zsf (S 11 p) 12)))) rfl rfl rfl rfl).trans ?_
      refine (yc2 113 rfl rfl (Nat.le_of_ble_eq_true rfl) (Or.inr (by show ztg (zwi _ _) _ = _; rw [ztg_wi]; exact (zFS.tag hC.1 (j := 0) (by decide) rfl))) rfl rfl (c_ia hC (zsf_lt (by decide) (by decide)))).trans ?_
      refine ys17_0 116 rfl rfl (fun h113 => ?_) (fun h113 => ?_)
      · refine (ys36v rfl rfl).trans ?_
        rw [show rla S T p = S6 from by subst hS6 hS5 hS4 hS3 hS2 hS1; unfold rla; (try dsimp only); rw [if_pos h44, if_pos h59, if_pos h113]]; (first | done | rfl)
      · refine (ys4 117 (v := .ref (s + 0)) rfl rfl rfl rfl).trans ?_
        refine (ygr 120 rfl (zFS.tag hC.1 (j := 0) (by decide) rfl) rfl (hC.2.1 19 (by decide))).trans ?_
        refine (ys4 121 (v := .int ((nI (zsf (S 11 p) 12)))) rfl rfl rfl rfl).trans ?_
        refine (ys4 122 (v := .ref (s + 0)) rfl rfl rfl rfl).trans ?_
        refine (yg 125 rfl (zFS.tag hC.1 (j := 0) (by decide) rfl) (zFS.ni hC.1 (j := 0) (by decide) rfl) (by decide) rfl (zfl_at (j := 0) (by decide))).trans ?_
        refine (ywx 126 (N := 12) rfl (j := (zsf (S 11 p) 12)) rfl (zFS.tag hC.1 (j := 20) (by decide) rfl) (zFS.k0 hC.1 (j := 20)) (zFS.ni hC.1 (j := 20) (by decide) rfl) (zsf_lt (by decide) (by decide)) (by decide) rfl (zfl_up (j := 20) (by decide))).trans ?_
        generalize hS7 : zup S6 20 (zsf (S 11 p) 12) ((S6 0 0)) = S7
        have hIS7 : zIN T S7 := by rw [← hS7]; exact zIN_u hIS6 (by decide)
        refine (ys36v rfl rfl).trans ?_
        rw [show rla S T p = S7 from by subst hS7 hS6 hS5 hS4 hS3 hS2 hS1; unfold rla; (try dsimp only); rw [if_pos h44, if_pos h59, if_neg h113]]; (first | done | rfl)
    · refine (ys4 63 (v := .ref (s + 0)) rfl rfl rfl rfl).trans ?_
      refine (ys14 64 rfl (Nat.le_of_ble_eq_true rfl) rfl).trans ?_
      refine (yg 67 rfl (zFS.tag hC.1 (j := 0) (by decide) rfl) (zFS.ni hC.1 (j := 0) (by decide) rfl) (by decide) rfl (zfl_at (j := 0) (by decide))).trans ?_
      refine (ys1 68 (x := 1) rfl rfl rfl).trans ?_
      refine (ys7_0 69 rfl rfl).trans ?_
      refine (yq 72 rfl (zFS.tag hC.1 (j := 0) (by decide) rfl) (zFS.k0 hC.1 (j := 0)) (zFS.ni hC.1 (j := 0) (by decide) rfl) (by decide) rfl (zfl_up (j := 0) (by decide))).trans ?_
      generalize hS8 : zup S3 0 1 (((S3 0 1) + 1)) = S8
      have hIS8 : zIN T S8 := by rw [← hS8]; exact zIN_u hIS3 (by decide)
      refine (ys36v rfl rfl).trans ?_
      rw [show rla S T p = S8 from by subst hS8 hS3 hS2 hS1; unfold rla; (try dsimp only); rw [if_pos h44, if_neg h59]]; (first | done | rfl)
  · refine (ys4 63 (v := .ref (s + 0)) rfl rfl rfl rfl).trans ?_
    refine (ys14 64 rfl (Nat.le_of_ble_eq_true rfl) rfl).trans ?_
    refine (yg 67 rfl (zFS.tag hC.1 (j := 0) (by decide) rfl) (zFS.ni hC.1 (j := 0) (by decide) rfl) (by decide) rfl (zfl_at (j := 0) (by decide))).trans ?_
    refine (ys1 68 (x := 1) rfl rfl rfl).trans ?_
    refine (ys7_0 69 rfl rfl).trans ?_
    refine (yq 72 rfl (zFS.tag hC.1 (j := 0) (by decide) rfl) (zFS.k0 hC.1 (j := 0)) (zFS.ni hC.1 (j := 0) (by decide) rfl) (by decide) rfl (zfl_up (j := 0) (by decide))).trans ?_
    generalize hS9 : zup S3 0 1 (((S3 0 1) + 1)) = S9
    have hIS9 : zIN T S9 := by rw [← hS9]; exact zIN_u hIS3 (by decide)
    refine (ys36v rfl rfl).trans ?_
    rw [show rla S T p = S9 from by subst hS9 hS3 hS2 hS1; unfold rla; (try dsimp only); rw [if_neg h44]]; (first | done | rfl)

