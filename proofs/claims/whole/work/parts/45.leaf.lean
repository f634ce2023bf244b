/-! LEAF METHODS: plain numbers. -/
def znear (x y b : Int32) : Int32 := if x < y then zmin (x + b) y else zmax (x - b) y
def zdst (x y u v : Int32) : Int32 := zmax (zabs (x - u)) (zabs (y - v))

theorem c_near {d : Nat} {x y b : Int32} {μ : zM} : zden zcds (d + 1) 26 [.int (x), .int (y), .int (b)] (μ) = some (0, some (.int (znear x y b)), 0, 0, μ) := by
  refine (zd_in (d := d + 0) (cd := zc26) (nL := 3) (L := [(0, .int (x)), (1, .int (y)), (2, .int (b))]) rfl (Nat.le_of_ble_eq_true rfl) rfl).trans ?_
  refine (ys4 1 (v := .int (x)) rfl rfl rfl rfl).trans ?_
  refine (ys4 2 (v := .int (y)) rfl rfl rfl rfl).trans ?_
  refine ys18_3 5 rfl rfl (fun h2 => ?_) (fun h2 => ?_)
  · refine (ys4 14 (v := .int (x)) rfl rfl rfl rfl).trans ?_
    refine (ys4 15 (v := .int (b)) rfl rfl rfl rfl).trans ?_
    refine (ys7_1 16 rfl rfl).trans ?_
    refine (ys4 17 (v := .int (y)) rfl rfl rfl rfl).trans ?_
    refine (ys41_1 20 rfl (Nat.le_of_ble_eq_true rfl) rfl).trans ?_
    refine (ys36 rfl rfl).trans ?_
    first | (rw [znear, if_pos (by assumption)]) | (rw [znear, if_neg (i_nlt (by assumption))]) | (rw [znear, if_pos (i_lt (by assumption))])
  · refine (ys4 6 (v := .int (x)) rfl rfl rfl rfl).trans ?_
    refine (ys4 7 (v := .int (b)) rfl rfl rfl rfl).trans ?_
    refine (ys7_0 8 rfl rfl).trans ?_
    refine (ys4 9 (v := .int (y)) rfl rfl rfl rfl).trans ?_
    refine (ys41_2 12 rfl (Nat.le_of_ble_eq_true rfl) rfl).trans ?_
    refine (ys36 rfl rfl).trans ?_
    first | (rw [znear, if_pos (by assumption)]) | (rw [znear, if_neg (i_nlt (by assumption))]) | (rw [znear, if_pos (i_lt (by assumption))])

theorem c_dst {d : Nat} {x y u v : Int32} {μ : zM} : zden zcds (d + 1) 25 [.int (x), .int (y), .int (u), .int (v)] (μ) = some (0, some (.int (zdst x y u v)), 0, 0, μ) := by
  refine (zd_in (d := d + 0) (cd := zc25) (nL := 4) (L := [(0, .int (x)), (1, .int (y)), (2, .int (u)), (3, .int (v))]) rfl (Nat.le_of_ble_eq_true rfl) rfl).trans ?_
  refine (ys4 1 (v := .int (x)) rfl rfl rfl rfl).trans ?_
  refine (ys4 2 (v := .int (u)) rfl rfl rfl rfl).trans ?_
  refine (ys7_1 3 rfl rfl).trans ?_
  refine (ys41_0 6 rfl (Nat.le_of_ble_eq_true rfl) rfl).trans ?_
  refine (ys4 7 (v := .int (y)) rfl rfl rfl rfl).trans ?_
  refine (ys4 8 (v := .int (v)) rfl rfl rfl rfl).trans ?_
  refine (ys7_1 9 rfl rfl).trans ?_
  refine (ys41_0 12 rfl (Nat.le_of_ble_eq_true rfl) rfl).trans ?_
  refine (ys41_1 15 rfl (Nat.le_of_ble_eq_true rfl) rfl).trans ?_
  refine (ys36 rfl rfl).trans ?_
  rfl

theorem c_safe {d : Nat} {x : Int32} {n : Nat} {μ : zM} (hn : n < 2 ^ 31) : zden zcds (d + 1) 28 [.int (x), .int (nI n)] (μ) = some (0, some (.int (nI (zsf x n))), 0, 0, μ) := by
  refine (zd_in (d := d + 0) (cd := zc28) (nL := 2) (L := [(0, .int (x)), (1, .int (nI n))]) rfl (Nat.le_of_ble_eq_true rfl) rfl).trans ?_
  refine (ys4 1 (v := .int (x)) rfl rfl rfl rfl).trans ?_
  refine ys17_2 4 rfl rfl (fun h1 => ?_) (fun h1 => ?_)
  · refine (ys1 14 (x := 0) rfl rfl rfl).trans ?_
    refine (ys36 rfl rfl).trans ?_
    first | (rw [← zsf_i hn (i_le (by assumption)) (i_lt (by assumption))]) | (rw [zsf, if_neg (fun hx => i_nle h1 hx.1)]; rfl) | (rw [zsf, if_neg (fun hx => i_nlt h6 hx.2)]; rfl)
  · refine (ys4 5 (v := .int (x)) rfl rfl rfl rfl).trans ?_
    refine (ys4 6 (v := .int (nI n)) rfl rfl rfl rfl).trans ?_
    refine ys18_3 9 rfl rfl (fun h6 => ?_) (fun h6 => ?_)
    · refine (ys1 14 (x := 0) rfl rfl rfl).trans ?_
      refine (ys36 rfl rfl).trans ?_
      first | (rw [← zsf_i hn (i_le (by assumption)) (i_lt (by assumption))]) | (rw [zsf, if_neg (fun hx => i_nle h1 hx.1)]; rfl) | (rw [zsf, if_neg (fun hx => i_nlt h6 hx.2)]; rfl)
    · refine (ys4 10 (v := .int (x)) rfl rfl rfl rfl).trans ?_
      refine (ys19 rfl).trans ?_
      refine (ys36 rfl rfl).trans ?_
      first | (rw [← zsf_i hn (i_le (by assumption)) (i_lt (by assumption))]) | (rw [zsf, if_neg (fun hx => i_nle h1 hx.1)]; rfl) | (rw [zsf, if_neg (fun hx => i_nlt h6 hx.2)]; rfl)

