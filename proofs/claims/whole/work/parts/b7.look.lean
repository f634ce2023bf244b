/-! THE REFERENCE'S SECOND LOOK AT ONE TOKEN -/
theorem l_ecf {d c sl : Nat} {x u : Nat} {X T J : zFn} {μ : zM} (hX : zMX μ x) (hU : zUU μ x u) {t : Nat} {k j z p : Nat} (hk : k < 12) (hj6 : j < 6) (hz20 : z ≤ 20) : ∀ (m i : Nat), (∃ i1, i ≤ i1 ∧ i1 < z ∧ T 16 (120 * k + 20 * j + i1) = nI p) → i + m = z → zden1 (d + 1) (zden zcds (d + 1)) zc154 (124, [(8, .int (nI i)), (7, .int (nI z)), (6, .int (nI (120 * k + 20 * j))), (5, .int (nI j)), (4, .int (nI p)), (3, .ref (u + 0)), (0, .ref (x + 0)), (1, .int (nI t)), (2, .int (nI k))], [], c, sl, zwi μ (zfl (zfl J x 6 X) u 17 T)) = some (0, some (.int ((recL T k j z p m i).1)), c, sl, zwi μ (zfl (zfl J x 6 X) u 17 ((recL T k j z p m i).2)))
  | 0, i, hf, e => by
    refine (ys4 126 (v := .int (nI i)) rfl rfl rfl rfl).trans ?_
    refine (ys4 128 (v := .int (nI z)) rfl rfl rfl rfl).trans ?_
    refine ys18_3 131 rfl rfl (fun h128 => ?_) (fun h128 => absurd (nI_le (by omega) (by omega)) h128)
    exfalso; obtain ⟨i1, q1, q2, -⟩ := hf; omega
  | m + 1, i, hf, e => by
    refine (ys4 126 (v := .int (nI i)) rfl rfl rfl rfl).trans ?_
    refine (ys4 128 (v := .int (nI z)) rfl rfl rfl rfl).trans ?_
    refine ys18_3 131 rfl rfl (fun h128 => absurd h128 (nI_ge (by omega) (by omega))) (fun h128 => ?_)
    refine (ys4 132 (v := .ref (u + 0)) rfl rfl rfl rfl).trans ?_
    refine (ygr 135 rfl (zFS.tag hU.1 (j := 0) (by decide) rfl) rfl (hU.2.1 15 (by decide))).trans ?_
    refine (ys4 137 (v := .int (nI (120 * k + 20 * j))) rfl rfl rfl rfl).trans ?_
    refine (ys4 139 (v := .int (nI i)) rfl rfl rfl rfl).trans ?_
    refine (ys7_0 140 rfl rfl).trans ?_
    rw [show ((nI (120 * k + 20 * j)) + (nI i)) = nI ((120 * k + 20 * j) + i) from nI_add (120 * k + 20 * j) i]
    refine (ylx 141 (N := 1440) rfl (j := ((120 * k + 20 * j) + i)) rfl (Or.inl (zFS.tag hU.1 (j := 16) (by decide) rfl)) (zFS.ni hU.1 (j := 16) (by decide) rfl) (by omega) (by decide) rfl (zfl_at (j := 16) (by decide))).trans ?_
    refine (ys4 143 (v := .int (nI p)) rfl rfl rfl rfl).trans ?_
    refine ys18_1 146 rfl rfl (fun h143 => ?_) (fun h143 => ?_)
    · refine (ys1 148 (x := 7) rfl rfl rfl).trans ?_
      refine (ys36 rfl rfl).trans ?_
      rw [show recL T k j z p (m + 1) i = (7, T) from by rw [recL]; (try dsimp only); rw [if_pos h143]]; (first | done | rfl)
    · refine (ys6 152 (y := nI (i + 1)) (L2 := [(8, .int (nI (i + 1))), (7, .int (nI z)), (6, .int (nI (120 * k + 20 * j))), (5, .int (nI j)), (4, .int (nI p)), (3, .ref (u + 0)), (0, .ref (x + 0)), (1, .int (nI t)), (2, .int (nI k))]) rfl rfl (nI_1 _) rfl rfl).trans ?_
      refine (ys19 rfl).trans ?_
      rw [show recL T k j z p (m + 1) i = recL T k j z p m (i + 1) from by rw [recL]; (try dsimp only); rw [if_neg h143]]; exact l_ecf hX hU hk hj6 hz20 m (i + 1)    (by obtain ⟨i1, q1, q2, q3⟩ := hf; exact ⟨i1, Nat.lt_of_le_of_ne q1 (fun e => h143 (by rw [e]; exact q3)), q2, q3⟩) (by omega)

theorem c_ec19f {d : Nat} {x u : Nat} {X T J : zFn} {μ : zM} (hX : zMX μ x) (hU : zUU μ x u) {t : Nat} (ht : t < 401) (hV : ∀ j, j ≤ t → zTK X j) (hrole : X 5 t = 19) {p : Nat} (hp : rnmL X t 2 t 0 0 = nI p) (hp20 : p < 20) {k j z q0 : Nat} (hk : k < 12) (hs : T 14 k = nI (j + 1)) (hj6 : j < 6) (hz : T 15 (6 * k + j) = nI z) (hz20 : z ≤ 20) (hz0 : 0 < z) (hq0 : T 16 (120 * k + 20 * j) = nI q0) (hq20 : q0 < 20) (hf : T 5 q0 = T 5 p → ∃ i, i < z ∧ T 16 (120 * k + 20 * j + i) = nI p) : zden zcds (d + 5) 154 [.ref (x + 0), .int (nI t), .int (nI k)] (zwi μ (zfl (zfl J x 6 X) u 17 T)) = some (0, some (.int ((rec19 T X t k j z p q0).1)), 0, 0, zwi μ (zfl (zfl J x 6 X) u 17 ((rec19 T X t k j z p q0).2))) := by
  refine (zd_in (d := d + 4) (cd := zc154) (nL := 9) (L := [(0, .ref (x + 0)), (1, .int (nI t)), (2, .int (nI k))]) rfl (Nat.le_of_ble_eq_true rfl) rfl).trans ?_
  refine (ys4 1 (v := .ref (x + 0)) rfl rfl rfl rfl).trans ?_
  refine (ygr 4 rfl (zFS.tag hX.1 (j := 0) (by decide) rfl) rfl hU.2.2.2).trans ?_
  refine (ys5 5 (L2 := [(3, .ref (u + 0)), (0, .ref (x + 0)), (1, .int (nI t)), (2, .int (nI k))]) rfl rfl rfl rfl).trans ?_
  refine (ys4 6 (v := .ref (x + 0)) rfl rfl rfl rfl).trans ?_
  refine (ys4 7 (v := .int (nI t)) rfl rfl rfl rfl).trans ?_
  refine (ys1 8 (x := 2) rfl rfl rfl).trans ?_
  refine (yc3 11 rfl rfl (Nat.le_of_ble_eq_true rfl) (Or.inr (by show ztg (zwi _ _) _ = _; rw [ztg_wi]; exact (zFS.tag hX.1 (j := 0) (by decide) rfl))) rfl rfl (zlt' (zUs hU) (c_rnm hX ht hV))).trans ?_
  rw [show (rnmL X t 2 t 0 0) = (nI p) from hp]
  refine (ys5 13 (L2 := [(4, .int ((nI p))), (3, .ref (u + 0)), (0, .ref (x + 0)), (1, .int (nI t)), (2, .int (nI k))]) rfl rfl rfl rfl).trans ?_
  refine (ys4 15 (v := .int ((nI p))) rfl rfl rfl rfl).trans ?_
  refine (ys1 16 (x := (-1)) rfl rfl rfl).trans ?_
  refine ys18_1 19 rfl rfl (fun h16 => absurd h16 (nI_m1 hp20)) (fun h16 => ?_)
  refine (ys4 22 (v := .ref (x + 0)) rfl rfl rfl rfl).trans ?_
  refine (ygr 25 rfl (zFS.tag hX.1 (j := 0) (by decide) rfl) rfl (hX.2 4 (by decide))).trans ?_
  refine (ys4 26 (v := .int (nI t)) rfl rfl rfl rfl).trans ?_
  refine (ylx 27 (N := 401) rfl (j := t) rfl (Or.inl (zFS.tag hX.1 (j := 5) (by decide) rfl)) (zFS.ni hX.1 (j := 5) (by decide) rfl) (by omega) (by decide) rfl (Eq.trans (zfl_at2 (j := 5) hU.2.2.1 (by decide)) (show (X 5 t) = 19 from hrole))).trans ?_
  refine (ys1 29 (x := 18) rfl rfl rfl).trans ?_
  refine ys18_1 32 rfl rfl (fun h29 => absurd h29 (by decide)) (fun h29 => ?_)
  refine (ys4 56 (v := .ref (u + 0)) rfl rfl rfl rfl).trans ?_
  refine (ygr 59 rfl (zFS.tag hU.1 (j := 0) (by decide) rfl) rfl (hU.2.1 13 (by decide))).trans ?_
  refine (ys4 60 (v := .int (nI k)) rfl rfl rfl rfl).trans ?_
  refine (ylx 61 (N := 12) rfl (j := k) rfl (Or.inl (zFS.tag hU.1 (j := 14) (by decide) rfl)) (zFS.ni hU.1 (j := 14) (by decide) rfl) (by omega) (by decide) rfl (Eq.trans (zfl_at (j := 14) (by decide)) (show (T 14 k) = nI (j + 1) from hs))).trans ?_
  refine (ys1 62 (x := 1) rfl rfl rfl).trans ?_
  refine (ys7_1 63 rfl rfl).trans ?_
  rw [show ((nI (j + 1)) - 1) = (nI j) from nI_pred _]
  refine (ys5 65 (L2 := [(5, .int ((nI j))), (4, .int ((nI p))), (3, .ref (u + 0)), (0, .ref (x + 0)), (1, .int (nI t)), (2, .int (nI k))]) rfl rfl rfl rfl).trans ?_
  refine (ys1 67 (x := 120) rfl rfl rfl).trans ?_
  refine (ys4 68 (v := .int (nI k)) rfl rfl rfl rfl).trans ?_
  refine (ys7_2 69 rfl rfl).trans ?_
  rw [show (120 * (nI k)) = nI (120 * k) from pk_mul 120 k]
  refine (ys1 71 (x := 20) rfl rfl rfl).trans ?_
  refine (ys4 73 (v := .int ((nI j))) rfl rfl rfl rfl).trans ?_
  refine (ys7_2 74 rfl rfl).trans ?_
  rw [show (20 * (nI j)) = nI (20 * j) from pk_mul 20 j]
  refine (ys7_0 75 rfl rfl).trans ?_
  rw [show ((nI (120 * k)) + (nI (20 * j))) = nI ((120 * k) + (20 * j)) from nI_add (120 * k) (20 * j)]
  refine (ys5 77 (L2 := [(6, .int (nI ((120 * k) + (20 * j)))), (5, .int ((nI j))), (4, .int ((nI p))), (3, .ref (u + 0)), (0, .ref (x + 0)), (1, .int (nI t)), (2, .int (nI k))]) rfl rfl rfl rfl).trans ?_
  refine (ys4 78 (v := .ref (u + 0)) rfl rfl rfl rfl).trans ?_
  refine (ygr 81 rfl (zFS.tag hU.1 (j := 0) (by decide) rfl) rfl (hU.2.1 14 (by decide))).trans ?_
  refine (ys1 83 (x := 6) rfl rfl rfl).trans ?_
  refine (ys4 84 (v := .int (nI k)) rfl rfl rfl rfl).trans ?_
  refine (ys7_2 85 rfl rfl).trans ?_
  rw [show (6 * (nI k)) = nI (6 * k) from pk_mul 6 k]
  refine (ys4 87 (v := .int ((nI j))) rfl rfl rfl rfl).trans ?_
  refine (ys7_0 88 rfl rfl).trans ?_
  rw [show ((nI (6 * k)) + (nI j)) = nI ((6 * k) + j) from nI_add (6 * k) j]
  refine (ylx 89 (N := 72) rfl (j := ((6 * k) + j)) rfl (Or.inl (zFS.tag hU.1 (j := 15) (by decide) rfl)) (zFS.ni hU.1 (j := 15) (by decide) rfl) (by omega) (by decide) rfl (Eq.trans (zfl_at (j := 15) (by decide)) (show (T 15 ((6 * k) + j)) = nI z from hz))).trans ?_
  refine (ys5 91 (L2 := [(7, .int (nI z)), (6, .int (nI ((120 * k) + (20 * j)))), (5, .int ((nI j))), (4, .int ((nI p))), (3, .ref (u + 0)), (0, .ref (x + 0)), (1, .int (nI t)), (2, .int (nI k))]) rfl rfl rfl rfl).trans ?_
  refine (ys4 93 (v := .int (nI z)) rfl rfl rfl rfl).trans ?_
  refine ys17_5 96 rfl rfl (fun h93 => absurd h93 (by intro q; have q1 : nI z = nI 0 := Int32.le_antisymm q (nI_pos' (by omega)); have := (nI_eq (by omega) (by omega)).mp q1; omega)) (fun h93 => ?_)
  refine (ys4 97 (v := .ref (u + 0)) rfl rfl rfl rfl).trans ?_
  refine (ygr 100 rfl (zFS.tag hU.1 (j := 0) (by decide) rfl) rfl (hU.2.1 4 (by decide))).trans ?_
  refine (ys4 101 (v := .ref (u + 0)) rfl rfl rfl rfl).trans ?_
  refine (ygr 104 rfl (zFS.tag hU.1 (j := 0) (by decide) rfl) rfl (hU.2.1 15 (by decide))).trans ?_
  refine (ys4 106 (v := .int (nI ((120 * k) + (20 * j)))) rfl rfl rfl rfl).trans ?_
  refine (ylx 107 (N := 1440) rfl (j := ((120 * k) + (20 * j))) rfl (Or.inl (zFS.tag hU.1 (j := 16) (by decide) rfl)) (zFS.ni hU.1 (j := 16) (by decide) rfl) (by omega) (by decide) rfl (Eq.trans (zfl_at (j := 16) (by decide)) (show (T 16 ((120 * k) + (20 * j))) = (nI q0) from hq0))).trans ?_
  refine (ylx 108 (N := 20) rfl (j := q0) rfl (Or.inl (zFS.tag hU.1 (j := 5) (by decide) rfl)) (zFS.ni hU.1 (j := 5) (by decide) rfl) (by omega) (by decide) rfl (zfl_at (j := 5) (by decide))).trans ?_
  refine (ys4 109 (v := .ref (u + 0)) rfl rfl rfl rfl).trans ?_
  refine (ygr 112 rfl (zFS.tag hU.1 (j := 0) (by decide) rfl) rfl (hU.2.1 4 (by decide))).trans ?_
  refine (ys4 114 (v := .int ((nI p))) rfl rfl rfl rfl).trans ?_
  refine (ylx 115 (N := 20) rfl (j := p) rfl (Or.inl (zFS.tag hU.1 (j := 5) (by decide) rfl)) (zFS.ni hU.1 (j := 5) (by decide) rfl) (by omega) (by decide) rfl (zfl_at (j := 5) (by decide))).trans ?_
  refine ys18_0 118 rfl rfl (fun h115 => ?_) (fun h115 => ?_)
  · refine (ys1 122 (x := nI 0) rfl rfl rfl).trans ?_
    refine (ys5 124 (L2 := [(8, .int (nI 0)), (7, .int (nI z)), (6, .int (nI ((120 * k) + (20 * j)))), (5, .int ((nI j))), (4, .int ((nI p))), (3, .ref (u + 0)), (0, .ref (x + 0)), (1, .int (nI t)), (2, .int (nI k))]) rfl rfl rfl rfl).trans ?_
    rw [show rec19 T X t k j z p q0 = recL T k j z p z 0 from by unfold rec19; (try dsimp only); rw [if_neg h93, if_pos h115]]; exact l_ecf hX hU hk hj6 hz20 z 0 (by obtain ⟨i1, q1, q2⟩ := hf (by first | assumption | exact absurd (nI_pos' (n := z) (by omega)) (by assumption)); exact ⟨i1, Nat.zero_le _, q1, q2⟩) (by omega)
  · refine (ys1 120 (x := 6) rfl rfl rfl).trans ?_
    refine (ys36 rfl rfl).trans ?_
    rw [show rec19 T X t k j z p q0 = (6, T) from by unfold rec19; (try dsimp only); rw [if_neg h93, if_neg h115]]; (first | done | rfl)

theorem c_eq18 {d : Nat} {x u : Nat} {X T J : zFn} {μ : zM} (hX : zMX μ x) (hU : zUU μ x u) {t : Nat} (ht : t < 401) (hV : ∀ j, j ≤ t → zTK X j) (hrole : X 5 t = 18) {v w : Int32} {T' : zFn} {k : Nat} (hk : T 0 3 = nI (k + 1)) (hc : zden zcds (d + 5) 154 [.ref (x + 0), .int (nI t), .int (nI k)] (zwi μ (zfl (zfl J x 6 X) u 17 T)) = some (0, some (.int w), 0, 0, zwi μ (zfl (zfl J x 6 X) u 17 T'))) : zden zcds (d + 6) 153 [.ref (x + 0), .int (nI t), .int (v)] (zwi μ (zfl (zfl J x 6 X) u 17 T)) = some (0, some (.int w), 0, 0, zwi μ (zfl (zfl J x 6 X) u 17 T')) := by
  refine (zd_in (d := d + 5) (cd := zc153) (nL := 6) (L := [(0, .ref (x + 0)), (1, .int (nI t)), (2, .int (v))]) rfl (Nat.le_of_ble_eq_true rfl) rfl).trans ?_
  refine (ys4 1 (v := .ref (x + 0)) rfl rfl rfl rfl).trans ?_
  refine (ygr 4 rfl (zFS.tag hX.1 (j := 0) (by decide) rfl) rfl hU.2.2.2).trans ?_
  refine (ys5 5 (L2 := [(3, .ref (u + 0)), (0, .ref (x + 0)), (1, .int (nI t)), (2, .int (v))]) rfl rfl rfl rfl).trans ?_
  refine (ys4 6 (v := .ref (u + 0)) rfl rfl rfl rfl).trans ?_
  refine (yg 9 rfl (zFS.tag hU.1 (j := 0) (by decide) rfl) (zFS.ni hU.1 (j := 0) (by decide) rfl) (by decide) rfl (zfl_at (j := 0) (by decide))).trans ?_
  refine (ys1 10 (x := 1) rfl rfl rfl).trans ?_
  refine (ys7_1 11 rfl rfl).trans ?_
  refine (ys5 13 (L2 := [(4, .int (((T 0 1) - 1))), (3, .ref (u + 0)), (0, .ref (x + 0)), (1, .int (nI t)), (2, .int (v))]) rfl rfl rfl rfl).trans ?_
  refine (ys4 14 (v := .ref (x + 0)) rfl rfl rfl rfl).trans ?_
  refine (ys4 15 (v := .int (nI t)) rfl rfl rfl rfl).trans ?_
  refine (ys1 16 (x := 1) rfl rfl rfl).trans ?_
  refine (yc3 19 rfl rfl (Nat.le_of_ble_eq_true rfl) (Or.inr (by show ztg (zwi _ _) _ = _; rw [ztg_wi]; exact (zFS.tag hX.1 (j := 0) (by decide) rfl))) rfl rfl (zlt' (zUs hU) (c_rnm hX ht hV))).trans ?_
  refine (ys5 21 (L2 := [(5, .int ((rnmL X t 1 t 0 0))), (4, .int (((T 0 1) - 1))), (3, .ref (u + 0)), (0, .ref (x + 0)), (1, .int (nI t)), (2, .int (v))]) rfl rfl rfl rfl).trans ?_
  refine (ys4 22 (v := .ref (x + 0)) rfl rfl rfl rfl).trans ?_
  refine (ygr 25 rfl (zFS.tag hX.1 (j := 0) (by decide) rfl) rfl (hX.2 4 (by decide))).trans ?_
  refine (ys4 26 (v := .int (nI t)) rfl rfl rfl rfl).trans ?_
  refine (ylx 27 (N := 401) rfl (j := t) rfl (Or.inl (zFS.tag hX.1 (j := 5) (by decide) rfl)) (zFS.ni hX.1 (j := 5) (by decide) rfl) (by omega) (by decide) rfl (Eq.trans (zfl_at2 (j := 5) hU.2.2.1 (by decide)) (show (X 5 t) = 18 from hrole))).trans ?_
  refine (ys21k 299 rfl (by decide)).trans ?_
  refine (ys4 300 (v := .ref (x + 0)) rfl rfl rfl rfl).trans ?_
  refine (ys4 301 (v := .int (nI t)) rfl rfl rfl rfl).trans ?_
  refine (ys4 302 (v := .ref (u + 0)) rfl rfl rfl rfl).trans ?_
  refine (yg 305 rfl (zFS.tag hU.1 (j := 0) (by decide) rfl) (zFS.ni hU.1 (j := 0) (by decide) rfl) (by decide) rfl (Eq.trans (zfl_at (j := 0) (by decide)) (show (T 0 3) = nI (k + 1) from hk))).trans ?_
  refine (ys1 306 (x := 1) rfl rfl rfl).trans ?_
  refine (ys7_1 307 rfl rfl).trans ?_
  rw [show ((nI (k + 1)) - 1) = (nI k) from nI_pred _]
  refine (yc3 310 rfl rfl (Nat.le_of_ble_eq_true rfl) (Or.inr (by show ztg (zwi _ _) _ = _; rw [ztg_wi]; exact (zFS.tag hX.1 (j := 0) (by decide) rfl))) rfl rfl hc).trans ?_
  generalize hT1 : T' = T1
  refine (ys36 rfl rfl).trans ?_
  subst hT1; rfl

theorem c_eq19 {d : Nat} {x u : Nat} {X T J : zFn} {μ : zM} (hX : zMX μ x) (hU : zUU μ x u) {t : Nat} (ht : t < 401) (hV : ∀ j, j ≤ t → zTK X j) (hrole : X 5 t = 19) {v w : Int32} {T' : zFn} {k : Nat} (hk : T 0 3 = nI (k + 1)) (hc : zden zcds (d + 5) 154 [.ref (x + 0), .int (nI t), .int (nI k)] (zwi μ (zfl (zfl J x 6 X) u 17 T)) = some (0, some (.int w), 0, 0, zwi μ (zfl (zfl J x 6 X) u 17 T'))) : zden zcds (d + 6) 153 [.ref (x + 0), .int (nI t), .int (v)] (zwi μ (zfl (zfl J x 6 X) u 17 T)) = some (0, some (.int w), 0, 0, zwi μ (zfl (zfl J x 6 X) u 17 T')) := by
  refine (zd_in (d := d + 5) (cd := zc153) (nL := 6) (L := [(0, .ref (x + 0)), (1, .int (nI t)), (2, .int (v))]) rfl (Nat.le_of_ble_eq_true rfl) rfl).trans ?_
  refine (ys4 1 (v := .ref (x + 0)) rfl rfl rfl rfl).trans ?_
  refine (ygr 4 rfl (zFS.tag hX.1 (j := 0) (by decide) rfl) rfl hU.2.2.2).trans ?_
  refine (ys5 5 (L2 := [(3, .ref (u + 0)), (0, .ref (x + 0)), (1, .int (nI t)), (2, .int (v))]) rfl rfl rfl rfl).trans ?_
  refine (ys4 6 (v := .ref (u + 0)) rfl rfl rfl rfl).trans ?_
  refine (yg 9 rfl (zFS.tag hU.1 (j := 0) (by decide) rfl) (zFS.ni hU.1 (j := 0) (by decide) rfl) (by decide) rfl (zfl_at (j := 0) (by decide))).trans ?_
  refine (ys1 10 (x := 1) rfl rfl rfl).trans ?_
  refine (ys7_1 11 rfl rfl).trans ?_
  refine (ys5 13 (L2 := [(4, .int (((T 0 1) - 1))), (3, .ref (u + 0)), (0, .ref (x + 0)), (1, .int (nI t)), (2, .int (v))]) rfl rfl rfl rfl).trans ?_
  refine (ys4 14 (v := .ref (x + 0)) rfl rfl rfl rfl).trans ?_
  refine (ys4 15 (v := .int (nI t)) rfl rfl rfl rfl).trans ?_
  refine (ys1 16 (x := 1) rfl rfl rfl).trans ?_
  refine (yc3 19 rfl rfl (Nat.le_of_ble_eq_true rfl) (Or.inr (by show ztg (zwi _ _) _ = _; rw [ztg_wi]; exact (zFS.tag hX.1 (j := 0) (by decide) rfl))) rfl rfl (zlt' (zUs hU) (c_rnm hX ht hV))).trans ?_
  refine (ys5 21 (L2 := [(5, .int ((rnmL X t 1 t 0 0))), (4, .int (((T 0 1) - 1))), (3, .ref (u + 0)), (0, .ref (x + 0)), (1, .int (nI t)), (2, .int (v))]) rfl rfl rfl rfl).trans ?_
  refine (ys4 22 (v := .ref (x + 0)) rfl rfl rfl rfl).trans ?_
  refine (ygr 25 rfl (zFS.tag hX.1 (j := 0) (by decide) rfl) rfl (hX.2 4 (by decide))).trans ?_
  refine (ys4 26 (v := .int (nI t)) rfl rfl rfl rfl).trans ?_
  refine (ylx 27 (N := 401) rfl (j := t) rfl (Or.inl (zFS.tag hX.1 (j := 5) (by decide) rfl)) (zFS.ni hX.1 (j := 5) (by decide) rfl) (by omega) (by decide) rfl (Eq.trans (zfl_at2 (j := 5) hU.2.2.1 (by decide)) (show (X 5 t) = 19 from hrole))).trans ?_
  refine (ys21k 299 rfl (by decide)).trans ?_
  refine (ys4 300 (v := .ref (x + 0)) rfl rfl rfl rfl).trans ?_
  refine (ys4 301 (v := .int (nI t)) rfl rfl rfl rfl).trans ?_
  refine (ys4 302 (v := .ref (u + 0)) rfl rfl rfl rfl).trans ?_
  refine (yg 305 rfl (zFS.tag hU.1 (j := 0) (by decide) rfl) (zFS.ni hU.1 (j := 0) (by decide) rfl) (by decide) rfl (Eq.trans (zfl_at (j := 0) (by decide)) (show (T 0 3) = nI (k + 1) from hk))).trans ?_
  refine (ys1 306 (x := 1) rfl rfl rfl).trans ?_
  refine (ys7_1 307 rfl rfl).trans ?_
  rw [show ((nI (k + 1)) - 1) = (nI k) from nI_pred _]
  refine (yc3 310 rfl rfl (Nat.le_of_ble_eq_true rfl) (Or.inr (by show ztg (zwi _ _) _ = _; rw [ztg_wi]; exact (zFS.tag hX.1 (j := 0) (by decide) rfl))) rfl rfl hc).trans ?_
  generalize hT1 : T' = T1
  refine (ys36 rfl rfl).trans ?_
  subst hT1; rfl

theorem c_er2 {d : Nat} {x u : Nat} {X T J : zFn} {μ : zM} (hX : zMX μ x) (hU : zUU μ x u) {t : Nat} (ht : t < 401) (hV : ∀ j, j ≤ t → zTK X j) (hrole : X 5 t = 2) {w : Int32} {T' : zFn} (hc : ∀ v : Int32, (X 2 t = 21 → v = rnoL X t (rmn X t) 0 0) → zden zcds (d + 6) 153 [.ref (x + 0), .int (nI t), .int v] (zwi μ (zfl (zfl J x 6 X) u 17 T)) = some (0, some (.int w), 0, 0, zwi μ (zfl (zfl J x 6 X) u 17 T'))) : zden zcds (d + 7) 152 [.ref (x + 0), .int (nI t)] (zwi μ (zfl (zfl J x 6 X) u 17 T)) = some (0, some (.int w), 0, 0, zwi μ (zfl (zfl J x 6 X) u 17 T')) := by
  refine (zd_in (d := d + 6) (cd := zc152) (nL := 6) (L := [(0, .ref (x + 0)), (1, .int (nI t))]) rfl (Nat.le_of_ble_eq_true rfl) rfl).trans ?_
  refine (ys4 1 (v := .ref (x + 0)) rfl rfl rfl rfl).trans ?_
  refine (ygr 4 rfl (zFS.tag hX.1 (j := 0) (by decide) rfl) rfl hU.2.2.2).trans ?_
  refine (ys5 5 (L2 := [(2, .ref (u + 0)), (0, .ref (x + 0)), (1, .int (nI t))]) rfl rfl rfl rfl).trans ?_
  refine (ys4 6 (v := .ref (u + 0)) rfl rfl rfl rfl).trans ?_
  refine (yg 9 rfl (zFS.tag hU.1 (j := 0) (by decide) rfl) (zFS.ni hU.1 (j := 0) (by decide) rfl) (by decide) rfl (zfl_at (j := 0) (by decide))).trans ?_
  refine (ys1 10 (x := 1) rfl rfl rfl).trans ?_
  refine (ys7_1 11 rfl rfl).trans ?_
  refine (ys5 12 (L2 := [(3, .int (((T 0 0) - 1))), (2, .ref (u + 0)), (0, .ref (x + 0)), (1, .int (nI t))]) rfl rfl rfl rfl).trans ?_
  refine (ys4 13 (v := .ref (u + 0)) rfl rfl rfl rfl).trans ?_
  refine (yg 16 rfl (zFS.tag hU.1 (j := 0) (by decide) rfl) (zFS.ni hU.1 (j := 0) (by decide) rfl) (by decide) rfl (zfl_at (j := 0) (by decide))).trans ?_
  refine (ys1 17 (x := 1) rfl rfl rfl).trans ?_
  refine (ys7_1 18 rfl rfl).trans ?_
  refine (ys5 20 (L2 := [(4, .int (((T 0 2) - 1))), (3, .int (((T 0 0) - 1))), (2, .ref (u + 0)), (0, .ref (x + 0)), (1, .int (nI t))]) rfl rfl rfl rfl).trans ?_
  refine (ys4 21 (v := .ref (x + 0)) rfl rfl rfl rfl).trans ?_
  refine (ygr 24 rfl (zFS.tag hX.1 (j := 0) (by decide) rfl) rfl (hX.2 1 (by decide))).trans ?_
  refine (ys4 25 (v := .int (nI t)) rfl rfl rfl rfl).trans ?_
  refine (ylx 26 (N := 401) rfl (j := t) rfl (Or.inl (zFS.tag hX.1 (j := 2) (by decide) rfl)) (zFS.ni hX.1 (j := 2) (by decide) rfl) (by omega) (by decide) rfl (zfl_at2 (j := 2) hU.2.2.1 (by decide))).trans ?_
  refine (ys1 28 (x := 21) rfl rfl rfl).trans ?_
  refine ys18_1 31 rfl rfl (fun h28 => ?_) (fun h28 => ?_)
  · refine (ys4 32 (v := .ref (x + 0)) rfl rfl rfl rfl).trans ?_
    refine (ys4 33 (v := .int (nI t)) rfl rfl rfl rfl).trans ?_
    refine (yc2 36 rfl rfl (Nat.le_of_ble_eq_true rfl) (Or.inr (by show ztg (zwi _ _) _ = _; rw [ztg_wi]; exact (zFS.tag hX.1 (j := 0) (by decide) rfl))) rfl rfl (zlt' (zUs hU) (c_rno hX ht (hV t (Nat.le_refl _))))).trans ?_
    refine (ys19 rfl).trans ?_
    refine (ys5 42 (L2 := [(5, .int ((rnoL X t (rmn X t) 0 0))), (4, .int (((T 0 2) - 1))), (3, .int (((T 0 0) - 1))), (2, .ref (u + 0)), (0, .ref (x + 0)), (1, .int (nI t))]) rfl rfl rfl rfl).trans ?_
    refine (ys4 43 (v := .ref (x + 0)) rfl rfl rfl rfl).trans ?_
    refine (ygr 46 rfl (zFS.tag hX.1 (j := 0) (by decide) rfl) rfl (hX.2 4 (by decide))).trans ?_
    refine (ys4 47 (v := .int (nI t)) rfl rfl rfl rfl).trans ?_
    refine (ylx 48 (N := 401) rfl (j := t) rfl (Or.inl (zFS.tag hX.1 (j := 5) (by decide) rfl)) (zFS.ni hX.1 (j := 5) (by decide) rfl) (by omega) (by decide) rfl (Eq.trans (zfl_at2 (j := 5) hU.2.2.1 (by decide)) (show (X 5 t) = 2 from hrole))).trans ?_
    refine (ys21k 356 rfl (by decide)).trans ?_
    refine (ys4 357 (v := .ref (x + 0)) rfl rfl rfl rfl).trans ?_
    refine (ygr 360 rfl (zFS.tag hX.1 (j := 0) (by decide) rfl) rfl (hX.2 4 (by decide))).trans ?_
    refine (ys4 361 (v := .int (nI t)) rfl rfl rfl rfl).trans ?_
    refine (ylx 362 (N := 401) rfl (j := t) rfl (Or.inl (zFS.tag hX.1 (j := 5) (by decide) rfl)) (zFS.ni hX.1 (j := 5) (by decide) rfl) (by omega) (by decide) rfl (Eq.trans (zfl_at2 (j := 5) hU.2.2.1 (by decide)) (show (X 5 t) = 2 from hrole))).trans ?_
    refine ys17_1 365 rfl rfl (fun h362 => absurd h362 (by decide)) (fun h362 => ?_)
    refine (ys4 370 (v := .ref (x + 0)) rfl rfl rfl rfl).trans ?_
    refine (ys4 371 (v := .int (nI t)) rfl rfl rfl rfl).trans ?_
    refine (ys4 373 (v := .int ((rnoL X t (rmn X t) 0 0))) rfl rfl rfl rfl).trans ?_
    refine (yc3 376 rfl rfl (Nat.le_of_ble_eq_true rfl) (Or.inr (by show ztg (zwi _ _) _ = _; rw [ztg_wi]; exact (zFS.tag hX.1 (j := 0) (by decide) rfl))) rfl rfl (hc _ (fun _ => rfl))).trans ?_
    generalize hT1 : T' = T1
    refine (ys36 rfl rfl).trans ?_
    subst hT1; rfl
  · refine (ys1 40 (x := 0) rfl rfl rfl).trans ?_
    refine (ys5 42 (L2 := [(5, .int (0)), (4, .int (((T 0 2) - 1))), (3, .int (((T 0 0) - 1))), (2, .ref (u + 0)), (0, .ref (x + 0)), (1, .int (nI t))]) rfl rfl rfl rfl).trans ?_
    refine (ys4 43 (v := .ref (x + 0)) rfl rfl rfl rfl).trans ?_
    refine (ygr 46 rfl (zFS.tag hX.1 (j := 0) (by decide) rfl) rfl (hX.2 4 (by decide))).trans ?_
    refine (ys4 47 (v := .int (nI t)) rfl rfl rfl rfl).trans ?_
    refine (ylx 48 (N := 401) rfl (j := t) rfl (Or.inl (zFS.tag hX.1 (j := 5) (by decide) rfl)) (zFS.ni hX.1 (j := 5) (by decide) rfl) (by omega) (by decide) rfl (Eq.trans (zfl_at2 (j := 5) hU.2.2.1 (by decide)) (show (X 5 t) = 2 from hrole))).trans ?_
    refine (ys21k 356 rfl (by decide)).trans ?_
    refine (ys4 357 (v := .ref (x + 0)) rfl rfl rfl rfl).trans ?_
    refine (ygr 360 rfl (zFS.tag hX.1 (j := 0) (by decide) rfl) rfl (hX.2 4 (by decide))).trans ?_
    refine (ys4 361 (v := .int (nI t)) rfl rfl rfl rfl).trans ?_
    refine (ylx 362 (N := 401) rfl (j := t) rfl (Or.inl (zFS.tag hX.1 (j := 5) (by decide) rfl)) (zFS.ni hX.1 (j := 5) (by decide) rfl) (by omega) (by decide) rfl (Eq.trans (zfl_at2 (j := 5) hU.2.2.1 (by decide)) (show (X 5 t) = 2 from hrole))).trans ?_
    refine ys17_1 365 rfl rfl (fun h362 => absurd h362 (by decide)) (fun h362 => ?_)
    refine (ys4 370 (v := .ref (x + 0)) rfl rfl rfl rfl).trans ?_
    refine (ys4 371 (v := .int (nI t)) rfl rfl rfl rfl).trans ?_
    refine (ys4 373 (v := .int (0)) rfl rfl rfl rfl).trans ?_
    refine (yc3 376 rfl rfl (Nat.le_of_ble_eq_true rfl) (Or.inr (by show ztg (zwi _ _) _ = _; rw [ztg_wi]; exact (zFS.tag hX.1 (j := 0) (by decide) rfl))) rfl rfl (hc _ (fun h => absurd h h28))).trans ?_
    generalize hT2 : T' = T2
    refine (ys36 rfl rfl).trans ?_
    subst hT2; rfl

theorem c_er3 {d : Nat} {x u : Nat} {X T J : zFn} {μ : zM} (hX : zMX μ x) (hU : zUU μ x u) {t : Nat} (ht : t < 401) (hV : ∀ j, j ≤ t → zTK X j) (hrole : X 5 t = 3) {w : Int32} {T' : zFn} (hc : ∀ v : Int32, (X 2 t = 21 → v = rnoL X t (rmn X t) 0 0) → zden zcds (d + 6) 153 [.ref (x + 0), .int (nI t), .int v] (zwi μ (zfl (zfl J x 6 X) u 17 T)) = some (0, some (.int w), 0, 0, zwi μ (zfl (zfl J x 6 X) u 17 T'))) : zden zcds (d + 7) 152 [.ref (x + 0), .int (nI t)] (zwi μ (zfl (zfl J x 6 X) u 17 T)) = some (0, some (.int w), 0, 0, zwi μ (zfl (zfl J x 6 X) u 17 T')) := by
  refine (zd_in (d := d + 6) (cd := zc152) (nL := 6) (L := [(0, .ref (x + 0)), (1, .int (nI t))]) rfl (Nat.le_of_ble_eq_true rfl) rfl).trans ?_
  refine (ys4 1 (v := .ref (x + 0)) rfl rfl rfl rfl).trans ?_
  refine (ygr 4 rfl (zFS.tag hX.1 (j := 0) (by decide) rfl) rfl hU.2.2.2).trans ?_
  refine (ys5 5 (L2 := [(2, .ref (u + 0)), (0, .ref (x + 0)), (1, .int (nI t))]) rfl rfl rfl rfl).trans ?_
  refine (ys4 6 (v := .ref (u + 0)) rfl rfl rfl rfl).trans ?_
  refine (yg 9 rfl (zFS.tag hU.1 (j := 0) (by decide) rfl) (zFS.ni hU.1 (j := 0) (by decide) rfl) (by decide) rfl (zfl_at (j := 0) (by decide))).trans ?_
  refine (ys1 10 (x := 1) rfl rfl rfl).trans ?_
  refine (ys7_1 11 rfl rfl).trans ?_
  refine (ys5 12 (L2 := [(3, .int (((T 0 0) - 1))), (2, .ref (u + 0)), (0, .ref (x + 0)), (1, .int (nI t))]) rfl rfl rfl rfl).trans ?_
  refine (ys4 13 (v := .ref (u + 0)) rfl rfl rfl rfl).trans ?_
  refine (yg 16 rfl (zFS.tag hU.1 (j := 0) (by decide) rfl) (zFS.ni hU.1 (j := 0) (by decide) rfl) (by decide) rfl (zfl_at (j := 0) (by decide))).trans ?_
  refine (ys1 17 (x := 1) rfl rfl rfl).trans ?_
  refine (ys7_1 18 rfl rfl).trans ?_
  refine (ys5 20 (L2 := [(4, .int (((T 0 2) - 1))), (3, .int (((T 0 0) - 1))), (2, .ref (u + 0)), (0, .ref (x + 0)), (1, .int (nI t))]) rfl rfl rfl rfl).trans ?_
  refine (ys4 21 (v := .ref (x + 0)) rfl rfl rfl rfl).trans ?_
  refine (ygr 24 rfl (zFS.tag hX.1 (j := 0) (by decide) rfl) rfl (hX.2 1 (by decide))).trans ?_
  refine (ys4 25 (v := .int (nI t)) rfl rfl rfl rfl).trans ?_
  refine (ylx 26 (N := 401) rfl (j := t) rfl (Or.inl (zFS.tag hX.1 (j := 2) (by decide) rfl)) (zFS.ni hX.1 (j := 2) (by decide) rfl) (by omega) (by decide) rfl (zfl_at2 (j := 2) hU.2.2.1 (by decide))).trans ?_
  refine (ys1 28 (x := 21) rfl rfl rfl).trans ?_
  refine ys18_1 31 rfl rfl (fun h28 => ?_) (fun h28 => ?_)
  · refine (ys4 32 (v := .ref (x + 0)) rfl rfl rfl rfl).trans ?_
    refine (ys4 33 (v := .int (nI t)) rfl rfl rfl rfl).trans ?_
    refine (yc2 36 rfl rfl (Nat.le_of_ble_eq_true rfl) (Or.inr (by show ztg (zwi _ _) _ = _; rw [ztg_wi]; exact (zFS.tag hX.1 (j := 0) (by decide) rfl))) rfl rfl (zlt' (zUs hU) (c_rno hX ht (hV t (Nat.le_refl _))))).trans ?_
    refine (ys19 rfl).trans ?_
    refine (ys5 42 (L2 := [(5, .int ((rnoL X t (rmn X t) 0 0))), (4, .int (((T 0 2) - 1))), (3, .int (((T 0 0) - 1))), (2, .ref (u + 0)), (0, .ref (x + 0)), (1, .int (nI t))]) rfl rfl rfl rfl).trans ?_
    refine (ys4 43 (v := .ref (x + 0)) rfl rfl rfl rfl).trans ?_
    refine (ygr 46 rfl (zFS.tag hX.1 (j := 0) (by decide) rfl) rfl (hX.2 4 (by decide))).trans ?_
    refine (ys4 47 (v := .int (nI t)) rfl rfl rfl rfl).trans ?_
    refine (ylx 48 (N := 401) rfl (j := t) rfl (Or.inl (zFS.tag hX.1 (j := 5) (by decide) rfl)) (zFS.ni hX.1 (j := 5) (by decide) rfl) (by omega) (by decide) rfl (Eq.trans (zfl_at2 (j := 5) hU.2.2.1 (by decide)) (show (X 5 t) = 3 from hrole))).trans ?_
    refine (ys21k 356 rfl (by decide)).trans ?_
    refine (ys4 357 (v := .ref (x + 0)) rfl rfl rfl rfl).trans ?_
    refine (ygr 360 rfl (zFS.tag hX.1 (j := 0) (by decide) rfl) rfl (hX.2 4 (by decide))).trans ?_
    refine (ys4 361 (v := .int (nI t)) rfl rfl rfl rfl).trans ?_
    refine (ylx 362 (N := 401) rfl (j := t) rfl (Or.inl (zFS.tag hX.1 (j := 5) (by decide) rfl)) (zFS.ni hX.1 (j := 5) (by decide) rfl) (by omega) (by decide) rfl (Eq.trans (zfl_at2 (j := 5) hU.2.2.1 (by decide)) (show (X 5 t) = 3 from hrole))).trans ?_
    refine ys17_1 365 rfl rfl (fun h362 => absurd h362 (by decide)) (fun h362 => ?_)
    refine (ys4 370 (v := .ref (x + 0)) rfl rfl rfl rfl).trans ?_
    refine (ys4 371 (v := .int (nI t)) rfl rfl rfl rfl).trans ?_
    refine (ys4 373 (v := .int ((rnoL X t (rmn X t) 0 0))) rfl rfl rfl rfl).trans ?_
    refine (yc3 376 rfl rfl (Nat.le_of_ble_eq_true rfl) (Or.inr (by show ztg (zwi _ _) _ = _; rw [ztg_wi]; exact (zFS.tag hX.1 (j := 0) (by decide) rfl))) rfl rfl (hc _ (fun _ => rfl))).trans ?_
    generalize hT1 : T' = T1
    refine (ys36 rfl rfl).trans ?_
    subst hT1; rfl
  · refine (ys1 40 (x := 0) rfl rfl rfl).trans ?_
    refine (ys5 42 (L2 := [(5, .int (0)), (4, .int (((T 0 2) - 1))), (3, .int (((T 0 0) - 1))), (2, .ref (u + 0)), (0, .ref (x + 0)), (1, .int (nI t))]) rfl rfl rfl rfl).trans ?_
    refine (ys4 43 (v := .ref (x + 0)) rfl rfl rfl rfl).trans ?_
    refine (ygr 46 rfl (zFS.tag hX.1 (j := 0) (by decide) rfl) rfl (hX.2 4 (by decide))).trans ?_
    refine (ys4 47 (v := .int (nI t)) rfl rfl rfl rfl).trans ?_
    refine (ylx 48 (N := 401) rfl (j := t) rfl (Or.inl (zFS.tag hX.1 (j := 5) (by decide) rfl)) (zFS.ni hX.1 (j := 5) (by decide) rfl) (by omega) (by decide) rfl (Eq.trans (zfl_at2 (j := 5) hU.2.2.1 (by decide)) (show (X 5 t) = 3 from hrole))).trans ?_
    refine (ys21k 356 rfl (by decide)).trans ?_
    refine (ys4 357 (v := .ref (x + 0)) rfl rfl rfl rfl).trans ?_
    refine (ygr 360 rfl (zFS.tag hX.1 (j := 0) (by decide) rfl) rfl (hX.2 4 (by decide))).trans ?_
    refine (ys4 361 (v := .int (nI t)) rfl rfl rfl rfl).trans ?_
    refine (ylx 362 (N := 401) rfl (j := t) rfl (Or.inl (zFS.tag hX.1 (j := 5) (by decide) rfl)) (zFS.ni hX.1 (j := 5) (by decide) rfl) (by omega) (by decide) rfl (Eq.trans (zfl_at2 (j := 5) hU.2.2.1 (by decide)) (show (X 5 t) = 3 from hrole))).trans ?_
    refine ys17_1 365 rfl rfl (fun h362 => absurd h362 (by decide)) (fun h362 => ?_)
    refine (ys4 370 (v := .ref (x + 0)) rfl rfl rfl rfl).trans ?_
    refine (ys4 371 (v := .int (nI t)) rfl rfl rfl rfl).trans ?_
    refine (ys4 373 (v := .int (0)) rfl rfl rfl rfl).trans ?_
    refine (yc3 376 rfl rfl (Nat.le_of_ble_eq_true rfl) (Or.inr (by show ztg (zwi _ _) _ = _; rw [ztg_wi]; exact (zFS.tag hX.1 (j := 0) (by decide) rfl))) rfl rfl (hc _ (fun h => absurd h h28))).trans ?_
    generalize hT2 : T' = T2
    refine (ys36 rfl rfl).trans ?_
    subst hT2; rfl

theorem c_er9 {d : Nat} {x u : Nat} {X T J : zFn} {μ : zM} (hX : zMX μ x) (hU : zUU μ x u) {t : Nat} (ht : t < 401) (hV : ∀ j, j ≤ t → zTK X j) (hrole : X 5 t = 9) {w : Int32} {T' : zFn} (hc : ∀ v : Int32, (X 2 t = 21 → v = rnoL X t (rmn X t) 0 0) → zden zcds (d + 6) 153 [.ref (x + 0), .int (nI t), .int v] (zwi μ (zfl (zfl J x 6 X) u 17 T)) = some (0, some (.int w), 0, 0, zwi μ (zfl (zfl J x 6 X) u 17 T'))) : zden zcds (d + 7) 152 [.ref (x + 0), .int (nI t)] (zwi μ (zfl (zfl J x 6 X) u 17 T)) = some (0, some (.int w), 0, 0, zwi μ (zfl (zfl J x 6 X) u 17 T')) := by
  refine (zd_in (d := d + 6) (cd := zc152) (nL := 6) (L := [(0, .ref (x + 0)), (1, .int (nI t))]) rfl (Nat.le_of_ble_eq_true rfl) rfl).trans ?_
  refine (ys4 1 (v := .ref (x + 0)) rfl rfl rfl rfl).trans ?_
  refine (ygr 4 rfl (zFS.tag hX.1 (j := 0) (by decide) rfl) rfl hU.2.2.2).trans ?_
  refine (ys5 5 (L2 := [(2, .ref (u + 0)), (0, .ref (x + 0)), (1, .int (nI t))]) rfl rfl rfl rfl).trans ?_
  refine (ys4 6 (v := .ref (u + 0)) rfl rfl rfl rfl).trans ?_
  refine (yg 9 rfl (zFS.tag hU.1 (j := 0) (by decide) rfl) (zFS.ni hU.1 (j := 0) (by decide) rfl) (by decide) rfl (zfl_at (j := 0) (by decide))).trans ?_
  refine (ys1 10 (x := 1) rfl rfl rfl).trans ?_
  refine (ys7_1 11 rfl rfl).trans ?_
  refine (ys5 12 (L2 := [(3, .int (((T 0 0) - 1))), (2, .ref (u + 0)), (0, .ref (x + 0)), (1, .int (nI t))]) rfl rfl rfl rfl).trans ?_
  refine (ys4 13 (v := .ref (u + 0)) rfl rfl rfl rfl).trans ?_
  refine (yg 16 rfl (zFS.tag hU.1 (j := 0) (by decide) rfl) (zFS.ni hU.1 (j := 0) (by decide) rfl) (by decide) rfl (zfl_at (j := 0) (by decide))).trans ?_
  refine (ys1 17 (x := 1) rfl rfl rfl).trans ?_
  refine (ys7_1 18 rfl rfl).trans ?_
  refine (ys5 20 (L2 := [(4, .int (((T 0 2) - 1))), (3, .int (((T 0 0) - 1))), (2, .ref (u + 0)), (0, .ref (x + 0)), (1, .int (nI t))]) rfl rfl rfl rfl).trans ?_
  refine (ys4 21 (v := .ref (x + 0)) rfl rfl rfl rfl).trans ?_
  refine (ygr 24 rfl (zFS.tag hX.1 (j := 0) (by decide) rfl) rfl (hX.2 1 (by decide))).trans ?_
  refine (ys4 25 (v := .int (nI t)) rfl rfl rfl rfl).trans ?_
  refine (ylx 26 (N := 401) rfl (j := t) rfl (Or.inl (zFS.tag hX.1 (j := 2) (by decide) rfl)) (zFS.ni hX.1 (j := 2) (by decide) rfl) (by omega) (by decide) rfl (zfl_at2 (j := 2) hU.2.2.1 (by decide))).trans ?_
  refine (ys1 28 (x := 21) rfl rfl rfl).trans ?_
  refine ys18_1 31 rfl rfl (fun h28 => ?_) (fun h28 => ?_)
  · refine (ys4 32 (v := .ref (x + 0)) rfl rfl rfl rfl).trans ?_
    refine (ys4 33 (v := .int (nI t)) rfl rfl rfl rfl).trans ?_
    refine (yc2 36 rfl rfl (Nat.le_of_ble_eq_true rfl) (Or.inr (by show ztg (zwi _ _) _ = _; rw [ztg_wi]; exact (zFS.tag hX.1 (j := 0) (by decide) rfl))) rfl rfl (zlt' (zUs hU) (c_rno hX ht (hV t (Nat.le_refl _))))).trans ?_
    refine (ys19 rfl).trans ?_
    refine (ys5 42 (L2 := [(5, .int ((rnoL X t (rmn X t) 0 0))), (4, .int (((T 0 2) - 1))), (3, .int (((T 0 0) - 1))), (2, .ref (u + 0)), (0, .ref (x + 0)), (1, .int (nI t))]) rfl rfl rfl rfl).trans ?_
    refine (ys4 43 (v := .ref (x + 0)) rfl rfl rfl rfl).trans ?_
    refine (ygr 46 rfl (zFS.tag hX.1 (j := 0) (by decide) rfl) rfl (hX.2 4 (by decide))).trans ?_
    refine (ys4 47 (v := .int (nI t)) rfl rfl rfl rfl).trans ?_
    refine (ylx 48 (N := 401) rfl (j := t) rfl (Or.inl (zFS.tag hX.1 (j := 5) (by decide) rfl)) (zFS.ni hX.1 (j := 5) (by decide) rfl) (by omega) (by decide) rfl (Eq.trans (zfl_at2 (j := 5) hU.2.2.1 (by decide)) (show (X 5 t) = 9 from hrole))).trans ?_
    refine (ys21k 356 rfl (by decide)).trans ?_
    refine (ys4 357 (v := .ref (x + 0)) rfl rfl rfl rfl).trans ?_
    refine (ygr 360 rfl (zFS.tag hX.1 (j := 0) (by decide) rfl) rfl (hX.2 4 (by decide))).trans ?_
    refine (ys4 361 (v := .int (nI t)) rfl rfl rfl rfl).trans ?_
    refine (ylx 362 (N := 401) rfl (j := t) rfl (Or.inl (zFS.tag hX.1 (j := 5) (by decide) rfl)) (zFS.ni hX.1 (j := 5) (by decide) rfl) (by omega) (by decide) rfl (Eq.trans (zfl_at2 (j := 5) hU.2.2.1 (by decide)) (show (X 5 t) = 9 from hrole))).trans ?_
    refine ys17_1 365 rfl rfl (fun h362 => absurd h362 (by decide)) (fun h362 => ?_)
    refine (ys4 370 (v := .ref (x + 0)) rfl rfl rfl rfl).trans ?_
    refine (ys4 371 (v := .int (nI t)) rfl rfl rfl rfl).trans ?_
    refine (ys4 373 (v := .int ((rnoL X t (rmn X t) 0 0))) rfl rfl rfl rfl).trans ?_
    refine (yc3 376 rfl rfl (Nat.le_of_ble_eq_true rfl) (Or.inr (by show ztg (zwi _ _) _ = _; rw [ztg_wi]; exact (zFS.tag hX.1 (j := 0) (by decide) rfl))) rfl rfl (hc _ (fun _ => rfl))).trans ?_
    generalize hT1 : T' = T1
    refine (ys36 rfl rfl).trans ?_
    subst hT1; rfl
  · refine (ys1 40 (x := 0) rfl rfl rfl).trans ?_
    refine (ys5 42 (L2 := [(5, .int (0)), (4, .int (((T 0 2) - 1))), (3, .int (((T 0 0) - 1))), (2, .ref (u + 0)), (0, .ref (x + 0)), (1, .int (nI t))]) rfl rfl rfl rfl).trans ?_
    refine (ys4 43 (v := .ref (x + 0)) rfl rfl rfl rfl).trans ?_
    refine (ygr 46 rfl (zFS.tag hX.1 (j := 0) (by decide) rfl) rfl (hX.2 4 (by decide))).trans ?_
    refine (ys4 47 (v := .int (nI t)) rfl rfl rfl rfl).trans ?_
    refine (ylx 48 (N := 401) rfl (j := t) rfl (Or.inl (zFS.tag hX.1 (j := 5) (by decide) rfl)) (zFS.ni hX.1 (j := 5) (by decide) rfl) (by omega) (by decide) rfl (Eq.trans (zfl_at2 (j := 5) hU.2.2.1 (by decide)) (show (X 5 t) = 9 from hrole))).trans ?_
    refine (ys21k 356 rfl (by decide)).trans ?_
    refine (ys4 357 (v := .ref (x + 0)) rfl rfl rfl rfl).trans ?_
    refine (ygr 360 rfl (zFS.tag hX.1 (j := 0) (by decide) rfl) rfl (hX.2 4 (by decide))).trans ?_
    refine (ys4 361 (v := .int (nI t)) rfl rfl rfl rfl).trans ?_
    refine (ylx 362 (N := 401) rfl (j := t) rfl (Or.inl (zFS.tag hX.1 (j := 5) (by decide) rfl)) (zFS.ni hX.1 (j := 5) (by decide) rfl) (by omega) (by decide) rfl (Eq.trans (zfl_at2 (j := 5) hU.2.2.1 (by decide)) (show (X 5 t) = 9 from hrole))).trans ?_
    refine ys17_1 365 rfl rfl (fun h362 => absurd h362 (by decide)) (fun h362 => ?_)
    refine (ys4 370 (v := .ref (x + 0)) rfl rfl rfl rfl).trans ?_
    refine (ys4 371 (v := .int (nI t)) rfl rfl rfl rfl).trans ?_
    refine (ys4 373 (v := .int (0)) rfl rfl rfl rfl).trans ?_
    refine (yc3 376 rfl rfl (Nat.le_of_ble_eq_true rfl) (Or.inr (by show ztg (zwi _ _) _ = _; rw [ztg_wi]; exact (zFS.tag hX.1 (j := 0) (by decide) rfl))) rfl rfl (hc _ (fun h => absurd h h28))).trans ?_
    generalize hT2 : T' = T2
    refine (ys36 rfl rfl).trans ?_
    subst hT2; rfl

theorem c_er10 {d : Nat} {x u : Nat} {X T J : zFn} {μ : zM} (hX : zMX μ x) (hU : zUU μ x u) {t : Nat} (ht : t < 401) (hV : ∀ j, j ≤ t → zTK X j) (hrole : X 5 t = 10) {w : Int32} {T' : zFn} (hc : ∀ v : Int32, (X 2 t = 21 → v = rnoL X t (rmn X t) 0 0) → zden zcds (d + 6) 153 [.ref (x + 0), .int (nI t), .int v] (zwi μ (zfl (zfl J x 6 X) u 17 T)) = some (0, some (.int w), 0, 0, zwi μ (zfl (zfl J x 6 X) u 17 T'))) : zden zcds (d + 7) 152 [.ref (x + 0), .int (nI t)] (zwi μ (zfl (zfl J x 6 X) u 17 T)) = some (0, some (.int w), 0, 0, zwi μ (zfl (zfl J x 6 X) u 17 T')) := by
  refine (zd_in (d := d + 6) (cd := zc152) (nL := 6) (L := [(0, .ref (x + 0)), (1, .int (nI t))]) rfl (Nat.le_of_ble_eq_true rfl) rfl).trans ?_
  refine (ys4 1 (v := .ref (x + 0)) rfl rfl rfl rfl).trans ?_
  refine (ygr 4 rfl (zFS.tag hX.1 (j := 0) (by decide) rfl) rfl hU.2.2.2).trans ?_
  refine (ys5 5 (L2 := [(2, .ref (u + 0)), (0, .ref (x + 0)), (1, .int (nI t))]) rfl rfl rfl rfl).trans ?_
  refine (ys4 6 (v := .ref (u + 0)) rfl rfl rfl rfl).trans ?_
  refine (yg 9 rfl (zFS.tag hU.1 (j := 0) (by decide) rfl) (zFS.ni hU.1 (j := 0) (by decide) rfl) (by decide) rfl (zfl_at (j := 0) (by decide))).trans ?_
  refine (ys1 10 (x := 1) rfl rfl rfl).trans ?_
  refine (ys7_1 11 rfl rfl).trans ?_
  refine (ys5 12 (L2 := [(3, .int (((T 0 0) - 1))), (2, .ref (u + 0)), (0, .ref (x + 0)), (1, .int (nI t))]) rfl rfl rfl rfl).trans ?_
  refine (ys4 13 (v := .ref (u + 0)) rfl rfl rfl rfl).trans ?_
  refine (yg 16 rfl (zFS.tag hU.1 (j := 0) (by decide) rfl) (zFS.ni hU.1 (j := 0) (by decide) rfl) (by decide) rfl (zfl_at (j := 0) (by decide))).trans ?_
  refine (ys1 17 (x := 1) rfl rfl rfl).trans ?_
  refine (ys7_1 18 rfl rfl).trans ?_
  refine (ys5 20 (L2 := [(4, .int (((T 0 2) - 1))), (3, .int (((T 0 0) - 1))), (2, .ref (u + 0)), (0, .ref (x + 0)), (1, .int (nI t))]) rfl rfl rfl rfl).trans ?_
  refine (ys4 21 (v := .ref (x + 0)) rfl rfl rfl rfl).trans ?_
  refine (ygr 24 rfl (zFS.tag hX.1 (j := 0) (by decide) rfl) rfl (hX.2 1 (by decide))).trans ?_
  refine (ys4 25 (v := .int (nI t)) rfl rfl rfl rfl).trans ?_
  refine (ylx 26 (N := 401) rfl (j := t) rfl (Or.inl (zFS.tag hX.1 (j := 2) (by decide) rfl)) (zFS.ni hX.1 (j := 2) (by decide) rfl) (by omega) (by decide) rfl (zfl_at2 (j := 2) hU.2.2.1 (by decide))).trans ?_
  refine (ys1 28 (x := 21) rfl rfl rfl).trans ?_
  refine ys18_1 31 rfl rfl (fun h28 => ?_) (fun h28 => ?_)
  · refine (ys4 32 (v := .ref (x + 0)) rfl rfl rfl rfl).trans ?_
    refine (ys4 33 (v := .int (nI t)) rfl rfl rfl rfl).trans ?_
    refine (yc2 36 rfl rfl (Nat.le_of_ble_eq_true rfl) (Or.inr (by show ztg (zwi _ _) _ = _; rw [ztg_wi]; exact (zFS.tag hX.1 (j := 0) (by decide) rfl))) rfl rfl (zlt' (zUs hU) (c_rno hX ht (hV t (Nat.le_refl _))))).trans ?_
    refine (ys19 rfl).trans ?_
    refine (ys5 42 (L2 := [(5, .int ((rnoL X t (rmn X t) 0 0))), (4, .int (((T 0 2) - 1))), (3, .int (((T 0 0) - 1))), (2, .ref (u + 0)), (0, .ref (x + 0)), (1, .int (nI t))]) rfl rfl rfl rfl).trans ?_
    refine (ys4 43 (v := .ref (x + 0)) rfl rfl rfl rfl).trans ?_
    refine (ygr 46 rfl (zFS.tag hX.1 (j := 0) (by decide) rfl) rfl (hX.2 4 (by decide))).trans ?_
    refine (ys4 47 (v := .int (nI t)) rfl rfl rfl rfl).trans ?_
    refine (ylx 48 (N := 401) rfl (j := t) rfl (Or.inl (zFS.tag hX.1 (j := 5) (by decide) rfl)) (zFS.ni hX.1 (j := 5) (by decide) rfl) (by omega) (by decide) rfl (Eq.trans (zfl_at2 (j := 5) hU.2.2.1 (by decide)) (show (X 5 t) = 10 from hrole))).trans ?_
    refine (ys21k 356 rfl (by decide)).trans ?_
    refine (ys4 357 (v := .ref (x + 0)) rfl rfl rfl rfl).trans ?_
    refine (ygr 360 rfl (zFS.tag hX.1 (j := 0) (by decide) rfl) rfl (hX.2 4 (by decide))).trans ?_
    refine (ys4 361 (v := .int (nI t)) rfl rfl rfl rfl).trans ?_
    refine (ylx 362 (N := 401) rfl (j := t) rfl (Or.inl (zFS.tag hX.1 (j := 5) (by decide) rfl)) (zFS.ni hX.1 (j := 5) (by decide) rfl) (by omega) (by decide) rfl (Eq.trans (zfl_at2 (j := 5) hU.2.2.1 (by decide)) (show (X 5 t) = 10 from hrole))).trans ?_
    refine ys17_1 365 rfl rfl (fun h362 => absurd h362 (by decide)) (fun h362 => ?_)
    refine (ys4 370 (v := .ref (x + 0)) rfl rfl rfl rfl).trans ?_
    refine (ys4 371 (v := .int (nI t)) rfl rfl rfl rfl).trans ?_
    refine (ys4 373 (v := .int ((rnoL X t (rmn X t) 0 0))) rfl rfl rfl rfl).trans ?_
    refine (yc3 376 rfl rfl (Nat.le_of_ble_eq_true rfl) (Or.inr (by show ztg (zwi _ _) _ = _; rw [ztg_wi]; exact (zFS.tag hX.1 (j := 0) (by decide) rfl))) rfl rfl (hc _ (fun _ => rfl))).trans ?_
    generalize hT1 : T' = T1
    refine (ys36 rfl rfl).trans ?_
    subst hT1; rfl
  · refine (ys1 40 (x := 0) rfl rfl rfl).trans ?_
    refine (ys5 42 (L2 := [(5, .int (0)), (4, .int (((T 0 2) - 1))), (3, .int (((T 0 0) - 1))), (2, .ref (u + 0)), (0, .ref (x + 0)), (1, .int (nI t))]) rfl rfl rfl rfl).trans ?_
    refine (ys4 43 (v := .ref (x + 0)) rfl rfl rfl rfl).trans ?_
    refine (ygr 46 rfl (zFS.tag hX.1 (j := 0) (by decide) rfl) rfl (hX.2 4 (by decide))).trans ?_
    refine (ys4 47 (v := .int (nI t)) rfl rfl rfl rfl).trans ?_
    refine (ylx 48 (N := 401) rfl (j := t) rfl (Or.inl (zFS.tag hX.1 (j := 5) (by decide) rfl)) (zFS.ni hX.1 (j := 5) (by decide) rfl) (by omega) (by decide) rfl (Eq.trans (zfl_at2 (j := 5) hU.2.2.1 (by decide)) (show (X 5 t) = 10 from hrole))).trans ?_
    refine (ys21k 356 rfl (by decide)).trans ?_
    refine (ys4 357 (v := .ref (x + 0)) rfl rfl rfl rfl).trans ?_
    refine (ygr 360 rfl (zFS.tag hX.1 (j := 0) (by decide) rfl) rfl (hX.2 4 (by decide))).trans ?_
    refine (ys4 361 (v := .int (nI t)) rfl rfl rfl rfl).trans ?_
    refine (ylx 362 (N := 401) rfl (j := t) rfl (Or.inl (zFS.tag hX.1 (j := 5) (by decide) rfl)) (zFS.ni hX.1 (j := 5) (by decide) rfl) (by omega) (by decide) rfl (Eq.trans (zfl_at2 (j := 5) hU.2.2.1 (by decide)) (show (X 5 t) = 10 from hrole))).trans ?_
    refine ys17_1 365 rfl rfl (fun h362 => absurd h362 (by decide)) (fun h362 => ?_)
    refine (ys4 370 (v := .ref (x + 0)) rfl rfl rfl rfl).trans ?_
    refine (ys4 371 (v := .int (nI t)) rfl rfl rfl rfl).trans ?_
    refine (ys4 373 (v := .int (0)) rfl rfl rfl rfl).trans ?_
    refine (yc3 376 rfl rfl (Nat.le_of_ble_eq_true rfl) (Or.inr (by show ztg (zwi _ _) _ = _; rw [ztg_wi]; exact (zFS.tag hX.1 (j := 0) (by decide) rfl))) rfl rfl (hc _ (fun h => absurd h h28))).trans ?_
    generalize hT2 : T' = T2
    refine (ys36 rfl rfl).trans ?_
    subst hT2; rfl

theorem c_er11 {d : Nat} {x u : Nat} {X T J : zFn} {μ : zM} (hX : zMX μ x) (hU : zUU μ x u) {t : Nat} (ht : t < 401) (hV : ∀ j, j ≤ t → zTK X j) (hrole : X 5 t = 11) {w : Int32} {T' : zFn} (hc : ∀ v : Int32, (X 2 t = 21 → v = rnoL X t (rmn X t) 0 0) → zden zcds (d + 6) 153 [.ref (x + 0), .int (nI t), .int v] (zwi μ (zfl (zfl J x 6 X) u 17 T)) = some (0, some (.int w), 0, 0, zwi μ (zfl (zfl J x 6 X) u 17 T'))) : zden zcds (d + 7) 152 [.ref (x + 0), .int (nI t)] (zwi μ (zfl (zfl J x 6 X) u 17 T)) = some (0, some (.int w), 0, 0, zwi μ (zfl (zfl J x 6 X) u 17 T')) := by
  refine (zd_in (d := d + 6) (cd := zc152) (nL := 6) (L := [(0, .ref (x + 0)), (1, .int (nI t))]) rfl (Nat.le_of_ble_eq_true rfl) rfl).trans ?_
  refine (ys4 1 (v := .ref (x + 0)) rfl rfl rfl rfl).trans ?_
  refine (ygr 4 rfl (zFS.tag hX.1 (j := 0) (by decide) rfl) rfl hU.2.2.2).trans ?_
  refine (ys5 5 (L2 := [(2, .ref (u + 0)), (0, .ref (x + 0)), (1, .int (nI t))]) rfl rfl rfl rfl).trans ?_
  refine (ys4 6 (v := .ref (u + 0)) rfl rfl rfl rfl).trans ?_
  refine (yg 9 rfl (zFS.tag hU.1 (j := 0) (by decide) rfl) (zFS.ni hU.1 (j := 0) (by decide) rfl) (by decide) rfl (zfl_at (j := 0) (by decide))).trans ?_
  refine (ys1 10 (x := 1) rfl rfl rfl).trans ?_
  refine (ys7_1 11 rfl rfl).trans ?_
  refine (ys5 12 (L2 := [(3, .int (((T 0 0) - 1))), (2, .ref (u + 0)), (0, .ref (x + 0)), (1, .int (nI t))]) rfl rfl rfl rfl).trans ?_
  refine (ys4 13 (v := .ref (u + 0)) rfl rfl rfl rfl).trans ?_
  refine (yg 16 rfl (zFS.tag hU.1 (j := 0) (by decide) rfl) (zFS.ni hU.1 (j := 0) (by decide) rfl) (by decide) rfl (zfl_at (j := 0) (by decide))).trans ?_
  refine (ys1 17 (x := 1) rfl rfl rfl).trans ?_
  refine (ys7_1 18 rfl rfl).trans ?_
  refine (ys5 20 (L2 := [(4, .int (((T 0 2) - 1))), (3, .int (((T 0 0) - 1))), (2, .ref (u + 0)), (0, .ref (x + 0)), (1, .int (nI t))]) rfl rfl rfl rfl).trans ?_
  refine (ys4 21 (v := .ref (x + 0)) rfl rfl rfl rfl).trans ?_
  refine (ygr 24 rfl (zFS.tag hX.1 (j := 0) (by decide) rfl) rfl (hX.2 1 (by decide))).trans ?_
  refine (ys4 25 (v := .int (nI t)) rfl rfl rfl rfl).trans ?_
  refine (ylx 26 (N := 401) rfl (j := t) rfl (Or.inl (zFS.tag hX.1 (j := 2) (by decide) rfl)) (zFS.ni hX.1 (j := 2) (by decide) rfl) (by omega) (by decide) rfl (zfl_at2 (j := 2) hU.2.2.1 (by decide))).trans ?_
  refine (ys1 28 (x := 21) rfl rfl rfl).trans ?_
  refine ys18_1 31 rfl rfl (fun h28 => ?_) (fun h28 => ?_)
  · refine (ys4 32 (v := .ref (x + 0)) rfl rfl rfl rfl).trans ?_
    refine (ys4 33 (v := .int (nI t)) rfl rfl rfl rfl).trans ?_
    refine (yc2 36 rfl rfl (Nat.le_of_ble_eq_true rfl) (Or.inr (by show ztg (zwi _ _) _ = _; rw [ztg_wi]; exact (zFS.tag hX.1 (j := 0) (by decide) rfl))) rfl rfl (zlt' (zUs hU) (c_rno hX ht (hV t (Nat.le_refl _))))).trans ?_
    refine (ys19 rfl).trans ?_
    refine (ys5 42 (L2 := [(5, .int ((rnoL X t (rmn X t) 0 0))), (4, .int (((T 0 2) - 1))), (3, .int (((T 0 0) - 1))), (2, .ref (u + 0)), (0, .ref (x + 0)), (1, .int (nI t))]) rfl rfl rfl rfl).trans ?_
    refine (ys4 43 (v := .ref (x + 0)) rfl rfl rfl rfl).trans ?_
    refine (ygr 46 rfl (zFS.tag hX.1 (j := 0) (by decide) rfl) rfl (hX.2 4 (by decide))).trans ?_
    refine (ys4 47 (v := .int (nI t)) rfl rfl rfl rfl).trans ?_
    refine (ylx 48 (N := 401) rfl (j := t) rfl (Or.inl (zFS.tag hX.1 (j := 5) (by decide) rfl)) (zFS.ni hX.1 (j := 5) (by decide) rfl) (by omega) (by decide) rfl (Eq.trans (zfl_at2 (j := 5) hU.2.2.1 (by decide)) (show (X 5 t) = 11 from hrole))).trans ?_
    refine (ys21k 356 rfl (by decide)).trans ?_
    refine (ys4 357 (v := .ref (x + 0)) rfl rfl rfl rfl).trans ?_
    refine (ygr 360 rfl (zFS.tag hX.1 (j := 0) (by decide) rfl) rfl (hX.2 4 (by decide))).trans ?_
    refine (ys4 361 (v := .int (nI t)) rfl rfl rfl rfl).trans ?_
    refine (ylx 362 (N := 401) rfl (j := t) rfl (Or.inl (zFS.tag hX.1 (j := 5) (by decide) rfl)) (zFS.ni hX.1 (j := 5) (by decide) rfl) (by omega) (by decide) rfl (Eq.trans (zfl_at2 (j := 5) hU.2.2.1 (by decide)) (show (X 5 t) = 11 from hrole))).trans ?_
    refine ys17_1 365 rfl rfl (fun h362 => absurd h362 (by decide)) (fun h362 => ?_)
    refine (ys4 370 (v := .ref (x + 0)) rfl rfl rfl rfl).trans ?_
    refine (ys4 371 (v := .int (nI t)) rfl rfl rfl rfl).trans ?_
    refine (ys4 373 (v := .int ((rnoL X t (rmn X t) 0 0))) rfl rfl rfl rfl).trans ?_
    refine (yc3 376 rfl rfl (Nat.le_of_ble_eq_true rfl) (Or.inr (by show ztg (zwi _ _) _ = _; rw [ztg_wi]; exact (zFS.tag hX.1 (j := 0) (by decide) rfl))) rfl rfl (hc _ (fun _ => rfl))).trans ?_
    generalize hT1 : T' = T1
    refine (ys36 rfl rfl).trans ?_
    subst hT1; rfl
  · refine (ys1 40 (x := 0) rfl rfl rfl).trans ?_
    refine (ys5 42 (L2 := [(5, .int (0)), (4, .int (((T 0 2) - 1))), (3, .int (((T 0 0) - 1))), (2, .ref (u + 0)), (0, .ref (x + 0)), (1, .int (nI t))]) rfl rfl rfl rfl).trans ?_
    refine (ys4 43 (v := .ref (x + 0)) rfl rfl rfl rfl).trans ?_
    refine (ygr 46 rfl (zFS.tag hX.1 (j := 0) (by decide) rfl) rfl (hX.2 4 (by decide))).trans ?_
    refine (ys4 47 (v := .int (nI t)) rfl rfl rfl rfl).trans ?_
    refine (ylx 48 (N := 401) rfl (j := t) rfl (Or.inl (zFS.tag hX.1 (j := 5) (by decide) rfl)) (zFS.ni hX.1 (j := 5) (by decide) rfl) (by omega) (by decide) rfl (Eq.trans (zfl_at2 (j := 5) hU.2.2.1 (by decide)) (show (X 5 t) = 11 from hrole))).trans ?_
    refine (ys21k 356 rfl (by decide)).trans ?_
    refine (ys4 357 (v := .ref (x + 0)) rfl rfl rfl rfl).trans ?_
    refine (ygr 360 rfl (zFS.tag hX.1 (j := 0) (by decide) rfl) rfl (hX.2 4 (by decide))).trans ?_
    refine (ys4 361 (v := .int (nI t)) rfl rfl rfl rfl).trans ?_
    refine (ylx 362 (N := 401) rfl (j := t) rfl (Or.inl (zFS.tag hX.1 (j := 5) (by decide) rfl)) (zFS.ni hX.1 (j := 5) (by decide) rfl) (by omega) (by decide) rfl (Eq.trans (zfl_at2 (j := 5) hU.2.2.1 (by decide)) (show (X 5 t) = 11 from hrole))).trans ?_
    refine ys17_1 365 rfl rfl (fun h362 => absurd h362 (by decide)) (fun h362 => ?_)
    refine (ys4 370 (v := .ref (x + 0)) rfl rfl rfl rfl).trans ?_
    refine (ys4 371 (v := .int (nI t)) rfl rfl rfl rfl).trans ?_
    refine (ys4 373 (v := .int (0)) rfl rfl rfl rfl).trans ?_
    refine (yc3 376 rfl rfl (Nat.le_of_ble_eq_true rfl) (Or.inr (by show ztg (zwi _ _) _ = _; rw [ztg_wi]; exact (zFS.tag hX.1 (j := 0) (by decide) rfl))) rfl rfl (hc _ (fun h => absurd h h28))).trans ?_
    generalize hT2 : T' = T2
    refine (ys36 rfl rfl).trans ?_
    subst hT2; rfl

theorem c_er12 {d : Nat} {x u : Nat} {X T J : zFn} {μ : zM} (hX : zMX μ x) (hU : zUU μ x u) {t : Nat} (ht : t < 401) (hV : ∀ j, j ≤ t → zTK X j) (hrole : X 5 t = 12) {w : Int32} {T' : zFn} (hc : ∀ v : Int32, (X 2 t = 21 → v = rnoL X t (rmn X t) 0 0) → zden zcds (d + 6) 153 [.ref (x + 0), .int (nI t), .int v] (zwi μ (zfl (zfl J x 6 X) u 17 T)) = some (0, some (.int w), 0, 0, zwi μ (zfl (zfl J x 6 X) u 17 T'))) : zden zcds (d + 7) 152 [.ref (x + 0), .int (nI t)] (zwi μ (zfl (zfl J x 6 X) u 17 T)) = some (0, some (.int w), 0, 0, zwi μ (zfl (zfl J x 6 X) u 17 T')) := by
  refine (zd_in (d := d + 6) (cd := zc152) (nL := 6) (L := [(0, .ref (x + 0)), (1, .int (nI t))]) rfl (Nat.le_of_ble_eq_true rfl) rfl).trans ?_
  refine (ys4 1 (v := .ref (x + 0)) rfl rfl rfl rfl).trans ?_
  refine (ygr 4 rfl (zFS.tag hX.1 (j := 0) (by decide) rfl) rfl hU.2.2.2).trans ?_
  refine (ys5 5 (L2 := [(2, .ref (u + 0)), (0, .ref (x + 0)), (1, .int (nI t))]) rfl rfl rfl rfl).trans ?_
  refine (ys4 6 (v := .ref (u + 0)) rfl rfl rfl rfl).trans ?_
  refine (yg 9 rfl (zFS.tag hU.1 (j := 0) (by decide) rfl) (zFS.ni hU.1 (j := 0) (by decide) rfl) (by decide) rfl (zfl_at (j := 0) (by decide))).trans ?_
  refine (ys1 10 (x := 1) rfl rfl rfl).trans ?_
  refine (ys7_1 11 rfl rfl).trans ?_
  refine (ys5 12 (L2 := [(3, .int (((T 0 0) - 1))), (2, .ref (u + 0)), (0, .ref (x + 0)), (1, .int (nI t))]) rfl rfl rfl rfl).trans ?_
  refine (ys4 13 (v := .ref (u + 0)) rfl rfl rfl rfl).trans ?_
  refine (yg 16 rfl (zFS.tag hU.1 (j := 0) (by decide) rfl) (zFS.ni hU.1 (j := 0) (by decide) rfl) (by decide) rfl (zfl_at (j := 0) (by decide))).trans ?_
  refine (ys1 17 (x := 1) rfl rfl rfl).trans ?_
  refine (ys7_1 18 rfl rfl).trans ?_
  refine (ys5 20 (L2 := [(4, .int (((T 0 2) - 1))), (3, .int (((T 0 0) - 1))), (2, .ref (u + 0)), (0, .ref (x + 0)), (1, .int (nI t))]) rfl rfl rfl rfl).trans ?_
  refine (ys4 21 (v := .ref (x + 0)) rfl rfl rfl rfl).trans ?_
  refine (ygr 24 rfl (zFS.tag hX.1 (j := 0) (by decide) rfl) rfl (hX.2 1 (by decide))).trans ?_
  refine (ys4 25 (v := .int (nI t)) rfl rfl rfl rfl).trans ?_
  refine (ylx 26 (N := 401) rfl (j := t) rfl (Or.inl (zFS.tag hX.1 (j := 2) (by decide) rfl)) (zFS.ni hX.1 (j := 2) (by decide) rfl) (by omega) (by decide) rfl (zfl_at2 (j := 2) hU.2.2.1 (by decide))).trans ?_
  refine (ys1 28 (x := 21) rfl rfl rfl).trans ?_
  refine ys18_1 31 rfl rfl (fun h28 => ?_) (fun h28 => ?_)
  · refine (ys4 32 (v := .ref (x + 0)) rfl rfl rfl rfl).trans ?_
    refine (ys4 33 (v := .int (nI t)) rfl rfl rfl rfl).trans ?_
    refine (yc2 36 rfl rfl (Nat.le_of_ble_eq_true rfl) (Or.inr (by show ztg (zwi _ _) _ = _; rw [ztg_wi]; exact (zFS.tag hX.1 (j := 0) (by decide) rfl))) rfl rfl (zlt' (zUs hU) (c_rno hX ht (hV t (Nat.le_refl _))))).trans ?_
    refine (ys19 rfl).trans ?_
    refine (ys5 42 (L2 := [(5, .int ((rnoL X t (rmn X t) 0 0))), (4, .int (((T 0 2) - 1))), (3, .int (((T 0 0) - 1))), (2, .ref (u + 0)), (0, .ref (x + 0)), (1, .int (nI t))]) rfl rfl rfl rfl).trans ?_
    refine (ys4 43 (v := .ref (x + 0)) rfl rfl rfl rfl).trans ?_
    refine (ygr 46 rfl (zFS.tag hX.1 (j := 0) (by decide) rfl) rfl (hX.2 4 (by decide))).trans ?_
    refine (ys4 47 (v := .int (nI t)) rfl rfl rfl rfl).trans ?_
    refine (ylx 48 (N := 401) rfl (j := t) rfl (Or.inl (zFS.tag hX.1 (j := 5) (by decide) rfl)) (zFS.ni hX.1 (j := 5) (by decide) rfl) (by omega) (by decide) rfl (Eq.trans (zfl_at2 (j := 5) hU.2.2.1 (by decide)) (show (X 5 t) = 12 from hrole))).trans ?_
    refine (ys21k 356 rfl (by decide)).trans ?_
    refine (ys4 357 (v := .ref (x + 0)) rfl rfl rfl rfl).trans ?_
    refine (ygr 360 rfl (zFS.tag hX.1 (j := 0) (by decide) rfl) rfl (hX.2 4 (by decide))).trans ?_
    refine (ys4 361 (v := .int (nI t)) rfl rfl rfl rfl).trans ?_
    refine (ylx 362 (N := 401) rfl (j := t) rfl (Or.inl (zFS.tag hX.1 (j := 5) (by decide) rfl)) (zFS.ni hX.1 (j := 5) (by decide) rfl) (by omega) (by decide) rfl (Eq.trans (zfl_at2 (j := 5) hU.2.2.1 (by decide)) (show (X 5 t) = 12 from hrole))).trans ?_
    refine ys17_1 365 rfl rfl (fun h362 => absurd h362 (by decide)) (fun h362 => ?_)
    refine (ys4 370 (v := .ref (x + 0)) rfl rfl rfl rfl).trans ?_
    refine (ys4 371 (v := .int (nI t)) rfl rfl rfl rfl).trans ?_
    refine (ys4 373 (v := .int ((rnoL X t (rmn X t) 0 0))) rfl rfl rfl rfl).trans ?_
    refine (yc3 376 rfl rfl (Nat.le_of_ble_eq_true rfl) (Or.inr (by show ztg (zwi _ _) _ = _; rw [ztg_wi]; exact (zFS.tag hX.1 (j := 0) (by decide) rfl))) rfl rfl (hc _ (fun _ => rfl))).trans ?_
    generalize hT1 : T' = T1
    refine (ys36 rfl rfl).trans ?_
    subst hT1; rfl
  · refine (ys1 40 (x := 0) rfl rfl rfl).trans ?_
    refine (ys5 42 (L2 := [(5, .int (0)), (4, .int (((T 0 2) - 1))), (3, .int (((T 0 0) - 1))), (2, .ref (u + 0)), (0, .ref (x + 0)), (1, .int (nI t))]) rfl rfl rfl rfl).trans ?_
    refine (ys4 43 (v := .ref (x + 0)) rfl rfl rfl rfl).trans ?_
    refine (ygr 46 rfl (zFS.tag hX.1 (j := 0) (by decide) rfl) rfl (hX.2 4 (by decide))).trans ?_
    refine (ys4 47 (v := .int (nI t)) rfl rfl rfl rfl).trans ?_
    refine (ylx 48 (N := 401) rfl (j := t) rfl (Or.inl (zFS.tag hX.1 (j := 5) (by decide) rfl)) (zFS.ni hX.1 (j := 5) (by decide) rfl) (by omega) (by decide) rfl (Eq.trans (zfl_at2 (j := 5) hU.2.2.1 (by decide)) (show (X 5 t) = 12 from hrole))).trans ?_
    refine (ys21k 356 rfl (by decide)).trans ?_
    refine (ys4 357 (v := .ref (x + 0)) rfl rfl rfl rfl).trans ?_
    refine (ygr 360 rfl (zFS.tag hX.1 (j := 0) (by decide) rfl) rfl (hX.2 4 (by decide))).trans ?_
    refine (ys4 361 (v := .int (nI t)) rfl rfl rfl rfl).trans ?_
    refine (ylx 362 (N := 401) rfl (j := t) rfl (Or.inl (zFS.tag hX.1 (j := 5) (by decide) rfl)) (zFS.ni hX.1 (j := 5) (by decide) rfl) (by omega) (by decide) rfl (Eq.trans (zfl_at2 (j := 5) hU.2.2.1 (by decide)) (show (X 5 t) = 12 from hrole))).trans ?_
    refine ys17_1 365 rfl rfl (fun h362 => absurd h362 (by decide)) (fun h362 => ?_)
    refine (ys4 370 (v := .ref (x + 0)) rfl rfl rfl rfl).trans ?_
    refine (ys4 371 (v := .int (nI t)) rfl rfl rfl rfl).trans ?_
    refine (ys4 373 (v := .int (0)) rfl rfl rfl rfl).trans ?_
    refine (yc3 376 rfl rfl (Nat.le_of_ble_eq_true rfl) (Or.inr (by show ztg (zwi _ _) _ = _; rw [ztg_wi]; exact (zFS.tag hX.1 (j := 0) (by decide) rfl))) rfl rfl (hc _ (fun h => absurd h h28))).trans ?_
    generalize hT2 : T' = T2
    refine (ys36 rfl rfl).trans ?_
    subst hT2; rfl

theorem c_er17 {d : Nat} {x u : Nat} {X T J : zFn} {μ : zM} (hX : zMX μ x) (hU : zUU μ x u) {t : Nat} (ht : t < 401) (hV : ∀ j, j ≤ t → zTK X j) (hrole : X 5 t = 17) {w : Int32} {T' : zFn} (hc : ∀ v : Int32, (X 2 t = 21 → v = rnoL X t (rmn X t) 0 0) → zden zcds (d + 6) 153 [.ref (x + 0), .int (nI t), .int v] (zwi μ (zfl (zfl J x 6 X) u 17 T)) = some (0, some (.int w), 0, 0, zwi μ (zfl (zfl J x 6 X) u 17 T'))) : zden zcds (d + 7) 152 [.ref (x + 0), .int (nI t)] (zwi μ (zfl (zfl J x 6 X) u 17 T)) = some (0, some (.int w), 0, 0, zwi μ (zfl (zfl J x 6 X) u 17 T')) := by
  refine (zd_in (d := d + 6) (cd := zc152) (nL := 6) (L := [(0, .ref (x + 0)), (1, .int (nI t))]) rfl (Nat.le_of_ble_eq_true rfl) rfl).trans ?_
  refine (ys4 1 (v := .ref (x + 0)) rfl rfl rfl rfl).trans ?_
  refine (ygr 4 rfl (zFS.tag hX.1 (j := 0) (by decide) rfl) rfl hU.2.2.2).trans ?_
  refine (ys5 5 (L2 := [(2, .ref (u + 0)), (0, .ref (x + 0)), (1, .int (nI t))]) rfl rfl rfl rfl).trans ?_
  refine (ys4 6 (v := .ref (u + 0)) rfl rfl rfl rfl).trans ?_
  refine (yg 9 rfl (zFS.tag hU.1 (j := 0) (by decide) rfl) (zFS.ni hU.1 (j := 0) (by decide) rfl) (by decide) rfl (zfl_at (j := 0) (by decide))).trans ?_
  refine (ys1 10 (x := 1) rfl rfl rfl).trans ?_
  refine (ys7_1 11 rfl rfl).trans ?_
  refine (ys5 12 (L2 := [(3, .int (((T 0 0) - 1))), (2, .ref (u + 0)), (0, .ref (x + 0)), (1, .int (nI t))]) rfl rfl rfl rfl).trans ?_
  refine (ys4 13 (v := .ref (u + 0)) rfl rfl rfl rfl).trans ?_
  refine (yg 16 rfl (zFS.tag hU.1 (j := 0) (by decide) rfl) (zFS.ni hU.1 (j := 0) (by decide) rfl) (by decide) rfl (zfl_at (j := 0) (by decide))).trans ?_
  refine (ys1 17 (x := 1) rfl rfl rfl).trans ?_
  refine (ys7_1 18 rfl rfl).trans ?_
  refine (ys5 20 (L2 := [(4, .int (((T 0 2) - 1))), (3, .int (((T 0 0) - 1))), (2, .ref (u + 0)), (0, .ref (x + 0)), (1, .int (nI t))]) rfl rfl rfl rfl).trans ?_
  refine (ys4 21 (v := .ref (x + 0)) rfl rfl rfl rfl).trans ?_
  refine (ygr 24 rfl (zFS.tag hX.1 (j := 0) (by decide) rfl) rfl (hX.2 1 (by decide))).trans ?_
  refine (ys4 25 (v := .int (nI t)) rfl rfl rfl rfl).trans ?_
  refine (ylx 26 (N := 401) rfl (j := t) rfl (Or.inl (zFS.tag hX.1 (j := 2) (by decide) rfl)) (zFS.ni hX.1 (j := 2) (by decide) rfl) (by omega) (by decide) rfl (zfl_at2 (j := 2) hU.2.2.1 (by decide))).trans ?_
  refine (ys1 28 (x := 21) rfl rfl rfl).trans ?_
  refine ys18_1 31 rfl rfl (fun h28 => ?_) (fun h28 => ?_)
  · refine (ys4 32 (v := .ref (x + 0)) rfl rfl rfl rfl).trans ?_
    refine (ys4 33 (v := .int (nI t)) rfl rfl rfl rfl).trans ?_
    refine (yc2 36 rfl rfl (Nat.le_of_ble_eq_true rfl) (Or.inr (by show ztg (zwi _ _) _ = _; rw [ztg_wi]; exact (zFS.tag hX.1 (j := 0) (by decide) rfl))) rfl rfl (zlt' (zUs hU) (c_rno hX ht (hV t (Nat.le_refl _))))).trans ?_
    refine (ys19 rfl).trans ?_
    refine (ys5 42 (L2 := [(5, .int ((rnoL X t (rmn X t) 0 0))), (4, .int (((T 0 2) - 1))), (3, .int (((T 0 0) - 1))), (2, .ref (u + 0)), (0, .ref (x + 0)), (1, .int (nI t))]) rfl rfl rfl rfl).trans ?_
    refine (ys4 43 (v := .ref (x + 0)) rfl rfl rfl rfl).trans ?_
    refine (ygr 46 rfl (zFS.tag hX.1 (j := 0) (by decide) rfl) rfl (hX.2 4 (by decide))).trans ?_
    refine (ys4 47 (v := .int (nI t)) rfl rfl rfl rfl).trans ?_
    refine (ylx 48 (N := 401) rfl (j := t) rfl (Or.inl (zFS.tag hX.1 (j := 5) (by decide) rfl)) (zFS.ni hX.1 (j := 5) (by decide) rfl) (by omega) (by decide) rfl (Eq.trans (zfl_at2 (j := 5) hU.2.2.1 (by decide)) (show (X 5 t) = 17 from hrole))).trans ?_
    refine (ys21k 356 rfl (by decide)).trans ?_
    refine (ys4 357 (v := .ref (x + 0)) rfl rfl rfl rfl).trans ?_
    refine (ygr 360 rfl (zFS.tag hX.1 (j := 0) (by decide) rfl) rfl (hX.2 4 (by decide))).trans ?_
    refine (ys4 361 (v := .int (nI t)) rfl rfl rfl rfl).trans ?_
    refine (ylx 362 (N := 401) rfl (j := t) rfl (Or.inl (zFS.tag hX.1 (j := 5) (by decide) rfl)) (zFS.ni hX.1 (j := 5) (by decide) rfl) (by omega) (by decide) rfl (Eq.trans (zfl_at2 (j := 5) hU.2.2.1 (by decide)) (show (X 5 t) = 17 from hrole))).trans ?_
    refine ys17_1 365 rfl rfl (fun h362 => absurd h362 (by decide)) (fun h362 => ?_)
    refine (ys4 370 (v := .ref (x + 0)) rfl rfl rfl rfl).trans ?_
    refine (ys4 371 (v := .int (nI t)) rfl rfl rfl rfl).trans ?_
    refine (ys4 373 (v := .int ((rnoL X t (rmn X t) 0 0))) rfl rfl rfl rfl).trans ?_
    refine (yc3 376 rfl rfl (Nat.le_of_ble_eq_true rfl) (Or.inr (by show ztg (zwi _ _) _ = _; rw [ztg_wi]; exact (zFS.tag hX.1 (j := 0) (by decide) rfl))) rfl rfl (hc _ (fun _ => rfl))).trans ?_
    generalize hT1 : T' = T1
    refine (ys36 rfl rfl).trans ?_
    subst hT1; rfl
  · refine (ys1 40 (x := 0) rfl rfl rfl).trans ?_
    refine (ys5 42 (L2 := [(5, .int (0)), (4, .int (((T 0 2) - 1))), (3, .int (((T 0 0) - 1))), (2, .ref (u + 0)), (0, .ref (x + 0)), (1, .int (nI t))]) rfl rfl rfl rfl).trans ?_
    refine (ys4 43 (v := .ref (x + 0)) rfl rfl rfl rfl).trans ?_
    refine (ygr 46 rfl (zFS.tag hX.1 (j := 0) (by decide) rfl) rfl (hX.2 4 (by decide))).trans ?_
    refine (ys4 47 (v := .int (nI t)) rfl rfl rfl rfl).trans ?_
    refine (ylx 48 (N := 401) rfl (j := t) rfl (Or.inl (zFS.tag hX.1 (j := 5) (by decide) rfl)) (zFS.ni hX.1 (j := 5) (by decide) rfl) (by omega) (by decide) rfl (Eq.trans (zfl_at2 (j := 5) hU.2.2.1 (by decide)) (show (X 5 t) = 17 from hrole))).trans ?_
    refine (ys21k 356 rfl (by decide)).trans ?_
    refine (ys4 357 (v := .ref (x + 0)) rfl rfl rfl rfl).trans ?_
    refine (ygr 360 rfl (zFS.tag hX.1 (j := 0) (by decide) rfl) rfl (hX.2 4 (by decide))).trans ?_
    refine (ys4 361 (v := .int (nI t)) rfl rfl rfl rfl).trans ?_
    refine (ylx 362 (N := 401) rfl (j := t) rfl (Or.inl (zFS.tag hX.1 (j := 5) (by decide) rfl)) (zFS.ni hX.1 (j := 5) (by decide) rfl) (by omega) (by decide) rfl (Eq.trans (zfl_at2 (j := 5) hU.2.2.1 (by decide)) (show (X 5 t) = 17 from hrole))).trans ?_
    refine ys17_1 365 rfl rfl (fun h362 => absurd h362 (by decide)) (fun h362 => ?_)
    refine (ys4 370 (v := .ref (x + 0)) rfl rfl rfl rfl).trans ?_
    refine (ys4 371 (v := .int (nI t)) rfl rfl rfl rfl).trans ?_
    refine (ys4 373 (v := .int (0)) rfl rfl rfl rfl).trans ?_
    refine (yc3 376 rfl rfl (Nat.le_of_ble_eq_true rfl) (Or.inr (by show ztg (zwi _ _) _ = _; rw [ztg_wi]; exact (zFS.tag hX.1 (j := 0) (by decide) rfl))) rfl rfl (hc _ (fun h => absurd h h28))).trans ?_
    generalize hT2 : T' = T2
    refine (ys36 rfl rfl).trans ?_
    subst hT2; rfl

theorem c_er18 {d : Nat} {x u : Nat} {X T J : zFn} {μ : zM} (hX : zMX μ x) (hU : zUU μ x u) {t : Nat} (ht : t < 401) (hV : ∀ j, j ≤ t → zTK X j) (hrole : X 5 t = 18) {w : Int32} {T' : zFn} (hc : ∀ v : Int32, (X 2 t = 21 → v = rnoL X t (rmn X t) 0 0) → zden zcds (d + 6) 153 [.ref (x + 0), .int (nI t), .int v] (zwi μ (zfl (zfl J x 6 X) u 17 T)) = some (0, some (.int w), 0, 0, zwi μ (zfl (zfl J x 6 X) u 17 T'))) : zden zcds (d + 7) 152 [.ref (x + 0), .int (nI t)] (zwi μ (zfl (zfl J x 6 X) u 17 T)) = some (0, some (.int w), 0, 0, zwi μ (zfl (zfl J x 6 X) u 17 T')) := by
  refine (zd_in (d := d + 6) (cd := zc152) (nL := 6) (L := [(0, .ref (x + 0)), (1, .int (nI t))]) rfl (Nat.le_of_ble_eq_true rfl) rfl).trans ?_
  refine (ys4 1 (v := .ref (x + 0)) rfl rfl rfl rfl).trans ?_
  refine (ygr 4 rfl (zFS.tag hX.1 (j := 0) (by decide) rfl) rfl hU.2.2.2).trans ?_
  refine (ys5 5 (L2 := [(2, .ref (u + 0)), (0, .ref (x + 0)), (1, .int (nI t))]) rfl rfl rfl rfl).trans ?_
  refine (ys4 6 (v := .ref (u + 0)) rfl rfl rfl rfl).trans ?_
  refine (yg 9 rfl (zFS.tag hU.1 (j := 0) (by decide) rfl) (zFS.ni hU.1 (j := 0) (by decide) rfl) (by decide) rfl (zfl_at (j := 0) (by decide))).trans ?_
  refine (ys1 10 (x := 1) rfl rfl rfl).trans ?_
  refine (ys7_1 11 rfl rfl).trans ?_
  refine (ys5 12 (L2 := [(3, .int (((T 0 0) - 1))), (2, .ref (u + 0)), (0, .ref (x + 0)), (1, .int (nI t))]) rfl rfl rfl rfl).trans ?_
  refine (ys4 13 (v := .ref (u + 0)) rfl rfl rfl rfl).trans ?_
  refine (yg 16 rfl (zFS.tag hU.1 (j := 0) (by decide) rfl) (zFS.ni hU.1 (j := 0) (by decide) rfl) (by decide) rfl (zfl_at (j := 0) (by decide))).trans ?_
  refine (ys1 17 (x := 1) rfl rfl rfl).trans ?_
  refine (ys7_1 18 rfl rfl).trans ?_
  refine (ys5 20 (L2 := [(4, .int (((T 0 2) - 1))), (3, .int (((T 0 0) - 1))), (2, .ref (u + 0)), (0, .ref (x + 0)), (1, .int (nI t))]) rfl rfl rfl rfl).trans ?_
  refine (ys4 21 (v := .ref (x + 0)) rfl rfl rfl rfl).trans ?_
  refine (ygr 24 rfl (zFS.tag hX.1 (j := 0) (by decide) rfl) rfl (hX.2 1 (by decide))).trans ?_
  refine (ys4 25 (v := .int (nI t)) rfl rfl rfl rfl).trans ?_
  refine (ylx 26 (N := 401) rfl (j := t) rfl (Or.inl (zFS.tag hX.1 (j := 2) (by decide) rfl)) (zFS.ni hX.1 (j := 2) (by decide) rfl) (by omega) (by decide) rfl (zfl_at2 (j := 2) hU.2.2.1 (by decide))).trans ?_
  refine (ys1 28 (x := 21) rfl rfl rfl).trans ?_
  refine ys18_1 31 rfl rfl (fun h28 => ?_) (fun h28 => ?_)
  · refine (ys4 32 (v := .ref (x + 0)) rfl rfl rfl rfl).trans ?_
    refine (ys4 33 (v := .int (nI t)) rfl rfl rfl rfl).trans ?_
    refine (yc2 36 rfl rfl (Nat.le_of_ble_eq_true rfl) (Or.inr (by show ztg (zwi _ _) _ = _; rw [ztg_wi]; exact (zFS.tag hX.1 (j := 0) (by decide) rfl))) rfl rfl (zlt' (zUs hU) (c_rno hX ht (hV t (Nat.le_refl _))))).trans ?_
    refine (ys19 rfl).trans ?_
    refine (ys5 42 (L2 := [(5, .int ((rnoL X t (rmn X t) 0 0))), (4, .int (((T 0 2) - 1))), (3, .int (((T 0 0) - 1))), (2, .ref (u + 0)), (0, .ref (x + 0)), (1, .int (nI t))]) rfl rfl rfl rfl).trans ?_
    refine (ys4 43 (v := .ref (x + 0)) rfl rfl rfl rfl).trans ?_
    refine (ygr 46 rfl (zFS.tag hX.1 (j := 0) (by decide) rfl) rfl (hX.2 4 (by decide))).trans ?_
    refine (ys4 47 (v := .int (nI t)) rfl rfl rfl rfl).trans ?_
    refine (ylx 48 (N := 401) rfl (j := t) rfl (Or.inl (zFS.tag hX.1 (j := 5) (by decide) rfl)) (zFS.ni hX.1 (j := 5) (by decide) rfl) (by omega) (by decide) rfl (Eq.trans (zfl_at2 (j := 5) hU.2.2.1 (by decide)) (show (X 5 t) = 18 from hrole))).trans ?_
    refine (ys21k 356 rfl (by decide)).trans ?_
    refine (ys4 357 (v := .ref (x + 0)) rfl rfl rfl rfl).trans ?_
    refine (ygr 360 rfl (zFS.tag hX.1 (j := 0) (by decide) rfl) rfl (hX.2 4 (by decide))).trans ?_
    refine (ys4 361 (v := .int (nI t)) rfl rfl rfl rfl).trans ?_
    refine (ylx 362 (N := 401) rfl (j := t) rfl (Or.inl (zFS.tag hX.1 (j := 5) (by decide) rfl)) (zFS.ni hX.1 (j := 5) (by decide) rfl) (by omega) (by decide) rfl (Eq.trans (zfl_at2 (j := 5) hU.2.2.1 (by decide)) (show (X 5 t) = 18 from hrole))).trans ?_
    refine ys17_1 365 rfl rfl (fun h362 => absurd h362 (by decide)) (fun h362 => ?_)
    refine (ys4 370 (v := .ref (x + 0)) rfl rfl rfl rfl).trans ?_
    refine (ys4 371 (v := .int (nI t)) rfl rfl rfl rfl).trans ?_
    refine (ys4 373 (v := .int ((rnoL X t (rmn X t) 0 0))) rfl rfl rfl rfl).trans ?_
    refine (yc3 376 rfl rfl (Nat.le_of_ble_eq_true rfl) (Or.inr (by show ztg (zwi _ _) _ = _; rw [ztg_wi]; exact (zFS.tag hX.1 (j := 0) (by decide) rfl))) rfl rfl (hc _ (fun _ => rfl))).trans ?_
    generalize hT1 : T' = T1
    refine (ys36 rfl rfl).trans ?_
    subst hT1; rfl
  · refine (ys1 40 (x := 0) rfl rfl rfl).trans ?_
    refine (ys5 42 (L2 := [(5, .int (0)), (4, .int (((T 0 2) - 1))), (3, .int (((T 0 0) - 1))), (2, .ref (u + 0)), (0, .ref (x + 0)), (1, .int (nI t))]) rfl rfl rfl rfl).trans ?_
    refine (ys4 43 (v := .ref (x + 0)) rfl rfl rfl rfl).trans ?_
    refine (ygr 46 rfl (zFS.tag hX.1 (j := 0) (by decide) rfl) rfl (hX.2 4 (by decide))).trans ?_
    refine (ys4 47 (v := .int (nI t)) rfl rfl rfl rfl).trans ?_
    refine (ylx 48 (N := 401) rfl (j := t) rfl (Or.inl (zFS.tag hX.1 (j := 5) (by decide) rfl)) (zFS.ni hX.1 (j := 5) (by decide) rfl) (by omega) (by decide) rfl (Eq.trans (zfl_at2 (j := 5) hU.2.2.1 (by decide)) (show (X 5 t) = 18 from hrole))).trans ?_
    refine (ys21k 356 rfl (by decide)).trans ?_
    refine (ys4 357 (v := .ref (x + 0)) rfl rfl rfl rfl).trans ?_
    refine (ygr 360 rfl (zFS.tag hX.1 (j := 0) (by decide) rfl) rfl (hX.2 4 (by decide))).trans ?_
    refine (ys4 361 (v := .int (nI t)) rfl rfl rfl rfl).trans ?_
    refine (ylx 362 (N := 401) rfl (j := t) rfl (Or.inl (zFS.tag hX.1 (j := 5) (by decide) rfl)) (zFS.ni hX.1 (j := 5) (by decide) rfl) (by omega) (by decide) rfl (Eq.trans (zfl_at2 (j := 5) hU.2.2.1 (by decide)) (show (X 5 t) = 18 from hrole))).trans ?_
    refine ys17_1 365 rfl rfl (fun h362 => absurd h362 (by decide)) (fun h362 => ?_)
    refine (ys4 370 (v := .ref (x + 0)) rfl rfl rfl rfl).trans ?_
    refine (ys4 371 (v := .int (nI t)) rfl rfl rfl rfl).trans ?_
    refine (ys4 373 (v := .int (0)) rfl rfl rfl rfl).trans ?_
    refine (yc3 376 rfl rfl (Nat.le_of_ble_eq_true rfl) (Or.inr (by show ztg (zwi _ _) _ = _; rw [ztg_wi]; exact (zFS.tag hX.1 (j := 0) (by decide) rfl))) rfl rfl (hc _ (fun h => absurd h h28))).trans ?_
    generalize hT2 : T' = T2
    refine (ys36 rfl rfl).trans ?_
    subst hT2; rfl

theorem c_er19 {d : Nat} {x u : Nat} {X T J : zFn} {μ : zM} (hX : zMX μ x) (hU : zUU μ x u) {t : Nat} (ht : t < 401) (hV : ∀ j, j ≤ t → zTK X j) (hrole : X 5 t = 19) {w : Int32} {T' : zFn} (hc : ∀ v : Int32, (X 2 t = 21 → v = rnoL X t (rmn X t) 0 0) → zden zcds (d + 6) 153 [.ref (x + 0), .int (nI t), .int v] (zwi μ (zfl (zfl J x 6 X) u 17 T)) = some (0, some (.int w), 0, 0, zwi μ (zfl (zfl J x 6 X) u 17 T'))) : zden zcds (d + 7) 152 [.ref (x + 0), .int (nI t)] (zwi μ (zfl (zfl J x 6 X) u 17 T)) = some (0, some (.int w), 0, 0, zwi μ (zfl (zfl J x 6 X) u 17 T')) := by
  refine (zd_in (d := d + 6) (cd := zc152) (nL := 6) (L := [(0, .ref (x + 0)), (1, .int (nI t))]) rfl (Nat.le_of_ble_eq_true rfl) rfl).trans ?_
  refine (ys4 1 (v := .ref (x + 0)) rfl rfl rfl rfl).trans ?_
  refine (ygr 4 rfl (zFS.tag hX.1 (j := 0) (by decide) rfl) rfl hU.2.2.2).trans ?_
  refine (ys5 5 (L2 := [(2, .ref (u + 0)), (0, .ref (x + 0)), (1, .int (nI t))]) rfl rfl rfl rfl).trans ?_
  refine (ys4 6 (v := .ref (u + 0)) rfl rfl rfl rfl).trans ?_
  refine (yg 9 rfl (zFS.tag hU.1 (j := 0) (by decide) rfl) (zFS.ni hU.1 (j := 0) (by decide) rfl) (by decide) rfl (zfl_at (j := 0) (by decide))).trans ?_
  refine (ys1 10 (x := 1) rfl rfl rfl).trans ?_
  refine (ys7_1 11 rfl rfl).trans ?_
  refine (ys5 12 (L2 := [(3, .int (((T 0 0) - 1))), (2, .ref (u + 0)), (0, .ref (x + 0)), (1, .int (nI t))]) rfl rfl rfl rfl).trans ?_
  refine (ys4 13 (v := .ref (u + 0)) rfl rfl rfl rfl).trans ?_
  refine (yg 16 rfl (zFS.tag hU.1 (j := 0) (by decide) rfl) (zFS.ni hU.1 (j := 0) (by decide) rfl) (by decide) rfl (zfl_at (j := 0) (by decide))).trans ?_
  refine (ys1 17 (x := 1) rfl rfl rfl).trans ?_
  refine (ys7_1 18 rfl rfl).trans ?_
  refine (ys5 20 (L2 := [(4, .int (((T 0 2) - 1))), (3, .int (((T 0 0) - 1))), (2, .ref (u + 0)), (0, .ref (x + 0)), (1, .int (nI t))]) rfl rfl rfl rfl).trans ?_
  refine (ys4 21 (v := .ref (x + 0)) rfl rfl rfl rfl).trans ?_
  refine (ygr 24 rfl (zFS.tag hX.1 (j := 0) (by decide) rfl) rfl (hX.2 1 (by decide))).trans ?_
  refine (ys4 25 (v := .int (nI t)) rfl rfl rfl rfl).trans ?_
  refine (ylx 26 (N := 401) rfl (j := t) rfl (Or.inl (zFS.tag hX.1 (j := 2) (by decide) rfl)) (zFS.ni hX.1 (j := 2) (by decide) rfl) (by omega) (by decide) rfl (zfl_at2 (j := 2) hU.2.2.1 (by decide))).trans ?_
  refine (ys1 28 (x := 21) rfl rfl rfl).trans ?_
  refine ys18_1 31 rfl rfl (fun h28 => ?_) (fun h28 => ?_)
  · refine (ys4 32 (v := .ref (x + 0)) rfl rfl rfl rfl).trans ?_
    refine (ys4 33 (v := .int (nI t)) rfl rfl rfl rfl).trans ?_
    refine (yc2 36 rfl rfl (Nat.le_of_ble_eq_true rfl) (Or.inr (by show ztg (zwi _ _) _ = _; rw [ztg_wi]; exact (zFS.tag hX.1 (j := 0) (by decide) rfl))) rfl rfl (zlt' (zUs hU) (c_rno hX ht (hV t (Nat.le_refl _))))).trans ?_
    refine (ys19 rfl).trans ?_
    refine (ys5 42 (L2 := [(5, .int ((rnoL X t (rmn X t) 0 0))), (4, .int (((T 0 2) - 1))), (3, .int (((T 0 0) - 1))), (2, .ref (u + 0)), (0, .ref (x + 0)), (1, .int (nI t))]) rfl rfl rfl rfl).trans ?_
    refine (ys4 43 (v := .ref (x + 0)) rfl rfl rfl rfl).trans ?_
    refine (ygr 46 rfl (zFS.tag hX.1 (j := 0) (by decide) rfl) rfl (hX.2 4 (by decide))).trans ?_
    refine (ys4 47 (v := .int (nI t)) rfl rfl rfl rfl).trans ?_
    refine (ylx 48 (N := 401) rfl (j := t) rfl (Or.inl (zFS.tag hX.1 (j := 5) (by decide) rfl)) (zFS.ni hX.1 (j := 5) (by decide) rfl) (by omega) (by decide) rfl (Eq.trans (zfl_at2 (j := 5) hU.2.2.1 (by decide)) (show (X 5 t) = 19 from hrole))).trans ?_
    refine (ys21k 356 rfl (by decide)).trans ?_
    refine (ys4 357 (v := .ref (x + 0)) rfl rfl rfl rfl).trans ?_
    refine (ygr 360 rfl (zFS.tag hX.1 (j := 0) (by decide) rfl) rfl (hX.2 4 (by decide))).trans ?_
    refine (ys4 361 (v := .int (nI t)) rfl rfl rfl rfl).trans ?_
    refine (ylx 362 (N := 401) rfl (j := t) rfl (Or.inl (zFS.tag hX.1 (j := 5) (by decide) rfl)) (zFS.ni hX.1 (j := 5) (by decide) rfl) (by omega) (by decide) rfl (Eq.trans (zfl_at2 (j := 5) hU.2.2.1 (by decide)) (show (X 5 t) = 19 from hrole))).trans ?_
    refine ys17_1 365 rfl rfl (fun h362 => absurd h362 (by decide)) (fun h362 => ?_)
    refine (ys4 370 (v := .ref (x + 0)) rfl rfl rfl rfl).trans ?_
    refine (ys4 371 (v := .int (nI t)) rfl rfl rfl rfl).trans ?_
    refine (ys4 373 (v := .int ((rnoL X t (rmn X t) 0 0))) rfl rfl rfl rfl).trans ?_
    refine (yc3 376 rfl rfl (Nat.le_of_ble_eq_true rfl) (Or.inr (by show ztg (zwi _ _) _ = _; rw [ztg_wi]; exact (zFS.tag hX.1 (j := 0) (by decide) rfl))) rfl rfl (hc _ (fun _ => rfl))).trans ?_
    generalize hT1 : T' = T1
    refine (ys36 rfl rfl).trans ?_
    subst hT1; rfl
  · refine (ys1 40 (x := 0) rfl rfl rfl).trans ?_
    refine (ys5 42 (L2 := [(5, .int (0)), (4, .int (((T 0 2) - 1))), (3, .int (((T 0 0) - 1))), (2, .ref (u + 0)), (0, .ref (x + 0)), (1, .int (nI t))]) rfl rfl rfl rfl).trans ?_
    refine (ys4 43 (v := .ref (x + 0)) rfl rfl rfl rfl).trans ?_
    refine (ygr 46 rfl (zFS.tag hX.1 (j := 0) (by decide) rfl) rfl (hX.2 4 (by decide))).trans ?_
    refine (ys4 47 (v := .int (nI t)) rfl rfl rfl rfl).trans ?_
    refine (ylx 48 (N := 401) rfl (j := t) rfl (Or.inl (zFS.tag hX.1 (j := 5) (by decide) rfl)) (zFS.ni hX.1 (j := 5) (by decide) rfl) (by omega) (by decide) rfl (Eq.trans (zfl_at2 (j := 5) hU.2.2.1 (by decide)) (show (X 5 t) = 19 from hrole))).trans ?_
    refine (ys21k 356 rfl (by decide)).trans ?_
    refine (ys4 357 (v := .ref (x + 0)) rfl rfl rfl rfl).trans ?_
    refine (ygr 360 rfl (zFS.tag hX.1 (j := 0) (by decide) rfl) rfl (hX.2 4 (by decide))).trans ?_
    refine (ys4 361 (v := .int (nI t)) rfl rfl rfl rfl).trans ?_
    refine (ylx 362 (N := 401) rfl (j := t) rfl (Or.inl (zFS.tag hX.1 (j := 5) (by decide) rfl)) (zFS.ni hX.1 (j := 5) (by decide) rfl) (by omega) (by decide) rfl (Eq.trans (zfl_at2 (j := 5) hU.2.2.1 (by decide)) (show (X 5 t) = 19 from hrole))).trans ?_
    refine ys17_1 365 rfl rfl (fun h362 => absurd h362 (by decide)) (fun h362 => ?_)
    refine (ys4 370 (v := .ref (x + 0)) rfl rfl rfl rfl).trans ?_
    refine (ys4 371 (v := .int (nI t)) rfl rfl rfl rfl).trans ?_
    refine (ys4 373 (v := .int (0)) rfl rfl rfl rfl).trans ?_
    refine (yc3 376 rfl rfl (Nat.le_of_ble_eq_true rfl) (Or.inr (by show ztg (zwi _ _) _ = _; rw [ztg_wi]; exact (zFS.tag hX.1 (j := 0) (by decide) rfl))) rfl rfl (hc _ (fun h => absurd h h28))).trans ?_
    generalize hT2 : T' = T2
    refine (ys36 rfl rfl).trans ?_
    subst hT2; rfl

