/-! CARRIERS OF A STAGE -/
def rcf (T : zFn) (k j z p : Nat) : zFn := zup (zup T 16 (120 * k + 20 * j + z) (nI p)) 15 (6 * k + j) (T 15 (6 * k + j) + 1)

def recT (T : zFn) (k : Nat) (j : Nat) (z : Nat) (p : Nat) : Int32 × zFn :=
  let T1 := zup T 16 ((120 * k + 20 * j) + z) (nI p)
  let T2 := zup T1 15 ((6 * k) + j) (((T1 15 ((6 * k) + j)) + 1))
  (0, T2)

theorem s_ecT {d c sl : Nat} {x u : Nat} {X T J : zFn} {μ : zM} (hX : zMX μ x) (hU : zUU μ x u) {t : Nat} {k j z p : Nat} (hk : k < 12) (hj6 : j < 6) (hz20 : z < 20) : zden1 (d + 1) (zden zcds (d + 1)) zc154 (155, [(7, .int (nI z)), (6, .int (nI (120 * k + 20 * j))), (5, .int (nI j)), (4, .int (nI p)), (3, .ref (u + 0)), (0, .ref (x + 0)), (1, .int (nI t)), (2, .int (nI k))], [], c, sl, zwi μ (zfl (zfl J x 6 X) u 17 T)) = some (0, some (.int ((recT T k j z p).1)), c, sl, zwi μ (zfl (zfl J x 6 X) u 17 ((recT T k j z p).2))) := by
  refine (ys4 156 (v := .ref (u + 0)) rfl rfl rfl rfl).trans ?_
  refine (ygr 159 rfl (zFS.tag hU.1 (j := 0) (by decide) rfl) rfl (hU.2.1 15 (by decide))).trans ?_
  refine (ys4 161 (v := .int (nI (120 * k + 20 * j))) rfl rfl rfl rfl).trans ?_
  refine (ys4 163 (v := .int (nI z)) rfl rfl rfl rfl).trans ?_
  refine (ys7_0 164 rfl rfl).trans ?_
  rw [show ((nI (120 * k + 20 * j)) + (nI z)) = nI ((120 * k + 20 * j) + z) from nI_add (120 * k + 20 * j) z]
  refine (ys4 166 (v := .int (nI p)) rfl rfl rfl rfl).trans ?_
  refine (ywx 167 (N := 1440) rfl (j := ((120 * k + 20 * j) + z)) rfl (zFS.tag hU.1 (j := 16) (by decide) rfl) (zFS.k0 hU.1 (j := 16)) (zFS.ni hU.1 (j := 16) (by decide) rfl) (by omega) (by decide) rfl (zfl_up (j := 16) (by decide))).trans ?_
  generalize hT1 : zup T 16 ((120 * k + 20 * j) + z) (nI p) = T1
  refine (ys4 168 (v := .ref (u + 0)) rfl rfl rfl rfl).trans ?_
  refine (ygr 171 rfl (zFS.tag hU.1 (j := 0) (by decide) rfl) rfl (hU.2.1 14 (by decide))).trans ?_
  refine (ys1 173 (x := 6) rfl rfl rfl).trans ?_
  refine (ys4 174 (v := .int (nI k)) rfl rfl rfl rfl).trans ?_
  refine (ys7_2 175 rfl rfl).trans ?_
  rw [show (6 * (nI k)) = nI (6 * k) from pk_mul 6 k]
  refine (ys4 177 (v := .int (nI j)) rfl rfl rfl rfl).trans ?_
  refine (ys7_0 178 rfl rfl).trans ?_
  rw [show ((nI (6 * k)) + (nI j)) = nI ((6 * k) + j) from nI_add (6 * k) j]
  refine (ys15 179 rfl (Nat.le_of_ble_eq_true rfl) (Nat.le_of_ble_eq_true rfl) rfl).trans ?_
  refine (ylx 180 (N := 72) rfl (j := ((6 * k) + j)) rfl (Or.inl (zFS.tag hU.1 (j := 15) (by decide) rfl)) (zFS.ni hU.1 (j := 15) (by decide) rfl) (by omega) (by decide) rfl (zfl_at (j := 15) (by decide))).trans ?_
  refine (ys1 181 (x := 1) rfl rfl rfl).trans ?_
  refine (ys7_0 182 rfl rfl).trans ?_
  refine (ywx 183 (N := 72) rfl (j := ((6 * k) + j)) rfl (zFS.tag hU.1 (j := 15) (by decide) rfl) (zFS.k0 hU.1 (j := 15)) (zFS.ni hU.1 (j := 15) (by decide) rfl) (by omega) (by decide) rfl (zfl_up (j := 15) (by decide))).trans ?_
  generalize hT2 : zup T1 15 ((6 * k) + j) (((T1 15 ((6 * k) + j)) + 1)) = T2
  refine (ys1 184 (x := 0) rfl rfl rfl).trans ?_
  refine (ys36 rfl rfl).trans ?_
  rw [show recT T k j z p = (0, T2) from by subst hT2 hT1; unfold recT; (try dsimp only); first | done | rfl]; (first | done | rfl)

def recL (T : zFn) (k : Nat) (j : Nat) (z : Nat) (p : Nat) : Nat → Nat → Int32 × zFn
  | 0, i =>
    recT T k j z p
  | m + 1, i =>
    if (T 16 ((120 * k + 20 * j) + i)) = (nI p) then
      (7, T)
    else
      recL T k j z p m (i + 1)

theorem l_ec {d c sl : Nat} {x u : Nat} {X T J : zFn} {μ : zM} (hX : zMX μ x) (hU : zUU μ x u) {t : Nat} {k j z p : Nat} (hk : k < 12) (hj6 : j < 6) (hz20 : z < 20) : ∀ (m i : Nat), i + m = z → zden1 (d + 1) (zden zcds (d + 1)) zc154 (124, [(8, .int (nI i)), (7, .int (nI z)), (6, .int (nI (120 * k + 20 * j))), (5, .int (nI j)), (4, .int (nI p)), (3, .ref (u + 0)), (0, .ref (x + 0)), (1, .int (nI t)), (2, .int (nI k))], [], c, sl, zwi μ (zfl (zfl J x 6 X) u 17 T)) = some (0, some (.int ((recL T k j z p m i).1)), c, sl, zwi μ (zfl (zfl J x 6 X) u 17 ((recL T k j z p m i).2)))
  | 0, i, e => by
    refine (ys4 126 (v := .int (nI i)) rfl rfl rfl rfl).trans ?_
    refine (ys4 128 (v := .int (nI z)) rfl rfl rfl rfl).trans ?_
    refine ys18_3 131 rfl rfl (fun h128 => ?_) (fun h128 => absurd (nI_le (by omega) (by omega)) h128)
    rw [show recL T k j z p 0 i = recT T k j z p from by rw [recL]; (try dsimp only)]; refine zden1_fg (L := [(7, .int (nI z)), (6, .int (nI (120 * k + 20 * j))), (5, .int (nI j)), (4, .int (nI p)), (3, .ref (u + 0)), (0, .ref (x + 0)), (1, .int (nI t)), (2, .int (nI k))]) (zfg_cons rfl (zfg_cons rfl (zfg_cons rfl (zfg_cons rfl (zfg_cons rfl (zfg_cons rfl (zfg_cons rfl (zfg_cons rfl zfg_nil)))))))) ?_; exact s_ecT hX hU hk hj6 hz20
  | m + 1, i, e => by
    refine (ys4 126 (v := .int (nI i)) rfl rfl rfl rfl).trans ?_
    refine (ys4 128 (v := .int (nI z)) rfl rfl rfl rfl).trans ?_
    refine ys18_3 131 rfl rfl (fun h128 => absurd h128 (nI_ge (by omega) (by omega))) (fun h128 => ?_)
    refine (ys4 132 (v := .ref (u + 0)) rfl rfl rfl rfl).trans ?_
    refine (ygr 135 rfl (zFS.tag hU.1 (j := 0) (by decide) rfl) rfl (hU.2.1 15 (by decide))).trans ?_
    refine (ys4 137 (v := .int (nI (120 * k + 20 * j))) rfl rfl rfl rfl).trans ?_
    refine (ys4 139 (v := .int (nI i)) rfl rfl rfl rfl).trans ?_
    refine (ys7_0 140 rfl rfl).trans ?_
    rw [show ((nI (120 * k + 20 * j)) + (nI i)) = nI ((120 * k + 20 * j) + i) from nI_add (120 * k + 20 * j) i]
    refine (ylx 141 (N := 1440) rfl (j := ((120 * k + 20 * j) + i)) rfl (Or.inl (zFS.tag hU.1 (j := 16) (by decide) rfl)) (zFS.ni hU.1 (j := 16) (by decide) rfl) (by omega) (by decide) rfl (zfl_at (j := 16) (by decide))).trans ?_
    refine (ys4 143 (v := .int (nI p)) rfl rfl rfl rfl).trans ?_
    refine ys18_1 146 rfl rfl (fun h143 => ?_) (fun h143 => ?_)
    · refine (ys1 148 (x := 7) rfl rfl rfl).trans ?_
      refine (ys36 rfl rfl).trans ?_
      rw [show recL T k j z p (m + 1) i = (7, T) from by rw [recL]; (try dsimp only); rw [if_pos h143]]; (first | done | rfl)
    · refine (ys6 152 (y := nI (i + 1)) (L2 := [(8, .int (nI (i + 1))), (7, .int (nI z)), (6, .int (nI (120 * k + 20 * j))), (5, .int (nI j)), (4, .int (nI p)), (3, .ref (u + 0)), (0, .ref (x + 0)), (1, .int (nI t)), (2, .int (nI k))]) rfl rfl (nI_1 _) rfl rfl).trans ?_
      refine (ys19 rfl).trans ?_
      rw [show recL T k j z p (m + 1) i = recL T k j z p m (i + 1) from by rw [recL]; (try dsimp only); rw [if_neg h143]]; exact l_ec hX hU hk hj6 hz20 m (i + 1)    (by omega)

def rec19 (T : zFn) (X : zFn) (t : Nat) (k : Nat) (j : Nat) (z : Nat) (p : Nat) (q0 : Nat) : Int32 × zFn :=
  if (nI z) ≤ 0 then
    recL T k j z p z 0
  else
    if (T 5 q0) = (T 5 p) then
      recL T k j z p z 0
    else
      (6, T)

theorem c_ec19 {d : Nat} {x u : Nat} {X T J : zFn} {μ : zM} (hX : zMX μ x) (hU : zUU μ x u) {t : Nat} (ht : t < 401) (hV : ∀ j, j ≤ t → zTK X j) (hrole : X 5 t = 19) {p : Nat} (hp : rnmL X t 2 t 0 0 = nI p) (hp20 : p < 20) {k j z q0 : Nat} (hk : k < 12) (hs : T 14 k = nI (j + 1)) (hj6 : j < 6) (hz : T 15 (6 * k + j) = nI z) (hz20 : z < 20) (hq0 : T 16 (120 * k + 20 * j) = nI q0) (hq20 : q0 < 20) : zden zcds (d + 5) 154 [.ref (x + 0), .int (nI t), .int (nI k)] (zwi μ (zfl (zfl J x 6 X) u 17 T)) = some (0, some (.int ((rec19 T X t k j z p q0).1)), 0, 0, zwi μ (zfl (zfl J x 6 X) u 17 ((rec19 T X t k j z p q0).2))) := by
  refine (zd_in (d := d + 4) (cd := zc154) (nL := 9) (L := [(0, .ref (x + 0)), (1, .int (nI t)), (2, .int (nI k))]) rfl (Nat.le_of_ble_eq_true rfl) rfl).trans ?_
  refine (ys4 1 (v := .ref (x + 0)) rfl rfl rfl rfl).trans ?_
  refine (ygr 4 rfl (zFS.tag hX.1 (j := 0) (by decide) rfl) rfl hU.2.2.2).trans ?_
  refine (ys5 5 (L2 := [(3, .ref (u + 0)), (0, .ref (x + 0)), (1, .int (nI t)), (2, .int (nI k))]) rfl rfl rfl rfl).trans ?_
  refine (ys4 6 (v := .ref (x + 0)) rfl rfl rfl rfl).trans ?_
  refine (ys4 7 (v := .int (nI t)) rfl rfl rfl rfl).trans ?_
  refine (ys1 8 (x := 2) rfl rfl rfl).trans ?_
  refine (yc3 11 rfl rfl (Nat.le_of_ble_eq_true rfl) (Or.inr (by show ztg (zwi _ _) _ = _; rw [ztg_wi]; exact (zFS.tag hX.1 (j := 0) (by decide) rfl))) rfl rfl (zlt' (zUs hU) (c_rnm hX ht hV))).trans ?_
  rw [show (rnmL X t 2 t 0 0) = (nI p) from hp]
  refine (ys5 13 (L2 := [(4, .int ((nI p))), (3, .ref (u + 0)), (0, .ref (x + 0)), (1, .int (nI t)), (2, .int (nI k))]) rfl rfl rfl rfl).trans ?_
  refine (ys4 15 (v := .int ((nI p))) rfl rfl rfl rfl).trans ?_
  refine (ys1 16 (x := (-1)) rfl rfl rfl).trans ?_
  refine ys18_1 19 rfl rfl (fun h16 => absurd h16 (nI_m1 hp20)) (fun h16 => ?_)
  refine (ys4 22 (v := .ref (x + 0)) rfl rfl rfl rfl).trans ?_
  refine (ygr 25 rfl (zFS.tag hX.1 (j := 0) (by decide) rfl) rfl (hX.2 4 (by decide))).trans ?_
  refine (ys4 26 (v := .int (nI t)) rfl rfl rfl rfl).trans ?_
  refine (ylx 27 (N := 401) rfl (j := t) rfl (Or.inl (zFS.tag hX.1 (j := 5) (by decide) rfl)) (zFS.ni hX.1 (j := 5) (by decide) rfl) (by omega) (by decide) rfl (Eq.trans (zfl_at2 (j := 5) hU.2.2.1 (by decide)) (show (X 5 t) = 19 from hrole))).trans ?_
  refine (ys1 29 (x := 18) rfl rfl rfl).trans ?_
  refine ys18_1 32 rfl rfl (fun h29 => absurd h29 (by decide)) (fun h29 => ?_)
  refine (ys4 56 (v := .ref (u + 0)) rfl rfl rfl rfl).trans ?_
  refine (ygr 59 rfl (zFS.tag hU.1 (j := 0) (by decide) rfl) rfl (hU.2.1 13 (by decide))).trans ?_
  refine (ys4 60 (v := .int (nI k)) rfl rfl rfl rfl).trans ?_
  refine (ylx 61 (N := 12) rfl (j := k) rfl (Or.inl (zFS.tag hU.1 (j := 14) (by decide) rfl)) (zFS.ni hU.1 (j := 14) (by decide) rfl) (by omega) (by decide) rfl (Eq.trans (zfl_at (j := 14) (by decide)) (show (T 14 k) = nI (j + 1) from hs))).trans ?_
  refine (ys1 62 (x := 1) rfl rfl rfl).trans ?_
  refine (ys7_1 63 rfl rfl).trans ?_
  rw [show ((nI (j + 1)) - 1) = (nI j) from nI_pred _]
  refine (ys5 65 (L2 := [(5, .int ((nI j))), (4, .int ((nI p))), (3, .ref (u + 0)), (0, .ref (x + 0)), (1, .int (nI t)), (2, .int (nI k))]) rfl rfl rfl rfl).trans ?_
  refine (ys1 67 (x := 120) rfl rfl rfl).trans ?_
  refine (ys4 68 (v := .int (nI k)) rfl rfl rfl rfl).trans ?_
  refine (ys7_2 69 rfl rfl).trans ?_
  rw [show (120 * (nI k)) = nI (120 * k) from pk_mul 120 k]
  refine (ys1 71 (x := 20) rfl rfl rfl).trans ?_
  refine (ys4 73 (v := .int ((nI j))) rfl rfl rfl rfl).trans ?_
  refine (ys7_2 74 rfl rfl).trans ?_
  rw [show (20 * (nI j)) = nI (20 * j) from pk_mul 20 j]
  refine (ys7_0 75 rfl rfl).trans ?_
  rw [show ((nI (120 * k)) + (nI (20 * j))) = nI ((120 * k) + (20 * j)) from nI_add (120 * k) (20 * j)]
  refine (ys5 77 (L2 := [(6, .int (nI ((120 * k) + (20 * j)))), (5, .int ((nI j))), (4, .int ((nI p))), (3, .ref (u + 0)), (0, .ref (x + 0)), (1, .int (nI t)), (2, .int (nI k))]) rfl rfl rfl rfl).trans ?_
  refine (ys4 78 (v := .ref (u + 0)) rfl rfl rfl rfl).trans ?_
  refine (ygr 81 rfl (zFS.tag hU.1 (j := 0) (by decide) rfl) rfl (hU.2.1 14 (by decide))).trans ?_
  refine (ys1 83 (x := 6) rfl rfl rfl).trans ?_
  refine (ys4 84 (v := .int (nI k)) rfl rfl rfl rfl).trans ?_
  refine (ys7_2 85 rfl rfl).trans ?_
  rw [show (6 * (nI k)) = nI (6 * k) from pk_mul 6 k]
  refine (ys4 87 (v := .int ((nI j))) rfl rfl rfl rfl).trans ?_
  refine (ys7_0 88 rfl rfl).trans ?_
  rw [show ((nI (6 * k)) + (nI j)) = nI ((6 * k) + j) from nI_add (6 * k) j]
  refine (ylx 89 (N := 72) rfl (j := ((6 * k) + j)) rfl (Or.inl (zFS.tag hU.1 (j := 15) (by decide) rfl)) (zFS.ni hU.1 (j := 15) (by decide) rfl) (by omega) (by decide) rfl (Eq.trans (zfl_at (j := 15) (by decide)) (show (T 15 ((6 * k) + j)) = nI z from hz))).trans ?_
  refine (ys5 91 (L2 := [(7, .int (nI z)), (6, .int (nI ((120 * k) + (20 * j)))), (5, .int ((nI j))), (4, .int ((nI p))), (3, .ref (u + 0)), (0, .ref (x + 0)), (1, .int (nI t)), (2, .int (nI k))]) rfl rfl rfl rfl).trans ?_
  refine (ys4 93 (v := .int (nI z)) rfl rfl rfl rfl).trans ?_
  refine ys17_5 96 rfl rfl (fun h93 => ?_) (fun h93 => ?_)
  · refine (ys1 122 (x := nI 0) rfl rfl rfl).trans ?_
    refine (ys5 124 (L2 := [(8, .int (nI 0)), (7, .int (nI z)), (6, .int (nI ((120 * k) + (20 * j)))), (5, .int ((nI j))), (4, .int ((nI p))), (3, .ref (u + 0)), (0, .ref (x + 0)), (1, .int (nI t)), (2, .int (nI k))]) rfl rfl rfl rfl).trans ?_
    rw [show rec19 T X t k j z p q0 = recL T k j z p z 0 from by unfold rec19; (try dsimp only); rw [if_pos h93]]; exact l_ec hX hU hk hj6 hz20 z 0 (by omega)
  · refine (ys4 97 (v := .ref (u + 0)) rfl rfl rfl rfl).trans ?_
    refine (ygr 100 rfl (zFS.tag hU.1 (j := 0) (by decide) rfl) rfl (hU.2.1 4 (by decide))).trans ?_
    refine (ys4 101 (v := .ref (u + 0)) rfl rfl rfl rfl).trans ?_
    refine (ygr 104 rfl (zFS.tag hU.1 (j := 0) (by decide) rfl) rfl (hU.2.1 15 (by decide))).trans ?_
    refine (ys4 106 (v := .int (nI ((120 * k) + (20 * j)))) rfl rfl rfl rfl).trans ?_
    refine (ylx 107 (N := 1440) rfl (j := ((120 * k) + (20 * j))) rfl (Or.inl (zFS.tag hU.1 (j := 16) (by decide) rfl)) (zFS.ni hU.1 (j := 16) (by decide) rfl) (by omega) (by decide) rfl (Eq.trans (zfl_at (j := 16) (by decide)) (show (T 16 ((120 * k) + (20 * j))) = (nI q0) from hq0))).trans ?_
    refine (ylx 108 (N := 20) rfl (j := q0) rfl (Or.inl (zFS.tag hU.1 (j := 5) (by decide) rfl)) (zFS.ni hU.1 (j := 5) (by decide) rfl) (by omega) (by decide) rfl (zfl_at (j := 5) (by decide))).trans ?_
    refine (ys4 109 (v := .ref (u + 0)) rfl rfl rfl rfl).trans ?_
    refine (ygr 112 rfl (zFS.tag hU.1 (j := 0) (by decide) rfl) rfl (hU.2.1 4 (by decide))).trans ?_
    refine (ys4 114 (v := .int ((nI p))) rfl rfl rfl rfl).trans ?_
    refine (ylx 115 (N := 20) rfl (j := p) rfl (Or.inl (zFS.tag hU.1 (j := 5) (by decide) rfl)) (zFS.ni hU.1 (j := 5) (by decide) rfl) (by omega) (by decide) rfl (zfl_at (j := 5) (by decide))).trans ?_
    refine ys18_0 118 rfl rfl (fun h115 => ?_) (fun h115 => ?_)
    · refine (ys1 122 (x := nI 0) rfl rfl rfl).trans ?_
      refine (ys5 124 (L2 := [(8, .int (nI 0)), (7, .int (nI z)), (6, .int (nI ((120 * k) + (20 * j)))), (5, .int ((nI j))), (4, .int ((nI p))), (3, .ref (u + 0)), (0, .ref (x + 0)), (1, .int (nI t)), (2, .int (nI k))]) rfl rfl rfl rfl).trans ?_
      rw [show rec19 T X t k j z p q0 = recL T k j z p z 0 from by unfold rec19; (try dsimp only); rw [if_neg h93, if_pos h115]]; exact l_ec hX hU hk hj6 hz20 z 0 (by omega)
    · refine (ys1 120 (x := 6) rfl rfl rfl).trans ?_
      refine (ys36 rfl rfl).trans ?_
      rw [show rec19 T X t k j z p q0 = (6, T) from by unfold rec19; (try dsimp only); rw [if_neg h93, if_neg h115]]; (first | done | rfl)

theorem c_ecn {d : Nat} {x u : Nat} {X T J : zFn} {μ : zM} (hX : zMX μ x) (hU : zUU μ x u) {t : Nat} (ht : t < 401) (hV : ∀ j, j ≤ t → zTK X j) (hn : rnmL X t 2 t 0 0 = (-1)) {k : Nat} : zden zcds (d + 5) 154 [.ref (x + 0), .int (nI t), .int (nI k)] (zwi μ (zfl (zfl J x 6 X) u 17 T)) = some (0, some (.int 3), 0, 0, zwi μ (zfl (zfl J x 6 X) u 17 T)) := by
  refine (zd_in (d := d + 4) (cd := zc154) (nL := 9) (L := [(0, .ref (x + 0)), (1, .int (nI t)), (2, .int (nI k))]) rfl (Nat.le_of_ble_eq_true rfl) rfl).trans ?_
  refine (ys4 1 (v := .ref (x + 0)) rfl rfl rfl rfl).trans ?_
  refine (ygr 4 rfl (zFS.tag hX.1 (j := 0) (by decide) rfl) rfl hU.2.2.2).trans ?_
  refine (ys5 5 (L2 := [(3, .ref (u + 0)), (0, .ref (x + 0)), (1, .int (nI t)), (2, .int (nI k))]) rfl rfl rfl rfl).trans ?_
  refine (ys4 6 (v := .ref (x + 0)) rfl rfl rfl rfl).trans ?_
  refine (ys4 7 (v := .int (nI t)) rfl rfl rfl rfl).trans ?_
  refine (ys1 8 (x := 2) rfl rfl rfl).trans ?_
  refine (yc3 11 rfl rfl (Nat.le_of_ble_eq_true rfl) (Or.inr (by show ztg (zwi _ _) _ = _; rw [ztg_wi]; exact (zFS.tag hX.1 (j := 0) (by decide) rfl))) rfl rfl (zlt' (zUs hU) (c_rnm hX ht hV))).trans ?_
  rw [show (rnmL X t 2 t 0 0) = (-1) from hn]
  refine (ys5 13 (L2 := [(4, .int ((-1))), (3, .ref (u + 0)), (0, .ref (x + 0)), (1, .int (nI t)), (2, .int (nI k))]) rfl rfl rfl rfl).trans ?_
  refine (ys4 15 (v := .int ((-1))) rfl rfl rfl rfl).trans ?_
  refine (ys1 16 (x := (-1)) rfl rfl rfl).trans ?_
  refine ys18_1 19 rfl rfl (fun h16 => ?_) (fun h16 => absurd (by decide) h16)
  refine (ys1 20 (x := 3) rfl rfl rfl).trans ?_
  refine (ys36 rfl rfl).trans ?_
  rfl

def rec18 (T : zFn) (X : zFn) (t : Nat) (k : Nat) (j : Nat) (p : Nat) : Int32 × zFn :=
  if (nI j) = 6 then
    (4, T)
  else
    let T1 := zup T 14 k (nI (j + 1))
    recL T1 k j 0 p 0 0

theorem c_ec18 {d : Nat} {x u : Nat} {X T J : zFn} {μ : zM} (hX : zMX μ x) (hU : zUU μ x u) {t : Nat} (ht : t < 401) (hV : ∀ j, j ≤ t → zTK X j) (hrole : X 5 t = 18) {p : Nat} (hp : rnmL X t 2 t 0 0 = nI p) (hp20 : p < 20) {k j : Nat} (hk : k < 12) (hs : T 14 k = nI j) (hj6 : j ≤ 6) (hz : j < 6 → T 15 (6 * k + j) = nI 0) : zden zcds (d + 5) 154 [.ref (x + 0), .int (nI t), .int (nI k)] (zwi μ (zfl (zfl J x 6 X) u 17 T)) = some (0, some (.int ((rec18 T X t k j p).1)), 0, 0, zwi μ (zfl (zfl J x 6 X) u 17 ((rec18 T X t k j p).2))) := by
  refine (zd_in (d := d + 4) (cd := zc154) (nL := 9) (L := [(0, .ref (x + 0)), (1, .int (nI t)), (2, .int (nI k))]) rfl (Nat.le_of_ble_eq_true rfl) rfl).trans ?_
  refine (ys4 1 (v := .ref (x + 0)) rfl rfl rfl rfl).trans ?_
  refine (ygr 4 rfl (zFS.tag hX.1 (j := 0) (by decide) rfl) rfl hU.2.2.2).trans ?_
  refine (ys5 5 (L2 := [(3, .ref (u + 0)), (0, .ref (x + 0)), (1, .int (nI t)), (2, .int (nI k))]) rfl rfl rfl rfl).trans ?_
  refine (ys4 6 (v := .ref (x + 0)) rfl rfl rfl rfl).trans ?_
  refine (ys4 7 (v := .int (nI t)) rfl rfl rfl rfl).trans ?_
  refine (ys1 8 (x := 2) rfl rfl rfl).trans ?_
  refine (yc3 11 rfl rfl (Nat.le_of_ble_eq_true rfl) (Or.inr (by show ztg (zwi _ _) _ = _; rw [ztg_wi]; exact (zFS.tag hX.1 (j := 0) (by decide) rfl))) rfl rfl (zlt' (zUs hU) (c_rnm hX ht hV))).trans ?_
  rw [show (rnmL X t 2 t 0 0) = (nI p) from hp]
  refine (ys5 13 (L2 := [(4, .int ((nI p))), (3, .ref (u + 0)), (0, .ref (x + 0)), (1, .int (nI t)), (2, .int (nI k))]) rfl rfl rfl rfl).trans ?_
  refine (ys4 15 (v := .int ((nI p))) rfl rfl rfl rfl).trans ?_
  refine (ys1 16 (x := (-1)) rfl rfl rfl).trans ?_
  refine ys18_1 19 rfl rfl (fun h16 => absurd h16 (nI_m1 hp20)) (fun h16 => ?_)
  refine (ys4 22 (v := .ref (x + 0)) rfl rfl rfl rfl).trans ?_
  refine (ygr 25 rfl (zFS.tag hX.1 (j := 0) (by decide) rfl) rfl (hX.2 4 (by decide))).trans ?_
  refine (ys4 26 (v := .int (nI t)) rfl rfl rfl rfl).trans ?_
  refine (ylx 27 (N := 401) rfl (j := t) rfl (Or.inl (zFS.tag hX.1 (j := 5) (by decide) rfl)) (zFS.ni hX.1 (j := 5) (by decide) rfl) (by omega) (by decide) rfl (Eq.trans (zfl_at2 (j := 5) hU.2.2.1 (by decide)) (show (X 5 t) = 18 from hrole))).trans ?_
  refine (ys1 29 (x := 18) rfl rfl rfl).trans ?_
  refine ys18_1 32 rfl rfl (fun h29 => ?_) (fun h29 => absurd (by decide) h29)
  refine (ys4 33 (v := .ref (u + 0)) rfl rfl rfl rfl).trans ?_
  refine (ygr 36 rfl (zFS.tag hU.1 (j := 0) (by decide) rfl) rfl (hU.2.1 13 (by decide))).trans ?_
  refine (ys4 37 (v := .int (nI k)) rfl rfl rfl rfl).trans ?_
  refine (ylx 38 (N := 12) rfl (j := k) rfl (Or.inl (zFS.tag hU.1 (j := 14) (by decide) rfl)) (zFS.ni hU.1 (j := 14) (by decide) rfl) (by omega) (by decide) rfl (Eq.trans (zfl_at (j := 14) (by decide)) (show (T 14 k) = nI j from hs))).trans ?_
  refine (ys1 40 (x := 6) rfl rfl rfl).trans ?_
  refine ys18_1 43 rfl rfl (fun h40 => ?_) (fun h40 => ?_)
  · refine (ys1 44 (x := 4) rfl rfl rfl).trans ?_
    refine (ys36 rfl rfl).trans ?_
    rw [show rec18 T X t k j p = (4, T) from by unfold rec18; (try dsimp only); rw [if_pos h40]]; (first | done | rfl)
  · have hj6b : j < 6 := (by rcases Nat.lt_or_ge j 6 with h1 | h1; exact h1; exact absurd (show nI j = 6 from by rw [show j = 6 from by omega]; rfl) h40)
    refine (ys4 46 (v := .ref (u + 0)) rfl rfl rfl rfl).trans ?_
    refine (ygr 49 rfl (zFS.tag hU.1 (j := 0) (by decide) rfl) rfl (hU.2.1 13 (by decide))).trans ?_
    refine (ys4 50 (v := .int (nI k)) rfl rfl rfl rfl).trans ?_
    refine (ys15 51 rfl (Nat.le_of_ble_eq_true rfl) (Nat.le_of_ble_eq_true rfl) rfl).trans ?_
    refine (ylx 52 (N := 12) rfl (j := k) rfl (Or.inl (zFS.tag hU.1 (j := 14) (by decide) rfl)) (zFS.ni hU.1 (j := 14) (by decide) rfl) (by omega) (by decide) rfl (Eq.trans (zfl_at (j := 14) (by decide)) (show (T 14 k) = nI j from hs))).trans ?_
    refine (ys1 53 (x := 1) rfl rfl rfl).trans ?_
    refine (ys7_0 54 rfl rfl).trans ?_
    rw [show ((nI j) + 1) = nI (j + 1) from nI_add j 1]
    refine (ywx 55 (N := 12) rfl (j := k) rfl (zFS.tag hU.1 (j := 14) (by decide) rfl) (zFS.k0 hU.1 (j := 14)) (zFS.ni hU.1 (j := 14) (by decide) rfl) (by omega) (by decide) rfl (zfl_up (j := 14) (by decide))).trans ?_
    generalize hT1 : zup T 14 k (nI (j + 1)) = T1
    refine (ys4 56 (v := .ref (u + 0)) rfl rfl rfl rfl).trans ?_
    refine (ygr 59 rfl (zFS.tag hU.1 (j := 0) (by decide) rfl) rfl (hU.2.1 13 (by decide))).trans ?_
    refine (ys4 60 (v := .int (nI k)) rfl rfl rfl rfl).trans ?_
    refine (ylx 61 (N := 12) rfl (j := k) rfl (Or.inl (zFS.tag hU.1 (j := 14) (by decide) rfl)) (zFS.ni hU.1 (j := 14) (by decide) rfl) (by omega) (by decide) rfl (Eq.trans (zfl_at (j := 14) (by decide)) (show (T1 14 k) = nI (j + 1) from (by subst hT1; rw [zup_same])))).trans ?_
    refine (ys1 62 (x := 1) rfl rfl rfl).trans ?_
    refine (ys7_1 63 rfl rfl).trans ?_
    rw [show ((nI (j + 1)) - 1) = (nI j) from nI_pred _]
    refine (ys5 65 (L2 := [(5, .int ((nI j))), (4, .int ((nI p))), (3, .ref (u + 0)), (0, .ref (x + 0)), (1, .int (nI t)), (2, .int (nI k))]) rfl rfl rfl rfl).trans ?_
    refine (ys1 67 (x := 120) rfl rfl rfl).trans ?_
    refine (ys4 68 (v := .int (nI k)) rfl rfl rfl rfl).trans ?_
    refine (ys7_2 69 rfl rfl).trans ?_
    rw [show (120 * (nI k)) = nI (120 * k) from pk_mul 120 k]
    refine (ys1 71 (x := 20) rfl rfl rfl).trans ?_
    refine (ys4 73 (v := .int ((nI j))) rfl rfl rfl rfl).trans ?_
    refine (ys7_2 74 rfl rfl).trans ?_
    rw [show (20 * (nI j)) = nI (20 * j) from pk_mul 20 j]
    refine (ys7_0 75 rfl rfl).trans ?_
    rw [show ((nI (120 * k)) + (nI (20 * j))) = nI ((120 * k) + (20 * j)) from nI_add (120 * k) (20 * j)]
    refine (ys5 77 (L2 := [(6, .int (nI ((120 * k) + (20 * j)))), (5, .int ((nI j))), (4, .int ((nI p))), (3, .ref (u + 0)), (0, .ref (x + 0)), (1, .int (nI t)), (2, .int (nI k))]) rfl rfl rfl rfl).trans ?_
    refine (ys4 78 (v := .ref (u + 0)) rfl rfl rfl rfl).trans ?_
    refine (ygr 81 rfl (zFS.tag hU.1 (j := 0) (by decide) rfl) rfl (hU.2.1 14 (by decide))).trans ?_
    refine (ys1 83 (x := 6) rfl rfl rfl).trans ?_
    refine (ys4 84 (v := .int (nI k)) rfl rfl rfl rfl).trans ?_
    refine (ys7_2 85 rfl rfl).trans ?_
    rw [show (6 * (nI k)) = nI (6 * k) from pk_mul 6 k]
    refine (ys4 87 (v := .int ((nI j))) rfl rfl rfl rfl).trans ?_
    refine (ys7_0 88 rfl rfl).trans ?_
    rw [show ((nI (6 * k)) + (nI j)) = nI ((6 * k) + j) from nI_add (6 * k) j]
    refine (ylx 89 (N := 72) rfl (j := ((6 * k) + j)) rfl (Or.inl (zFS.tag hU.1 (j := 15) (by decide) rfl)) (zFS.ni hU.1 (j := 15) (by decide) rfl) (by omega) (by decide) rfl (Eq.trans (zfl_at (j := 15) (by decide)) (show (T1 15 ((6 * k) + j)) = nI 0 from (by subst hT1; rw [zup_ne' (by omega)]; exact hz hj6b)))).trans ?_
    refine (ys5 91 (L2 := [(7, .int (nI 0)), (6, .int (nI ((120 * k) + (20 * j)))), (5, .int ((nI j))), (4, .int ((nI p))), (3, .ref (u + 0)), (0, .ref (x + 0)), (1, .int (nI t)), (2, .int (nI k))]) rfl rfl rfl rfl).trans ?_
    refine (ys4 93 (v := .int (nI 0)) rfl rfl rfl rfl).trans ?_
    refine ys17_5 96 rfl rfl (fun h93 => ?_) (fun h93 => absurd (by decide) h93)
    refine (ys1 122 (x := nI 0) rfl rfl rfl).trans ?_
    refine (ys5 124 (L2 := [(8, .int (nI 0)), (7, .int (nI 0)), (6, .int (nI ((120 * k) + (20 * j)))), (5, .int ((nI j))), (4, .int ((nI p))), (3, .ref (u + 0)), (0, .ref (x + 0)), (1, .int (nI t)), (2, .int (nI k))]) rfl rfl rfl rfl).trans ?_
    rw [show rec18 T X t k j p = recL T1 k j 0 p 0 0 from by subst hT1; unfold rec18; (try dsimp only); rw [if_neg h40]]; exact l_ec (z := 0) hX hU hk hj6b (by omega) 0 0 (by omega)

