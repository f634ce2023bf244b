/-! THE REFERENCE'S DIGEST -/
def zP (Q : zR → Prop) (r : Option zR) : Prop := ∃ z, r = some z ∧ Q z
theorem zP.st {Q : zR → Prop} {r r' : Option zR} (h : r = r') (hp : zP Q r') : zP Q r := by rw [h]; exact hp
theorem zP.im {Q : zR → Prop} {r r' : Option zR} (h : ∀ z, r' = some z → r = some z) (hp : zP Q r') : zP Q r := by
  obtain ⟨z, h1, h2⟩ := hp
  exact ⟨z, h z h1, h2⟩
def mdgR (R : zRw) : Nat → Nat → Int64 → Int64
  | 0, _, a => a
  | m + 1, i, a => mdgR R m (i + 1) (a * 31 + (R i).toInt64)
def mdgO (N : Nat) (F : Nat → zRw) : Nat → Nat → Int64 → Int64
  | 0, _, a => a
  | m + 1, l, a => mdgO N F m (l + 1) (mdgR (F l) N 0 a)
theorem zR8_cons (μ : zM) (m : Nat) : (μ ++ [zR8]) ++ List.replicate m zR8 = μ ++ List.replicate (m + 1) zR8 := by
  rw [List.append_assoc, List.replicate_succ]
  rfl
theorem zR8_add (μ : zM) (m n : Nat) : (μ ++ List.replicate m zR8) ++ List.replicate n zR8 = μ ++ List.replicate (m + n) zR8 := by
  rw [List.append_assoc, List.replicate_append_replicate]

theorem l_d0 {d : Nat} {Q : zR → Prop} {x t s q : Nat} {X S A T : zFn} {nl np nh nk : Nat} (hN : zTN T nl np nh nk) (hI : zIN T S) : ∀ (m i : Nat) (J : zFn) (μ : zM) (c sl : Nat) (a : Int64), zMC μ x t s q J T → i + m = 12 → zP Q (zden1 (d + 8) (zden zcds (d + 8)) zc182 (36, [(3, .int (nI 12)), (1, .long (mdgR (fun i => mcd X S T np nk (nI i)) m i a)), (0, .ref (x + 0))], [], c, sl, zwi μ (zfl (zfl (zfl J x 6 X) s 22 S) q 22 A))) → zP Q (zden1 (d + 8) (zden zcds (d + 8)) zc182 (11, [(3, .int (nI i)), (1, .long (a)), (0, .ref (x + 0))], [], c, sl, zwi μ (zfl (zfl (zfl J x 6 X) s 22 S) q 22 A)))
  | 0, i, J, μ, c, sl, a, hM, hi, hkk => by
    have ei : i = 12 := by omega
    subst ei
    refine zP.st (ys4 12 (v := .int (nI 12)) rfl rfl rfl rfl) ?_
    refine zP.st (ys1 14 (x := nI 12) rfl rfl rfl) ?_
    refine zP.st (ys18_3 17 rfl rfl (fun h14 => rfl) (fun h14 => absurd (nI_le (by omega) (by omega)) h14)) ?_
    exact hkk
  | m + 1, i, J, μ, c, sl, a, hM, hi, hkk => by
    have hv : i < 12 := by omega
    refine zP.st (ys4 12 (v := .int (nI i)) rfl rfl rfl rfl) ?_
    refine zP.st (ys1 14 (x := nI 12) rfl rfl rfl) ?_
    refine zP.st (ys18_3 17 rfl rfl (fun h14 => absurd h14 (nI_ge (by omega) (by omega))) (fun h14 => rfl)) ?_
    refine zP.st (ys4 18 (v := .long (a)) rfl rfl rfl rfl) ?_
    refine zP.st (ys3 21 (x := 31) rfl rfl rfl) ?_
    refine zP.st (ys11 22 rfl rfl) ?_
    refine zP.st (ys4 23 (v := .ref (x + 0)) rfl rfl rfl rfl) ?_
    refine zP.st (ys4 24 (v := .int (nI i)) rfl rfl rfl rfl) ?_
    refine zP.st (yc2 27 rfl rfl (Nat.le_of_ble_eq_true rfl) (Or.inr (by show ztg (zwi _ _) _ = _; rw [ztg_wi]; exact (zFS.tag hM.1.1 (j := 0) (by decide) rfl))) rfl rfl (c_mcd hM hN hI)) ?_
    refine zP.st (ys10 28 rfl rfl) ?_
    refine zP.st (ys11 29 rfl rfl) ?_
    refine zP.st (ys5 30 (L2 := [(1, .long (((a * 31) + ((((fun i => mcd X S T np nk (nI i)) i)).toInt64)))), (3, .int (nI i)), (0, .ref (x + 0))]) rfl rfl rfl rfl) ?_
    refine zP.st (ys6 33 (y := nI (i + 1)) (L2 := [(3, .int (nI (i + 1))), (1, .long (((a * 31) + ((((fun i => mcd X S T np nk (nI i)) i)).toInt64)))), (0, .ref (x + 0))]) rfl rfl (nI_1 _) rfl rfl) ?_
    refine zP.st (ys19 rfl) ?_
    refine zP.im (fun z h => zden1_fg (L := [(3, .int (nI (i + 1))), (1, .long (((a * 31) + ((((fun i => mcd X S T np nk (nI i)) i)).toInt64)))), (0, .ref (x + 0))]) (zfg_cons rfl (zfg_cons rfl (zfg_cons rfl zfg_nil))) h) ?_
    exact l_d0 hN hI  m (i + 1) J μ c sl _ hM (by omega) hkk

theorem l_d1 {d : Nat} {Q : zR → Prop} {x t s q : Nat} {X S A T : zFn} {nl np nh nk : Nat} (hN : zTN T nl np nh nk) (hI : zIN T S) {l : Nat} (hl : l < nl) : ∀ (m i : Nat) (J : zFn) (μ : zM) (c sl : Nat) (a : Int64), zMC μ x t s q J T → i + m = 8 → (∀ J', (∀ b, b < μ.length → J' b = J b) → zP Q (zden1 (d + 8) (zden zcds (d + 8)) zc182 (80, [(4, .int (nI 8)), (3, .int (nI l)), (1, .long (mdgR (mlo S T l np nk) m i a)), (0, .ref (x + 0))], [], c + m, sl + 8 * m, zwi (μ ++ List.replicate m zR8) (zfl (zfl (zfl J' x 6 X) s 22 S) q 22 A)))) → zP Q (zden1 (d + 8) (zden zcds (d + 8)) zc182 (52, [(4, .int (nI i)), (3, .int (nI l)), (1, .long (a)), (0, .ref (x + 0))], [], c, sl, zwi μ (zfl (zfl (zfl J x 6 X) s 22 S) q 22 A)))
  | 0, i, J, μ, c, sl, a, hM, hi, hkk => by
    have ei : i = 8 := by omega
    subst ei
    refine zP.st (ys4 54 (v := .int (nI 8)) rfl rfl rfl rfl) ?_
    refine zP.st (ys1 56 (x := nI 8) rfl rfl rfl) ?_
    refine zP.st (ys18_3 59 rfl rfl (fun h56 => rfl) (fun h56 => absurd (nI_le (by omega) (by omega)) h56)) ?_
    have h := hkk J (fun _ _ => rfl)
    rw [List.replicate_zero, List.append_nil] at h
    exact h
  | m + 1, i, J, μ, c, sl, a, hM, hi, hkk => by
    have hv : i < 8 := by omega
    refine zP.st (ys4 54 (v := .int (nI i)) rfl rfl rfl rfl) ?_
    refine zP.st (ys1 56 (x := nI 8) rfl rfl rfl) ?_
    refine zP.st (ys18_3 59 rfl rfl (fun h56 => absurd h56 (nI_ge (by omega) (by omega))) (fun h56 => rfl)) ?_
    refine zP.st (ys4 60 (v := .long (a)) rfl rfl rfl rfl) ?_
    refine zP.st (ys3 63 (x := 31) rfl rfl rfl) ?_
    refine zP.st (ys11 64 rfl rfl) ?_
    refine zP.st (ys4 65 (v := .ref (x + 0)) rfl rfl rfl rfl) ?_
    refine zP.st (ys4 66 (v := .int (nI l)) rfl rfl rfl rfl) ?_
    refine zP.st (ys4 68 (v := .int (nI i)) rfl rfl rfl rfl) ?_
    refine zP.st (yc3 71 rfl rfl (Nat.le_of_ble_eq_true rfl) (Or.inr (by show ztg (zwi _ _) _ = _; rw [ztg_wi]; exact (zFS.tag hM.1.1 (j := 0) (by decide) rfl))) rfl rfl (c_mlt2 hM hN (by have := hN.2.1; omega) hv)) ?_
    refine zP.st (ys10 72 rfl rfl) ?_
    refine zP.st (ys11 73 rfl rfl) ?_
    refine zP.st (ys5 74 (L2 := [(1, .long (((a * 31) + ((((mlo S T l np nk) i)).toInt64)))), (4, .int (nI i)), (3, .int (nI l)), (0, .ref (x + 0))]) rfl rfl rfl rfl) ?_
    refine zP.st (ys6 77 (y := nI (i + 1)) (L2 := [(4, .int (nI (i + 1))), (1, .long (((a * 31) + ((((mlo S T l np nk) i)).toInt64)))), (3, .int (nI l)), (0, .ref (x + 0))]) rfl rfl (nI_1 _) rfl rfl) ?_
    refine zP.st (ys19 rfl) ?_
    refine zP.im (fun z h => zden1_fg (L := [(4, .int (nI (i + 1))), (3, .int (nI l)), (1, .long (((a * 31) + ((((mlo S T l np nk) i)).toInt64)))), (0, .ref (x + 0))]) (zfg_cons rfl (zfg_cons rfl (zfg_cons rfl (zfg_cons rfl zfg_nil)))) h) ?_
    refine l_d1 hN hI hl m (i + 1) (zgb J μ.length (mlo S T l np nk)) (μ ++ [zR8]) (c + 1) (sl + 8) _ (zMC_app [zR8] hM (fun b hb => by unfold zgb; rw [if_neg (by omega)])) (by omega) (fun J' hJ => ?_)
    have h := hkk J' (fun b hb => (hJ b (by rw [List.length_append]; omega)).trans (by unfold zgb; rw [if_neg (by omega)]))
    rw [zR8_cons, show c + 1 + m = c + (m + 1) from by omega, show sl + 8 + 8 * m = sl + 8 * (m + 1) from by omega]
    exact h

theorem l_d2 {d : Nat} {Q : zR → Prop} {x t s q : Nat} {X S A T : zFn} {nl np nh nk : Nat} (hN : zTN T nl np nh nk) (hI : zIN T S) {l : Nat} (hl : l < np) : ∀ (m i : Nat) (J : zFn) (μ : zM) (c sl : Nat) (a : Int64), zMC μ x t s q J T → i + m = 8 → (∀ J', (∀ b, b < μ.length → J' b = J b) → zP Q (zden1 (d + 8) (zden zcds (d + 8)) zc182 (130, [(4, .int (nI 8)), (3, .int (nI l)), (1, .long (mdgR (mpt S T l) m i a)), (0, .ref (x + 0))], [], c + m, sl + 8 * m, zwi (μ ++ List.replicate m zR8) (zfl (zfl (zfl J' x 6 X) s 22 S) q 22 A)))) → zP Q (zden1 (d + 8) (zden zcds (d + 8)) zc182 (102, [(4, .int (nI i)), (3, .int (nI l)), (1, .long (a)), (0, .ref (x + 0))], [], c, sl, zwi μ (zfl (zfl (zfl J x 6 X) s 22 S) q 22 A)))
  | 0, i, J, μ, c, sl, a, hM, hi, hkk => by
    have ei : i = 8 := by omega
    subst ei
    refine zP.st (ys4 104 (v := .int (nI 8)) rfl rfl rfl rfl) ?_
    refine zP.st (ys1 106 (x := nI 8) rfl rfl rfl) ?_
    refine zP.st (ys18_3 109 rfl rfl (fun h106 => rfl) (fun h106 => absurd (nI_le (by omega) (by omega)) h106)) ?_
    have h := hkk J (fun _ _ => rfl)
    rw [List.replicate_zero, List.append_nil] at h
    exact h
  | m + 1, i, J, μ, c, sl, a, hM, hi, hkk => by
    have hv : i < 8 := by omega
    refine zP.st (ys4 104 (v := .int (nI i)) rfl rfl rfl rfl) ?_
    refine zP.st (ys1 106 (x := nI 8) rfl rfl rfl) ?_
    refine zP.st (ys18_3 109 rfl rfl (fun h106 => absurd h106 (nI_ge (by omega) (by omega))) (fun h106 => rfl)) ?_
    refine zP.st (ys4 110 (v := .long (a)) rfl rfl rfl rfl) ?_
    refine zP.st (ys3 113 (x := 31) rfl rfl rfl) ?_
    refine zP.st (ys11 114 rfl rfl) ?_
    refine zP.st (ys4 115 (v := .ref (x + 0)) rfl rfl rfl rfl) ?_
    refine zP.st (ys4 116 (v := .int (nI l)) rfl rfl rfl rfl) ?_
    refine zP.st (ys4 118 (v := .int (nI i)) rfl rfl rfl rfl) ?_
    refine zP.st (yc3 121 rfl rfl (Nat.le_of_ble_eq_true rfl) (Or.inr (by show ztg (zwi _ _) _ = _; rw [ztg_wi]; exact (zFS.tag hM.1.1 (j := 0) (by decide) rfl))) rfl rfl (c_mpt hM hI (by have := hN.2.2.2.1; omega) hv)) ?_
    refine zP.st (ys10 122 rfl rfl) ?_
    refine zP.st (ys11 123 rfl rfl) ?_
    refine zP.st (ys5 124 (L2 := [(1, .long (((a * 31) + ((((mpt S T l) i)).toInt64)))), (4, .int (nI i)), (3, .int (nI l)), (0, .ref (x + 0))]) rfl rfl rfl rfl) ?_
    refine zP.st (ys6 127 (y := nI (i + 1)) (L2 := [(4, .int (nI (i + 1))), (1, .long (((a * 31) + ((((mpt S T l) i)).toInt64)))), (3, .int (nI l)), (0, .ref (x + 0))]) rfl rfl (nI_1 _) rfl rfl) ?_
    refine zP.st (ys19 rfl) ?_
    refine zP.im (fun z h => zden1_fg (L := [(4, .int (nI (i + 1))), (3, .int (nI l)), (1, .long (((a * 31) + ((((mpt S T l) i)).toInt64)))), (0, .ref (x + 0))]) (zfg_cons rfl (zfg_cons rfl (zfg_cons rfl (zfg_cons rfl zfg_nil)))) h) ?_
    refine l_d2 hN hI hl m (i + 1) (zgb J μ.length (mpt S T l)) (μ ++ [zR8]) (c + 1) (sl + 8) _ (zMC_app [zR8] hM (fun b hb => by unfold zgb; rw [if_neg (by omega)])) (by omega) (fun J' hJ => ?_)
    have h := hkk J' (fun b hb => (hJ b (by rw [List.length_append]; omega)).trans (by unfold zgb; rw [if_neg (by omega)]))
    rw [zR8_cons, show c + 1 + m = c + (m + 1) from by omega, show sl + 8 + 8 * m = sl + 8 * (m + 1) from by omega]
    exact h

theorem l_d3 {d : Nat} {Q : zR → Prop} {x t s q : Nat} {X S A T : zFn} {nl np nh nk : Nat} (hN : zTN T nl np nh nk) (hI : zIN T S) {l : Nat} (hl : l < nh) : ∀ (m i : Nat) (J : zFn) (μ : zM) (c sl : Nat) (a : Int64), zMC μ x t s q J T → i + m = 5 → zP Q (zden1 (d + 8) (zden zcds (d + 8)) zc182 (179, [(4, .int (nI 5)), (3, .int (nI l)), (1, .long (mdgR (fun v => mhd S T l (nI v)) m i a)), (0, .ref (x + 0))], [], c, sl, zwi μ (zfl (zfl (zfl J x 6 X) s 22 S) q 22 A))) → zP Q (zden1 (d + 8) (zden zcds (d + 8)) zc182 (152, [(4, .int (nI i)), (3, .int (nI l)), (1, .long (a)), (0, .ref (x + 0))], [], c, sl, zwi μ (zfl (zfl (zfl J x 6 X) s 22 S) q 22 A)))
  | 0, i, J, μ, c, sl, a, hM, hi, hkk => by
    have ei : i = 5 := by omega
    subst ei
    refine zP.st (ys4 154 (v := .int (nI 5)) rfl rfl rfl rfl) ?_
    refine zP.st (ys1 155 (x := nI 5) rfl rfl rfl) ?_
    refine zP.st (ys18_3 158 rfl rfl (fun h155 => rfl) (fun h155 => absurd (nI_le (by omega) (by omega)) h155)) ?_
    exact hkk
  | m + 1, i, J, μ, c, sl, a, hM, hi, hkk => by
    have hv : i < 5 := by omega
    refine zP.st (ys4 154 (v := .int (nI i)) rfl rfl rfl rfl) ?_
    refine zP.st (ys1 155 (x := nI 5) rfl rfl rfl) ?_
    refine zP.st (ys18_3 158 rfl rfl (fun h155 => absurd h155 (nI_ge (by omega) (by omega))) (fun h155 => rfl)) ?_
    refine zP.st (ys4 159 (v := .long (a)) rfl rfl rfl rfl) ?_
    refine zP.st (ys3 162 (x := 31) rfl rfl rfl) ?_
    refine zP.st (ys11 163 rfl rfl) ?_
    refine zP.st (ys4 164 (v := .ref (x + 0)) rfl rfl rfl rfl) ?_
    refine zP.st (ys4 165 (v := .int (nI l)) rfl rfl rfl rfl) ?_
    refine zP.st (ys4 167 (v := .int (nI i)) rfl rfl rfl rfl) ?_
    refine zP.st (yc3 170 rfl rfl (Nat.le_of_ble_eq_true rfl) (Or.inr (by show ztg (zwi _ _) _ = _; rw [ztg_wi]; exact (zFS.tag hM.1.1 (j := 0) (by decide) rfl))) rfl rfl (c_mhd hM (by have := hN.2.2.2.2.2.1; omega))) ?_
    refine zP.st (ys10 171 rfl rfl) ?_
    refine zP.st (ys11 172 rfl rfl) ?_
    refine zP.st (ys5 173 (L2 := [(1, .long (((a * 31) + ((((fun v => mhd S T l (nI v)) i)).toInt64)))), (4, .int (nI i)), (3, .int (nI l)), (0, .ref (x + 0))]) rfl rfl rfl rfl) ?_
    refine zP.st (ys6 176 (y := nI (i + 1)) (L2 := [(4, .int (nI (i + 1))), (1, .long (((a * 31) + ((((fun v => mhd S T l (nI v)) i)).toInt64)))), (3, .int (nI l)), (0, .ref (x + 0))]) rfl rfl (nI_1 _) rfl rfl) ?_
    refine zP.st (ys19 rfl) ?_
    refine zP.im (fun z h => zden1_fg (L := [(4, .int (nI (i + 1))), (3, .int (nI l)), (1, .long (((a * 31) + ((((fun v => mhd S T l (nI v)) i)).toInt64)))), (0, .ref (x + 0))]) (zfg_cons rfl (zfg_cons rfl (zfg_cons rfl (zfg_cons rfl zfg_nil)))) h) ?_
    exact l_d3 hN hI hl m (i + 1) J μ c sl _ hM (by omega) hkk

theorem l_d4 {d : Nat} {Q : zR → Prop} {x t s q : Nat} {X S A T : zFn} {nl np nh nk : Nat} (hN : zTN T nl np nh nk) (hI : zIN T S) {l : Nat} (hl : l < nk) : ∀ (m i : Nat) (J : zFn) (μ : zM) (c sl : Nat) (a : Int64), zMC μ x t s q J T → i + m = 8 → (∀ J', (∀ b, b < μ.length → J' b = J b) → zP Q (zden1 (d + 8) (zden zcds (d + 8)) zc182 (229, [(4, .int (nI 8)), (3, .int (nI l)), (1, .long (mdgR (mlt S T l np) m i a)), (0, .ref (x + 0))], [], c + m, sl + 8 * m, zwi (μ ++ List.replicate m zR8) (zfl (zfl (zfl J' x 6 X) s 22 S) q 22 A)))) → zP Q (zden1 (d + 8) (zden zcds (d + 8)) zc182 (201, [(4, .int (nI i)), (3, .int (nI l)), (1, .long (a)), (0, .ref (x + 0))], [], c, sl, zwi μ (zfl (zfl (zfl J x 6 X) s 22 S) q 22 A)))
  | 0, i, J, μ, c, sl, a, hM, hi, hkk => by
    have ei : i = 8 := by omega
    subst ei
    refine zP.st (ys4 203 (v := .int (nI 8)) rfl rfl rfl rfl) ?_
    refine zP.st (ys1 205 (x := nI 8) rfl rfl rfl) ?_
    refine zP.st (ys18_3 208 rfl rfl (fun h205 => rfl) (fun h205 => absurd (nI_le (by omega) (by omega)) h205)) ?_
    have h := hkk J (fun _ _ => rfl)
    rw [List.replicate_zero, List.append_nil] at h
    exact h
  | m + 1, i, J, μ, c, sl, a, hM, hi, hkk => by
    have hv : i < 8 := by omega
    refine zP.st (ys4 203 (v := .int (nI i)) rfl rfl rfl rfl) ?_
    refine zP.st (ys1 205 (x := nI 8) rfl rfl rfl) ?_
    refine zP.st (ys18_3 208 rfl rfl (fun h205 => absurd h205 (nI_ge (by omega) (by omega))) (fun h205 => rfl)) ?_
    refine zP.st (ys4 209 (v := .long (a)) rfl rfl rfl rfl) ?_
    refine zP.st (ys3 212 (x := 31) rfl rfl rfl) ?_
    refine zP.st (ys11 213 rfl rfl) ?_
    refine zP.st (ys4 214 (v := .ref (x + 0)) rfl rfl rfl rfl) ?_
    refine zP.st (ys4 215 (v := .int (nI l)) rfl rfl rfl rfl) ?_
    refine zP.st (ys4 217 (v := .int (nI i)) rfl rfl rfl rfl) ?_
    refine zP.st (yc3 220 rfl rfl (Nat.le_of_ble_eq_true rfl) (Or.inr (by show ztg (zwi _ _) _ = _; rw [ztg_wi]; exact (zFS.tag hM.1.1 (j := 0) (by decide) rfl))) rfl rfl (c_mlt hM hN hI (by have := hN.2.2.2.2.2.2.2; omega) hv)) ?_
    refine zP.st (ys10 221 rfl rfl) ?_
    refine zP.st (ys11 222 rfl rfl) ?_
    refine zP.st (ys5 223 (L2 := [(1, .long (((a * 31) + ((((mlt S T l np) i)).toInt64)))), (4, .int (nI i)), (3, .int (nI l)), (0, .ref (x + 0))]) rfl rfl rfl rfl) ?_
    refine zP.st (ys6 226 (y := nI (i + 1)) (L2 := [(4, .int (nI (i + 1))), (1, .long (((a * 31) + ((((mlt S T l np) i)).toInt64)))), (3, .int (nI l)), (0, .ref (x + 0))]) rfl rfl (nI_1 _) rfl rfl) ?_
    refine zP.st (ys19 rfl) ?_
    refine zP.im (fun z h => zden1_fg (L := [(4, .int (nI (i + 1))), (3, .int (nI l)), (1, .long (((a * 31) + ((((mlt S T l np) i)).toInt64)))), (0, .ref (x + 0))]) (zfg_cons rfl (zfg_cons rfl (zfg_cons rfl (zfg_cons rfl zfg_nil)))) h) ?_
    refine l_d4 hN hI hl m (i + 1) (zgb J μ.length (mlt S T l np)) (μ ++ [zR8]) (c + 1) (sl + 8) _ (zMC_app [zR8] hM (fun b hb => by unfold zgb; rw [if_neg (by omega)])) (by omega) (fun J' hJ => ?_)
    have h := hkk J' (fun b hb => (hJ b (by rw [List.length_append]; omega)).trans (by unfold zgb; rw [if_neg (by omega)]))
    rw [zR8_cons, show c + 1 + m = c + (m + 1) from by omega, show sl + 8 + 8 * m = sl + 8 * (m + 1) from by omega]
    exact h

theorem l_D1 {d : Nat} {Q : zR → Prop} {x t s q : Nat} {X S A T : zFn} {nl np nh nk : Nat} (hN : zTN T nl np nh nk) (hI : zIN T S) : ∀ (m l : Nat) (J : zFn) (μ : zM) (c sl : Nat) (a : Int64), zMC μ x t s q J T → l + m = nl → (∀ J', (∀ b, b < μ.length → J' b = J b) → zP Q (zden1 (d + 8) (zden zcds (d + 8)) zc182 (86, [(3, .int (nI nl)), (1, .long (mdgO 8 (fun l => mlo S T l np nk) m l a)), (0, .ref (x + 0))], [], c + 8 * m, sl + 64 * m, zwi (μ ++ List.replicate (8 * m) zR8) (zfl (zfl (zfl J' x 6 X) s 22 S) q 22 A)))) → zP Q (zden1 (d + 8) (zden zcds (d + 8)) zc182 (38, [(3, .int (nI l)), (1, .long (a)), (0, .ref (x + 0))], [], c, sl, zwi μ (zfl (zfl (zfl J x 6 X) s 22 S) q 22 A)))
  | 0, l, J, μ, c, sl, a, hM, hi, hkk => by
    have ei : nl = l := by omega
    subst ei
    refine zP.st (ys4 39 (v := .int (nI nl)) rfl rfl rfl rfl) ?_
    refine zP.st (ys4 40 (v := .ref (x + 0)) rfl rfl rfl rfl) ?_
    refine zP.st (ygr 43 rfl (zFS.tag hM.1.1 (j := 0) (by decide) rfl) rfl hM.2.1) ?_
    refine zP.st (yg 46 rfl (zFS.tag (hMq hM (X := X) (S := S)).2.2.2.1 (j := 0) (by decide) rfl) (zFS.ni (hMq hM (X := X) (S := S)).2.2.2.1 (j := 0) (by decide) rfl) (by decide) rfl (zt3_at hM (j := 0) (by decide))) ?_
    refine zP.st (ys18_3 49 rfl rfl (fun h46 => rfl) (fun h46 => absurd (by rw [hN.1]; exact nI_le (by omega) (by have := hN.2.1; omega)) h46)) ?_
    have h := hkk J (fun _ _ => rfl)
    rw [Nat.mul_zero, List.replicate_zero, List.append_nil] at h
    exact h
  | m + 1, l, J, μ, c, sl, a, hM, hi, hkk => by
    have hl : l < nl := by omega
    refine zP.st (ys4 39 (v := .int (nI l)) rfl rfl rfl rfl) ?_
    refine zP.st (ys4 40 (v := .ref (x + 0)) rfl rfl rfl rfl) ?_
    refine zP.st (ygr 43 rfl (zFS.tag hM.1.1 (j := 0) (by decide) rfl) rfl hM.2.1) ?_
    refine zP.st (yg 46 rfl (zFS.tag (hMq hM (X := X) (S := S)).2.2.2.1 (j := 0) (by decide) rfl) (zFS.ni (hMq hM (X := X) (S := S)).2.2.2.1 (j := 0) (by decide) rfl) (by decide) rfl (zt3_at hM (j := 0) (by decide))) ?_
    refine zP.st (ys18_3 49 rfl rfl (fun h46 => absurd h46 (by rw [hN.1]; exact nI_ge (by omega) (by have := hN.2.1; omega))) (fun h46 => rfl)) ?_
    refine zP.st (ys1 50 (x := nI 0) rfl rfl rfl) ?_
    refine zP.st (ys5 52 (L2 := [(4, .int (nI 0)), (3, .int (nI l)), (1, .long (a)), (0, .ref (x + 0))]) rfl rfl rfl rfl) ?_
    refine zP.im (fun z h => zden1_fg (L := [(4, .int (nI 0)), (3, .int (nI l)), (1, .long (a)), (0, .ref (x + 0))]) (zfg_cons rfl (zfg_cons rfl (zfg_cons rfl (zfg_cons rfl zfg_nil)))) h) ?_
    refine l_d1 hN hI hl 8 0 J μ c sl a hM (by omega) (fun J1 hJ1 => ?_)
    have hM1 := zMC_app (List.replicate 8 zR8) hM hJ1
    refine zP.st (ys6 83 (y := nI (l + 1)) (L2 := [(3, .int (nI (l + 1))), (4, .int (nI 8)), (1, .long (mdgR (mlo S T l np nk) 8 0 a)), (0, .ref (x + 0))]) rfl rfl (nI_1 _) rfl rfl) ?_
    refine zP.st (ys19 rfl) ?_
    refine zP.im (fun z h => zden1_fg (L := [(3, .int (nI (l + 1))), (1, .long (mdgR (mlo S T l np nk) 8 0 a)), (0, .ref (x + 0))]) (zfg_cons rfl (zfg_cons rfl (zfg_cons rfl zfg_nil))) h) ?_
    refine l_D1 hN hI m (l + 1) J1 (μ ++ List.replicate 8 zR8) (c + 8) (sl + 8 * 8) _ hM1 (by omega) (fun J' hJ => ?_)
    have h := hkk J' (fun b hb => (hJ b (by rw [List.length_append]; omega)).trans (hJ1 b hb))
    rw [zR8_add, show 8 + 8 * m = 8 * (m + 1) from by omega, show c + 8 + 8 * m = c + 8 * (m + 1) from by omega, show sl + 8 * 8 + 64 * m = sl + 64 * (m + 1) from by omega]
    exact h

theorem l_D2 {d : Nat} {Q : zR → Prop} {x t s q : Nat} {X S A T : zFn} {nl np nh nk : Nat} (hN : zTN T nl np nh nk) (hI : zIN T S) : ∀ (m l : Nat) (J : zFn) (μ : zM) (c sl : Nat) (a : Int64), zMC μ x t s q J T → l + m = np → (∀ J', (∀ b, b < μ.length → J' b = J b) → zP Q (zden1 (d + 8) (zden zcds (d + 8)) zc182 (136, [(3, .int (nI np)), (1, .long (mdgO 8 (fun l => mpt S T l) m l a)), (0, .ref (x + 0))], [], c + 8 * m, sl + 64 * m, zwi (μ ++ List.replicate (8 * m) zR8) (zfl (zfl (zfl J' x 6 X) s 22 S) q 22 A)))) → zP Q (zden1 (d + 8) (zden zcds (d + 8)) zc182 (88, [(3, .int (nI l)), (1, .long (a)), (0, .ref (x + 0))], [], c, sl, zwi μ (zfl (zfl (zfl J x 6 X) s 22 S) q 22 A)))
  | 0, l, J, μ, c, sl, a, hM, hi, hkk => by
    have ei : np = l := by omega
    subst ei
    refine zP.st (ys4 89 (v := .int (nI np)) rfl rfl rfl rfl) ?_
    refine zP.st (ys4 90 (v := .ref (x + 0)) rfl rfl rfl rfl) ?_
    refine zP.st (ygr 93 rfl (zFS.tag hM.1.1 (j := 0) (by decide) rfl) rfl hM.2.1) ?_
    refine zP.st (yg 96 rfl (zFS.tag (hMq hM (X := X) (S := S)).2.2.2.1 (j := 0) (by decide) rfl) (zFS.ni (hMq hM (X := X) (S := S)).2.2.2.1 (j := 0) (by decide) rfl) (by decide) rfl (zt3_at hM (j := 0) (by decide))) ?_
    refine zP.st (ys18_3 99 rfl rfl (fun h96 => rfl) (fun h96 => absurd (by rw [hN.2.2.1]; exact nI_le (by omega) (by have := hN.2.2.2.1; omega)) h96)) ?_
    have h := hkk J (fun _ _ => rfl)
    rw [Nat.mul_zero, List.replicate_zero, List.append_nil] at h
    exact h
  | m + 1, l, J, μ, c, sl, a, hM, hi, hkk => by
    have hl : l < np := by omega
    refine zP.st (ys4 89 (v := .int (nI l)) rfl rfl rfl rfl) ?_
    refine zP.st (ys4 90 (v := .ref (x + 0)) rfl rfl rfl rfl) ?_
    refine zP.st (ygr 93 rfl (zFS.tag hM.1.1 (j := 0) (by decide) rfl) rfl hM.2.1) ?_
    refine zP.st (yg 96 rfl (zFS.tag (hMq hM (X := X) (S := S)).2.2.2.1 (j := 0) (by decide) rfl) (zFS.ni (hMq hM (X := X) (S := S)).2.2.2.1 (j := 0) (by decide) rfl) (by decide) rfl (zt3_at hM (j := 0) (by decide))) ?_
    refine zP.st (ys18_3 99 rfl rfl (fun h96 => absurd h96 (by rw [hN.2.2.1]; exact nI_ge (by omega) (by have := hN.2.2.2.1; omega))) (fun h96 => rfl)) ?_
    refine zP.st (ys1 100 (x := nI 0) rfl rfl rfl) ?_
    refine zP.st (ys5 102 (L2 := [(4, .int (nI 0)), (3, .int (nI l)), (1, .long (a)), (0, .ref (x + 0))]) rfl rfl rfl rfl) ?_
    refine zP.im (fun z h => zden1_fg (L := [(4, .int (nI 0)), (3, .int (nI l)), (1, .long (a)), (0, .ref (x + 0))]) (zfg_cons rfl (zfg_cons rfl (zfg_cons rfl (zfg_cons rfl zfg_nil)))) h) ?_
    refine l_d2 hN hI hl 8 0 J μ c sl a hM (by omega) (fun J1 hJ1 => ?_)
    have hM1 := zMC_app (List.replicate 8 zR8) hM hJ1
    refine zP.st (ys6 133 (y := nI (l + 1)) (L2 := [(3, .int (nI (l + 1))), (4, .int (nI 8)), (1, .long (mdgR (mpt S T l) 8 0 a)), (0, .ref (x + 0))]) rfl rfl (nI_1 _) rfl rfl) ?_
    refine zP.st (ys19 rfl) ?_
    refine zP.im (fun z h => zden1_fg (L := [(3, .int (nI (l + 1))), (1, .long (mdgR (mpt S T l) 8 0 a)), (0, .ref (x + 0))]) (zfg_cons rfl (zfg_cons rfl (zfg_cons rfl zfg_nil))) h) ?_
    refine l_D2 hN hI m (l + 1) J1 (μ ++ List.replicate 8 zR8) (c + 8) (sl + 8 * 8) _ hM1 (by omega) (fun J' hJ => ?_)
    have h := hkk J' (fun b hb => (hJ b (by rw [List.length_append]; omega)).trans (hJ1 b hb))
    rw [zR8_add, show 8 + 8 * m = 8 * (m + 1) from by omega, show c + 8 + 8 * m = c + 8 * (m + 1) from by omega, show sl + 8 * 8 + 64 * m = sl + 64 * (m + 1) from by omega]
    exact h

theorem l_D3 {d : Nat} {Q : zR → Prop} {x t s q : Nat} {X S A T : zFn} {nl np nh nk : Nat} (hN : zTN T nl np nh nk) (hI : zIN T S) : ∀ (m l : Nat) (J : zFn) (μ : zM) (c sl : Nat) (a : Int64), zMC μ x t s q J T → l + m = nh → zP Q (zden1 (d + 8) (zden zcds (d + 8)) zc182 (185, [(3, .int (nI nh)), (1, .long (mdgO 5 (fun l => fun v => mhd S T l (nI v)) m l a)), (0, .ref (x + 0))], [], c, sl, zwi μ (zfl (zfl (zfl J x 6 X) s 22 S) q 22 A))) → zP Q (zden1 (d + 8) (zden zcds (d + 8)) zc182 (138, [(3, .int (nI l)), (1, .long (a)), (0, .ref (x + 0))], [], c, sl, zwi μ (zfl (zfl (zfl J x 6 X) s 22 S) q 22 A)))
  | 0, l, J, μ, c, sl, a, hM, hi, hkk => by
    have ei : nh = l := by omega
    subst ei
    refine zP.st (ys4 139 (v := .int (nI nh)) rfl rfl rfl rfl) ?_
    refine zP.st (ys4 140 (v := .ref (x + 0)) rfl rfl rfl rfl) ?_
    refine zP.st (ygr 143 rfl (zFS.tag hM.1.1 (j := 0) (by decide) rfl) rfl hM.2.1) ?_
    refine zP.st (yg 146 rfl (zFS.tag (hMq hM (X := X) (S := S)).2.2.2.1 (j := 0) (by decide) rfl) (zFS.ni (hMq hM (X := X) (S := S)).2.2.2.1 (j := 0) (by decide) rfl) (by decide) rfl (zt3_at hM (j := 0) (by decide))) ?_
    refine zP.st (ys18_3 149 rfl rfl (fun h146 => rfl) (fun h146 => absurd (by rw [hN.2.2.2.2.1]; exact nI_le (by omega) (by have := hN.2.2.2.2.2.1; omega)) h146)) ?_
    exact hkk
  | m + 1, l, J, μ, c, sl, a, hM, hi, hkk => by
    have hl : l < nh := by omega
    refine zP.st (ys4 139 (v := .int (nI l)) rfl rfl rfl rfl) ?_
    refine zP.st (ys4 140 (v := .ref (x + 0)) rfl rfl rfl rfl) ?_
    refine zP.st (ygr 143 rfl (zFS.tag hM.1.1 (j := 0) (by decide) rfl) rfl hM.2.1) ?_
    refine zP.st (yg 146 rfl (zFS.tag (hMq hM (X := X) (S := S)).2.2.2.1 (j := 0) (by decide) rfl) (zFS.ni (hMq hM (X := X) (S := S)).2.2.2.1 (j := 0) (by decide) rfl) (by decide) rfl (zt3_at hM (j := 0) (by decide))) ?_
    refine zP.st (ys18_3 149 rfl rfl (fun h146 => absurd h146 (by rw [hN.2.2.2.2.1]; exact nI_ge (by omega) (by have := hN.2.2.2.2.2.1; omega))) (fun h146 => rfl)) ?_
    refine zP.st (ys1 150 (x := nI 0) rfl rfl rfl) ?_
    refine zP.st (ys5 152 (L2 := [(4, .int (nI 0)), (3, .int (nI l)), (1, .long (a)), (0, .ref (x + 0))]) rfl rfl rfl rfl) ?_
    refine zP.im (fun z h => zden1_fg (L := [(4, .int (nI 0)), (3, .int (nI l)), (1, .long (a)), (0, .ref (x + 0))]) (zfg_cons rfl (zfg_cons rfl (zfg_cons rfl (zfg_cons rfl zfg_nil)))) h) ?_
    refine l_d3 hN hI hl 5 0 J μ c sl a hM (by omega) ?_
    refine zP.st (ys6 182 (y := nI (l + 1)) (L2 := [(3, .int (nI (l + 1))), (4, .int (nI 5)), (1, .long (mdgR (fun v => mhd S T l (nI v)) 5 0 a)), (0, .ref (x + 0))]) rfl rfl (nI_1 _) rfl rfl) ?_
    refine zP.st (ys19 rfl) ?_
    refine zP.im (fun z h => zden1_fg (L := [(3, .int (nI (l + 1))), (1, .long (mdgR (fun v => mhd S T l (nI v)) 5 0 a)), (0, .ref (x + 0))]) (zfg_cons rfl (zfg_cons rfl (zfg_cons rfl zfg_nil))) h) ?_
    exact l_D3 hN hI m (l + 1) J μ c sl _ hM (by omega) hkk

theorem l_D4 {d : Nat} {Q : zR → Prop} {x t s q : Nat} {X S A T : zFn} {nl np nh nk : Nat} (hN : zTN T nl np nh nk) (hI : zIN T S) : ∀ (m l : Nat) (J : zFn) (μ : zM) (c sl : Nat) (a : Int64), zMC μ x t s q J T → l + m = nk → (∀ J', (∀ b, b < μ.length → J' b = J b) → zP Q (zden1 (d + 8) (zden zcds (d + 8)) zc182 (235, [(3, .int (nI nk)), (1, .long (mdgO 8 (fun l => mlt S T l np) m l a)), (0, .ref (x + 0))], [], c + 8 * m, sl + 64 * m, zwi (μ ++ List.replicate (8 * m) zR8) (zfl (zfl (zfl J' x 6 X) s 22 S) q 22 A)))) → zP Q (zden1 (d + 8) (zden zcds (d + 8)) zc182 (187, [(3, .int (nI l)), (1, .long (a)), (0, .ref (x + 0))], [], c, sl, zwi μ (zfl (zfl (zfl J x 6 X) s 22 S) q 22 A)))
  | 0, l, J, μ, c, sl, a, hM, hi, hkk => by
    have ei : nk = l := by omega
    subst ei
    refine zP.st (ys4 188 (v := .int (nI nk)) rfl rfl rfl rfl) ?_
    refine zP.st (ys4 189 (v := .ref (x + 0)) rfl rfl rfl rfl) ?_
    refine zP.st (ygr 192 rfl (zFS.tag hM.1.1 (j := 0) (by decide) rfl) rfl hM.2.1) ?_
    refine zP.st (yg 195 rfl (zFS.tag (hMq hM (X := X) (S := S)).2.2.2.1 (j := 0) (by decide) rfl) (zFS.ni (hMq hM (X := X) (S := S)).2.2.2.1 (j := 0) (by decide) rfl) (by decide) rfl (zt3_at hM (j := 0) (by decide))) ?_
    refine zP.st (ys18_3 198 rfl rfl (fun h195 => rfl) (fun h195 => absurd (by rw [hN.2.2.2.2.2.2.1]; exact nI_le (by omega) (by have := hN.2.2.2.2.2.2.2; omega)) h195)) ?_
    have h := hkk J (fun _ _ => rfl)
    rw [Nat.mul_zero, List.replicate_zero, List.append_nil] at h
    exact h
  | m + 1, l, J, μ, c, sl, a, hM, hi, hkk => by
    have hl : l < nk := by omega
    refine zP.st (ys4 188 (v := .int (nI l)) rfl rfl rfl rfl) ?_
    refine zP.st (ys4 189 (v := .ref (x + 0)) rfl rfl rfl rfl) ?_
    refine zP.st (ygr 192 rfl (zFS.tag hM.1.1 (j := 0) (by decide) rfl) rfl hM.2.1) ?_
    refine zP.st (yg 195 rfl (zFS.tag (hMq hM (X := X) (S := S)).2.2.2.1 (j := 0) (by decide) rfl) (zFS.ni (hMq hM (X := X) (S := S)).2.2.2.1 (j := 0) (by decide) rfl) (by decide) rfl (zt3_at hM (j := 0) (by decide))) ?_
    refine zP.st (ys18_3 198 rfl rfl (fun h195 => absurd h195 (by rw [hN.2.2.2.2.2.2.1]; exact nI_ge (by omega) (by have := hN.2.2.2.2.2.2.2; omega))) (fun h195 => rfl)) ?_
    refine zP.st (ys1 199 (x := nI 0) rfl rfl rfl) ?_
    refine zP.st (ys5 201 (L2 := [(4, .int (nI 0)), (3, .int (nI l)), (1, .long (a)), (0, .ref (x + 0))]) rfl rfl rfl rfl) ?_
    refine zP.im (fun z h => zden1_fg (L := [(4, .int (nI 0)), (3, .int (nI l)), (1, .long (a)), (0, .ref (x + 0))]) (zfg_cons rfl (zfg_cons rfl (zfg_cons rfl (zfg_cons rfl zfg_nil)))) h) ?_
    refine l_d4 hN hI hl 8 0 J μ c sl a hM (by omega) (fun J1 hJ1 => ?_)
    have hM1 := zMC_app (List.replicate 8 zR8) hM hJ1
    refine zP.st (ys6 232 (y := nI (l + 1)) (L2 := [(3, .int (nI (l + 1))), (4, .int (nI 8)), (1, .long (mdgR (mlt S T l np) 8 0 a)), (0, .ref (x + 0))]) rfl rfl (nI_1 _) rfl rfl) ?_
    refine zP.st (ys19 rfl) ?_
    refine zP.im (fun z h => zden1_fg (L := [(3, .int (nI (l + 1))), (1, .long (mdgR (mlt S T l np) 8 0 a)), (0, .ref (x + 0))]) (zfg_cons rfl (zfg_cons rfl (zfg_cons rfl zfg_nil))) h) ?_
    refine l_D4 hN hI m (l + 1) J1 (μ ++ List.replicate 8 zR8) (c + 8) (sl + 8 * 8) _ hM1 (by omega) (fun J' hJ => ?_)
    have h := hkk J' (fun b hb => (hJ b (by rw [List.length_append]; omega)).trans (hJ1 b hb))
    rw [zR8_add, show 8 + 8 * m = 8 * (m + 1) from by omega, show c + 8 + 8 * m = c + 8 * (m + 1) from by omega, show sl + 8 * 8 + 64 * m = sl + 64 * (m + 1) from by omega]
    exact h

def mdig (X S T : zFn) (nl np nh nk : Nat) : Int64 := (mdgO 8 (fun l => mlt S T l np) nk 0 (mdgO 5 (fun l => fun v => mhd S T l (nI v)) nh 0 (mdgO 8 (fun l => mpt S T l) np 0 (mdgO 8 (fun l => mlo S T l np nk) nl 0 (mdgR (fun i => mcd X S T np nk (nI i)) 12 0 733)))))
theorem c_mdi {d : Nat} {x t s q : Nat} {X S A T J : zFn} {μ : zM} (hM : zMC μ x t s q J T) {nl np nh nk : Nat} (hN : zTN T nl np nh nk) (hI : zIN T S) : ∃ J', (∀ b, b < μ.length → J' b = J b) ∧ zden zcds (d + 9) 182 [.ref (x + 0)] (zwi μ (zfl (zfl (zfl J x 6 X) s 22 S) q 22 A)) = some (0, some (.long (mdig (zup X 0 0 0) S T nl np nh nk)), 8 * (nl + np + nk), 64 * (nl + np + nk), zwi (μ ++ List.replicate (8 * (nl + np + nk)) zR8) (zfl (zfl (zfl J' x 6 (zup X 0 0 0)) s 22 S) q 22 A)) := by
  suffices h : zP (fun z => ∃ J', (∀ b, b < μ.length → J' b = J b) ∧ z = (0, some (.long (mdig (zup X 0 0 0) S T nl np nh nk)), 8 * (nl + np + nk), 64 * (nl + np + nk), zwi (μ ++ List.replicate (8 * (nl + np + nk)) zR8) (zfl (zfl (zfl J' x 6 (zup X 0 0 0)) s 22 S) q 22 A))) (zden zcds (d + 9) 182 [.ref (x + 0)] (zwi μ (zfl (zfl (zfl J x 6 X) s 22 S) q 22 A))) by
    obtain ⟨z, h1, J', h2, h3⟩ := h
    exact ⟨J', h2, by rw [h1, h3]⟩
  refine zP.st (zd_in (d := d + 8) (cd := zc182) (nL := 5) (L := [(0, .ref (x + 0))]) rfl (Nat.le_of_ble_eq_true rfl) rfl) ?_
  refine zP.st (ys4 1 (v := .ref (x + 0)) rfl rfl rfl rfl) ?_
  refine zP.st (ys1 2 (x := 0) rfl rfl rfl) ?_
  refine zP.st (yq 5 rfl (zFS.tag hM.1.1 (j := 0) (by decide) rfl) (zFS.k0 hM.1.1 (j := 0)) (zFS.ni hM.1.1 (j := 0) (by decide) rfl) (by decide) rfl (zx3_up hM (j := 0) (by decide))) ?_
  generalize hX1 : zup X 0 0 (0) = X1
  refine zP.st (ys3 8 (x := 733) rfl rfl rfl) ?_
  refine zP.st (ys5 9 (L2 := [(1, .long (733)), (0, .ref (x + 0))]) rfl rfl rfl rfl) ?_
  refine zP.st (ys1 10 (x := nI 0) rfl rfl rfl) ?_
  refine zP.st (ys5 11 (L2 := [(3, .int (nI 0)), (1, .long (733)), (0, .ref (x + 0))]) rfl rfl rfl rfl) ?_
  refine zP.im (fun z h => zden1_fg (L := [(3, .int (nI 0)), (1, .long (733)), (0, .ref (x + 0))]) (zfg_cons rfl (zfg_cons rfl (zfg_cons rfl zfg_nil))) h) ?_
  refine l_d0 hN hI 12 0 J μ 0 0 733 hM (by omega) ?_
  refine zP.st (ys1 37 (x := nI 0) rfl rfl rfl) ?_
  refine zP.st (ys5 38 (L2 := [(3, .int (nI 0)), (1, .long ((mdgR (fun i => mcd X1 S T np nk (nI i)) 12 0 733))), (0, .ref (x + 0))]) rfl rfl rfl rfl) ?_
  refine zP.im (fun z h => zden1_fg (L := [(3, .int (nI 0)), (1, .long ((mdgR (fun i => mcd X1 S T np nk (nI i)) 12 0 733))), (0, .ref (x + 0))]) (zfg_cons rfl (zfg_cons rfl (zfg_cons rfl zfg_nil))) h) ?_
  refine l_D1 hN hI nl 0 J μ 0 0 _ hM (by omega) (fun J1 hJ1 => ?_)
  have hM1 := zMC_app (List.replicate (8 * nl) zR8) hM hJ1
  refine zP.st (ys1 87 (x := nI 0) rfl rfl rfl) ?_
  refine zP.st (ys5 88 (L2 := [(3, .int (nI 0)), (1, .long ((mdgO 8 (fun l => mlo S T l np nk) nl 0 (mdgR (fun i => mcd X1 S T np nk (nI i)) 12 0 733)))), (0, .ref (x + 0))]) rfl rfl rfl rfl) ?_
  refine zP.im (fun z h => zden1_fg (L := [(3, .int (nI 0)), (1, .long ((mdgO 8 (fun l => mlo S T l np nk) nl 0 (mdgR (fun i => mcd X1 S T np nk (nI i)) 12 0 733)))), (0, .ref (x + 0))]) (zfg_cons rfl (zfg_cons rfl (zfg_cons rfl zfg_nil))) h) ?_
  refine l_D2 hN hI np 0 J1 (μ ++ List.replicate (8 * nl) zR8) _ _ _ hM1 (by omega) (fun J2 hJ2 => ?_)
  have hM2 := zMC_app (List.replicate (8 * np) zR8) hM1 hJ2
  refine zP.st (ys1 137 (x := nI 0) rfl rfl rfl) ?_
  refine zP.st (ys5 138 (L2 := [(3, .int (nI 0)), (1, .long ((mdgO 8 (fun l => mpt S T l) np 0 (mdgO 8 (fun l => mlo S T l np nk) nl 0 (mdgR (fun i => mcd X1 S T np nk (nI i)) 12 0 733))))), (0, .ref (x + 0))]) rfl rfl rfl rfl) ?_
  refine zP.im (fun z h => zden1_fg (L := [(3, .int (nI 0)), (1, .long ((mdgO 8 (fun l => mpt S T l) np 0 (mdgO 8 (fun l => mlo S T l np nk) nl 0 (mdgR (fun i => mcd X1 S T np nk (nI i)) 12 0 733))))), (0, .ref (x + 0))]) (zfg_cons rfl (zfg_cons rfl (zfg_cons rfl zfg_nil))) h) ?_
  refine l_D3 hN hI nh 0 J2 _ _ _ _ hM2 (by omega) ?_
  refine zP.st (ys1 186 (x := nI 0) rfl rfl rfl) ?_
  refine zP.st (ys5 187 (L2 := [(3, .int (nI 0)), (1, .long ((mdgO 5 (fun l => fun v => mhd S T l (nI v)) nh 0 (mdgO 8 (fun l => mpt S T l) np 0 (mdgO 8 (fun l => mlo S T l np nk) nl 0 (mdgR (fun i => mcd X1 S T np nk (nI i)) 12 0 733)))))), (0, .ref (x + 0))]) rfl rfl rfl rfl) ?_
  refine zP.im (fun z h => zden1_fg (L := [(3, .int (nI 0)), (1, .long ((mdgO 5 (fun l => fun v => mhd S T l (nI v)) nh 0 (mdgO 8 (fun l => mpt S T l) np 0 (mdgO 8 (fun l => mlo S T l np nk) nl 0 (mdgR (fun i => mcd X1 S T np nk (nI i)) 12 0 733)))))), (0, .ref (x + 0))]) (zfg_cons rfl (zfg_cons rfl (zfg_cons rfl zfg_nil))) h) ?_
  refine l_D4 hN hI nk 0 J2 _ _ _ _ hM2 (by omega) (fun J3 hJ3 => ?_)
  refine zP.st (ys4 236 (v := .long ((mdgO 8 (fun l => mlt S T l np) nk 0 (mdgO 5 (fun l => fun v => mhd S T l (nI v)) nh 0 (mdgO 8 (fun l => mpt S T l) np 0 (mdgO 8 (fun l => mlo S T l np nk) nl 0 (mdgR (fun i => mcd X1 S T np nk (nI i)) 12 0 733))))))) rfl rfl rfl rfl) ?_
  refine zP.st (ys36 rfl rfl) ?_
  subst hX1
  refine ⟨_, rfl, J3, fun b hb => ?_, ?_⟩
  · exact (hJ3 b (by simp only [List.length_append]; omega)).trans ((hJ2 b (by simp only [List.length_append]; omega)).trans (hJ1 b hb))
  · rw [zR8_add, zR8_add, show 8 * nl + (8 * np + 8 * nk) = 8 * (nl + np + nk) from by omega, show 0 + 8 * nl + 8 * np + 8 * nk = 8 * (nl + np + nk) from by omega, show 0 + 64 * nl + 64 * np + 64 * nk = 64 * (nl + np + nk) from by omega]
    rfl

