/-! THE REFERENCE'S HOUR, whole; its counts -/
def rN (S T : zFn) (k : Nat) : Nat := (rcs S T k).toNatClampNeg
theorem rcs_le {S T : zFn} {k : Nat} (hk : k < 12) (hI : zIN T S) : rcs S T k = nI (rN S T k) ∧ rN S T k ≤ 20 ∧ (0 < rN S T k → zsf (S 18 k) 7 < 6) := by
  unfold rN
  by_cases h : ria S T k = 0
  · have h6 := ((hI.2.2.1 k hk).lt (ria_ne h)).1
    have e : rcs S T k = T 15 (6 * k + zsf (S 18 k) 7) := by unfold rcs; rw [if_pos h]
    obtain ⟨z, hz, ez⟩ := (hI.2.2.2.1 (6 * k + zsf (S 18 k) 7) (by omega)).ex (by decide)
    rw [e, ez, nI_clamp (by omega)]
    exact ⟨rfl, by omega, fun _ => h6⟩
  · have e : rcs S T k = nI 0 := by unfold rcs; rw [if_neg h]; rfl
    rw [e, nI_clamp (by decide)]
    exact ⟨rfl, by decide, fun h => absurd h (by decide)⟩
theorem rca_ix {S T : zFn} {k i : Nat} (hk : k < 12) (hi : i < 20) (hI : zIN T S) (h6 : zsf (S 18 k) 7 < 6) : zix (rca S T k i) 20 := hI.2.2.2.2 _ (by omega)
theorem ria_cg {S S' T : zFn} {k : Nat} (h : S' 18 k = S 18 k) : ria S' T k = ria S T k := by unfold ria; rw [h]
theorem rcs_cg {S S' T : zFn} {k : Nat} (h : S' 18 k = S 18 k) : rcs S' T k = rcs S T k := by unfold rcs; rw [ria_cg h, h]
theorem raim_18 (S T : zFn) (p k : Nat) : raim S T p 18 k = S 18 k := by
  unfold raim
  (try dsimp only)
  rw [zup_ne' (by omega), zup_ne' (by omega)]
theorem rsu_18 (S T : zFn) (k p j : Nat) : rsu S T k p 18 j = S 18 j := by
  unfold rsu
  (try dsimp only)
  repeat (first | rw [zup_ne' (by omega)] | rw [raim_18])

def rso2 (T : zFn) (k : Nat) : Nat → Nat → zFn → zFn
  | 0, i, S =>
    S
  | m + 1, i, S =>
    if (rcso S k (zsf (rca S T k i) 20)) = 0 then
      rso2 T k m (i + 1) S
    else
      let S1 := rsu S T k (zsf (rca S T k i) 20)
      rso2 T k m (i + 1) S1

theorem l_so2 {d c sl : Nat} {rz : zR} {x t s : Nat} {T J : zFn} {μ : zM} (hC : zSC μ x t s J T) {k : Nat} (hk : k < 12) {n : Nat} (hn20 : n ≤ 20) : ∀ (m i : Nat) (S : zFn), zIN T S → rcs S T k = nI n → i + m = n → zden1 (d + 3) (zden zcds (d + 3)) zc202 (58, [(2, .int (nI n)), (1, .int (nI k)), (0, .ref (s + 0))], [], c, sl, zwi μ (zfl J s 22 ((rso2 T k m i S)))) = some rz → zden1 (d + 3) (zden zcds (d + 3)) zc202 (18, [(2, .int (nI i)), (1, .int (nI k)), (0, .ref (s + 0))], [], c, sl, zwi μ (zfl J s 22 S)) = some rz
  | 0, i, S, hI, hn, e, hkk => by
    have ei : i = n := by omega
    subst ei
    refine (ys4 19 (v := .int (nI i)) rfl rfl rfl rfl).trans ?_
    refine (ys4 20 (v := .ref (s + 0)) rfl rfl rfl rfl).trans ?_
    refine (ys4 21 (v := .int (nI k)) rfl rfl rfl rfl).trans ?_
    refine (yc2 24 rfl rfl (Nat.le_of_ble_eq_true rfl) (Or.inr (by show ztg (zwi _ _) _ = _; rw [ztg_wi]; exact (zFS.tag hC.1 (j := 0) (by decide) rfl))) rfl rfl (c_rcs hC hk hI)).trans ?_
    refine ys18_3 27 rfl rfl (fun h24 => ?_) (fun h24 => absurd (by rw [hn]; exact nI_le (by omega) (by omega)) h24)
    rw [show rso2 T k 0 i S = S from by rw [rso2]; (try dsimp only); first | done | rfl] at hkk; exact hkk
  | m + 1, i, S, hI, hn, e, hkk => by
    have h6 : zsf (S 18 k) 7 < 6 := (rcs_le hk hI).2.2 (by have e := (rcs_le hk hI).1; rw [hn] at e; have := congrArg Int32.toNatClampNeg e; rw [nI_clamp (by omega), nI_clamp (by have := (rcs_le hk hI).2.1; omega)] at this; omega)
    refine (ys4 19 (v := .int (nI i)) rfl rfl rfl rfl).trans ?_
    refine (ys4 20 (v := .ref (s + 0)) rfl rfl rfl rfl).trans ?_
    refine (ys4 21 (v := .int (nI k)) rfl rfl rfl rfl).trans ?_
    refine (yc2 24 rfl rfl (Nat.le_of_ble_eq_true rfl) (Or.inr (by show ztg (zwi _ _) _ = _; rw [ztg_wi]; exact (zFS.tag hC.1 (j := 0) (by decide) rfl))) rfl rfl (c_rcs hC hk hI)).trans ?_
    refine ys18_3 27 rfl rfl (fun h24 => absurd h24 (by rw [hn]; exact nI_ge (by omega) (by omega))) (fun h24 => ?_)
    refine (ys4 28 (v := .ref (s + 0)) rfl rfl rfl rfl).trans ?_
    refine (ys4 29 (v := .int (nI k)) rfl rfl rfl rfl).trans ?_
    refine (ys4 30 (v := .ref (s + 0)) rfl rfl rfl rfl).trans ?_
    refine (ys4 31 (v := .int (nI k)) rfl rfl rfl rfl).trans ?_
    refine (ys4 32 (v := .int (nI i)) rfl rfl rfl rfl).trans ?_
    refine (yc3 35 rfl rfl (Nat.le_of_ble_eq_true rfl) (Or.inr (by show ztg (zwi _ _) _ = _; rw [ztg_wi]; exact (zFS.tag hC.1 (j := 0) (by decide) rfl))) rfl rfl (c_rca hC hk (by omega) hI h6)).trans ?_
    rw [show (rca S T k i) = (nI (zsf (rca S T k i) 20)) from ((rca_ix hk (by omega) hI h6).eq (by decide))]
    refine (yc3 38 rfl rfl (Nat.le_of_ble_eq_true rfl) (Or.inr (by show ztg (zwi _ _) _ = _; rw [ztg_wi]; exact (zFS.tag hC.1 (j := 0) (by decide) rfl))) rfl rfl (c_rcso hC hk (zsf_lt (by decide) (by decide)))).trans ?_
    refine ys17_0 41 rfl rfl (fun h38 => ?_) (fun h38 => ?_)
    · refine (ys6 55 (y := nI (i + 1)) (L2 := [(2, .int (nI (i + 1))), (1, .int (nI k)), (0, .ref (s + 0))]) rfl rfl (nI_1 _) rfl rfl).trans ?_
      refine (ys19 rfl).trans ?_
      rw [show rso2 T k (m + 1) i S = rso2 T k m (i + 1) S from by rw [rso2]; (try dsimp only); rw [if_pos h38]] at hkk; exact l_so2 hC hk hn20 m (i + 1)  S  hI hn (by omega) hkk
    · refine (ys4 42 (v := .ref (s + 0)) rfl rfl rfl rfl).trans ?_
      refine (ys4 43 (v := .int (nI k)) rfl rfl rfl rfl).trans ?_
      refine (ys4 44 (v := .ref (s + 0)) rfl rfl rfl rfl).trans ?_
      refine (ys4 45 (v := .int (nI k)) rfl rfl rfl rfl).trans ?_
      refine (ys4 46 (v := .int (nI i)) rfl rfl rfl rfl).trans ?_
      refine (yc3 49 rfl rfl (Nat.le_of_ble_eq_true rfl) (Or.inr (by show ztg (zwi _ _) _ = _; rw [ztg_wi]; exact (zFS.tag hC.1 (j := 0) (by decide) rfl))) rfl rfl (c_rca hC hk (by omega) hI h6)).trans ?_
      rw [show (rca S T k i) = (nI (zsf (rca S T k i) 20)) from ((rca_ix hk (by omega) hI h6).eq (by decide))]
      refine (yc3 52 rfl rfl (Nat.le_of_ble_eq_true rfl) (Or.inr (by show ztg (zwi _ _) _ = _; rw [ztg_wi]; exact (zFS.tag hC.1 (j := 0) (by decide) rfl))) rfl rfl (c_su hC hk (zsf_lt (by decide) (by decide)) hI)).trans ?_
      generalize hS1 : rsu S T k (zsf (rca S T k i) 20) = S1
      have hIS1 : zIN T S1 := by rw [← hS1]; exact rsu_I hk (zsf_lt (by decide) (by decide)) hI
      refine (ys6 55 (y := nI (i + 1)) (L2 := [(2, .int (nI (i + 1))), (1, .int (nI k)), (0, .ref (s + 0))]) rfl rfl (nI_1 _) rfl rfl).trans ?_
      refine (ys19 rfl).trans ?_
      rw [show rso2 T k (m + 1) i S = rso2 T k m (i + 1) S1 from by subst hS1; rw [rso2]; (try dsimp only); rw [if_neg h38]] at hkk; exact l_so2 hC hk hn20 m (i + 1)  S1  hIS1 (by rw [← hS1, rcs_cg (rsu_18 _ _ _ _ _)]; exact hn) (by omega) hkk

theorem rso2_I {T : zFn} {k : Nat} (hk : k < 12) : ∀ (m i : Nat) (S : zFn), zIN T S → zIN T (rso2 T k m i S)
  | 0, _, _, h => h
  | m + 1, i, S, h => by
    rw [rso2]
    dsimp only
    split
    · exact rso2_I hk m _ _ h
    · exact rso2_I hk m _ _ (rsu_I hk (zsf_lt (by decide) (by decide)) h)

def rso (T : zFn) : Nat → Nat → zFn → zFn
  | 0, i, S =>
    S
  | m + 1, i, S =>
    let S1 := rso2 T i (rN S T i) 0 S
    rso T m (i + 1) S1

theorem l_so {d c sl : Nat} {x t s : Nat} {T J : zFn} {μ : zM} (hC : zSC μ x t s J T) {nl np nh nk : Nat} (hN : zTN T nl np nh nk) : ∀ (m i : Nat) (S : zFn), zIN T S → i + m = nk → zden1 (d + 3) (zden zcds (d + 3)) zc202 (2, [(1, .int (nI i)), (0, .ref (s + 0))], [], c, sl, zwi μ (zfl J s 22 S)) = some (0, none, c, sl, zwi μ (zfl J s 22 ((rso T m i S))))
  | 0, i, S, hI, e => by
    refine (ys4 3 (v := .int (nI i)) rfl rfl rfl rfl).trans ?_
    refine (ys4 4 (v := .ref (s + 0)) rfl rfl rfl rfl).trans ?_
    refine (ygr 7 rfl (zFS.tag hC.1 (j := 0) (by decide) rfl) rfl hC.2.2.1).trans ?_
    refine (ygr 10 rfl hC.2.2.2.2.2.1 rfl hC.2.2.2.2.2.2.1).trans ?_
    refine (yg 13 rfl (zFS.tag hC.2.2.2.1 (j := 0) (by decide) rfl) (zFS.ni hC.2.2.2.1 (j := 0) (by decide) rfl) (by decide) rfl (zst_rd hC (j := 0) (by decide))).trans ?_
    refine ys18_3 16 rfl rfl (fun h13 => ?_) (fun h13 => absurd (by rw [hN.2.2.2.2.2.2.1]; exact nI_le (by omega) (by have := hN.2.2.2.2.2.2.2; omega)) h13)
    refine (ys36v rfl rfl).trans ?_
    rw [show rso T 0 i S = S from by rw [rso]; (try dsimp only); first | done | rfl]; (first | done | rfl)
  | m + 1, i, S, hI, e => by
    have hk : i < 12 := by have := hN.2.2.2.2.2.2.2; omega
    refine (ys4 3 (v := .int (nI i)) rfl rfl rfl rfl).trans ?_
    refine (ys4 4 (v := .ref (s + 0)) rfl rfl rfl rfl).trans ?_
    refine (ygr 7 rfl (zFS.tag hC.1 (j := 0) (by decide) rfl) rfl hC.2.2.1).trans ?_
    refine (ygr 10 rfl hC.2.2.2.2.2.1 rfl hC.2.2.2.2.2.2.1).trans ?_
    refine (yg 13 rfl (zFS.tag hC.2.2.2.1 (j := 0) (by decide) rfl) (zFS.ni hC.2.2.2.1 (j := 0) (by decide) rfl) (by decide) rfl (zst_rd hC (j := 0) (by decide))).trans ?_
    refine ys18_3 16 rfl rfl (fun h13 => absurd h13 (by rw [hN.2.2.2.2.2.2.1]; exact nI_ge (by omega) (by have := hN.2.2.2.2.2.2.2; omega))) (fun h13 => ?_)
    refine (ys1 17 (x := nI 0) rfl rfl rfl).trans ?_
    refine (ys5 18 (L2 := [(2, .int (nI 0)), (1, .int (nI i)), (0, .ref (s + 0))]) rfl rfl rfl rfl).trans ?_
    refine l_so2 hC hk (rcs_le hk hI).2.1 (rN S T i) 0 S hI (rcs_le hk hI).1 (by omega) ?_
    generalize hS1 : rso2 T i (rN S T i) 0 S = S1
    have hIS1 : zIN T S1 := by rw [← hS1]; exact rso2_I hk _ _ _ hI
    refine (ys6 61 (y := nI (i + 1)) (L2 := [(1, .int (nI (i + 1))), (2, .int (nI (rN S T i))), (0, .ref (s + 0))]) rfl rfl (nI_1 _) rfl rfl).trans ?_
    refine (ys19 rfl).trans ?_
    rw [show rso T (m + 1) i S = rso T m (i + 1) S1 from by subst hS1; rw [rso]; (try dsimp only); first | done | rfl]; refine zden1_fg (L := [(1, .int (nI (i + 1))), (0, .ref (s + 0))]) (zfg_cons rfl (zfg_cons rfl zfg_nil)) ?_; exact l_so hC hN m (i + 1)  S1  hIS1 (by omega)

theorem c_so {d : Nat} {x t s : Nat} {S T J : zFn} {μ : zM} (hC : zSC μ x t s J T) {nl np nh nk : Nat} (hN : zTN T nl np nh nk) (hI : zIN T S) : zden zcds (d + 4) 202 [.ref (s + 0)] (zwi μ (zfl J s 22 S)) = some (0, none, 0, 0, zwi μ (zfl J s 22 (rso T nk 0 S))) := by
  refine (zd_in (d := d + 3) (cd := zc202) (nL := 3) (L := [(0, .ref (s + 0))]) rfl (Nat.le_of_ble_eq_true rfl) rfl).trans ?_
  refine (ys1 1 (x := nI 0) rfl rfl rfl).trans ?_
  refine (ys5 2 (L2 := [(1, .int (nI 0)), (0, .ref (s + 0))]) rfl rfl rfl rfl).trans ?_
  exact l_so hC hN nk 0 S hI (by omega)

theorem rso_I {T : zFn} : ∀ (m i : Nat) (S : zFn), i + m ≤ 12 → zIN T S → zIN T (rso T m i S)
  | 0, _, _, _, h => h
  | m + 1, i, S, hi, h => by
    rw [rso]
    exact rso_I m _ _ (by omega) (rso2_I (by omega) _ _ _ h)

def rpl1 (T : zFn) : Nat → Nat → zFn → zFn
  | 0, i, S =>
    S
  | m + 1, i, S =>
    let S1 := rgl S T i
    rpl1 T m (i + 1) S1

theorem l_p1 {d c sl : Nat} {rz : zR} {x t s : Nat} {T J : zFn} {μ : zM} (hC : zSC μ x t s J T) {nl np nh nk : Nat} (hN : zTN T nl np nh nk) : ∀ (m i : Nat) (S : zFn), zIN T S → i + m = nl → zden1 (d + 5) (zden zcds (d + 5)) zc201 (27, [(1, .int (nI nl)), (0, .ref (s + 0))], [], c, sl, zwi μ (zfl J s 22 ((rpl1 T m i S)))) = some rz → zden1 (d + 5) (zden zcds (d + 5)) zc201 (2, [(1, .int (nI i)), (0, .ref (s + 0))], [], c, sl, zwi μ (zfl J s 22 S)) = some rz
  | 0, i, S, hI, e, hkk => by
    have ei : i = nl := by omega
    subst ei
    refine (ys4 3 (v := .int (nI i)) rfl rfl rfl rfl).trans ?_
    refine (ys4 4 (v := .ref (s + 0)) rfl rfl rfl rfl).trans ?_
    refine (ygr 7 rfl (zFS.tag hC.1 (j := 0) (by decide) rfl) rfl hC.2.2.1).trans ?_
    refine (ygr 10 rfl hC.2.2.2.2.2.1 rfl hC.2.2.2.2.2.2.1).trans ?_
    refine (yg 13 rfl (zFS.tag hC.2.2.2.1 (j := 0) (by decide) rfl) (zFS.ni hC.2.2.2.1 (j := 0) (by decide) rfl) (by decide) rfl (zst_rd hC (j := 0) (by decide))).trans ?_
    refine ys18_3 16 rfl rfl (fun h13 => ?_) (fun h13 => absurd (by rw [hN.1]; exact nI_le (by omega) (by have := hN.2.1; omega)) h13)
    rw [show rpl1 T 0 i S = S from by rw [rpl1]; (try dsimp only); first | done | rfl] at hkk; exact hkk
  | m + 1, i, S, hI, e, hkk => by
    have hi : i < 6 := by have := hN.2.1; omega
    refine (ys4 3 (v := .int (nI i)) rfl rfl rfl rfl).trans ?_
    refine (ys4 4 (v := .ref (s + 0)) rfl rfl rfl rfl).trans ?_
    refine (ygr 7 rfl (zFS.tag hC.1 (j := 0) (by decide) rfl) rfl hC.2.2.1).trans ?_
    refine (ygr 10 rfl hC.2.2.2.2.2.1 rfl hC.2.2.2.2.2.2.1).trans ?_
    refine (yg 13 rfl (zFS.tag hC.2.2.2.1 (j := 0) (by decide) rfl) (zFS.ni hC.2.2.2.1 (j := 0) (by decide) rfl) (by decide) rfl (zst_rd hC (j := 0) (by decide))).trans ?_
    refine ys18_3 16 rfl rfl (fun h13 => absurd h13 (by rw [hN.1]; exact nI_ge (by omega) (by have := hN.2.1; omega))) (fun h13 => ?_)
    refine (ys4 17 (v := .ref (s + 0)) rfl rfl rfl rfl).trans ?_
    refine (ys4 18 (v := .int (nI i)) rfl rfl rfl rfl).trans ?_
    refine (yc2 21 rfl rfl (Nat.le_of_ble_eq_true rfl) (Or.inr (by show ztg (zwi _ _) _ = _; rw [ztg_wi]; exact (zFS.tag hC.1 (j := 0) (by decide) rfl))) rfl rfl (c_gl hC hi hI)).trans ?_
    generalize hS1 : rgl S T i = S1
    have hIS1 : zIN T S1 := by rw [← hS1]; exact rgl_I hi hI
    refine (ys6 24 (y := nI (i + 1)) (L2 := [(1, .int (nI (i + 1))), (0, .ref (s + 0))]) rfl rfl (nI_1 _) rfl rfl).trans ?_
    refine (ys19 rfl).trans ?_
    rw [show rpl1 T (m + 1) i S = rpl1 T m (i + 1) S1 from by subst hS1; rw [rpl1]; (try dsimp only); first | done | rfl] at hkk; exact l_p1 hC hN m (i + 1)  S1  hIS1 (by omega) hkk

def rpl2 (T : zFn) : Nat → Nat → zFn → zFn
  | 0, i, S =>
    S
  | m + 1, i, S =>
    if (S 4 i) = 1 then
      let S1 := rfl_ S T i
      rpl2 T m (i + 1) S1
    else
      rpl2 T m (i + 1) S

theorem l_p2 {d c sl : Nat} {rz : zR} {x t s : Nat} {T J : zFn} {μ : zM} (hC : zSC μ x t s J T) {nl np nh nk : Nat} (hN : zTN T nl np nh nk) : ∀ (m i : Nat) (S : zFn), zIN T S → i + m = np → zden1 (d + 5) (zden zcds (d + 5)) zc201 (68, [(1, .int (nI np)), (0, .ref (s + 0))], [], c, sl, zwi μ (zfl J s 22 ((rpl2 T m i S)))) = some rz → zden1 (d + 5) (zden zcds (d + 5)) zc201 (33, [(1, .int (nI i)), (0, .ref (s + 0))], [], c, sl, zwi μ (zfl J s 22 S)) = some rz
  | 0, i, S, hI, e, hkk => by
    have ei : i = np := by omega
    subst ei
    refine (ys4 34 (v := .int (nI i)) rfl rfl rfl rfl).trans ?_
    refine (ys4 35 (v := .ref (s + 0)) rfl rfl rfl rfl).trans ?_
    refine (ygr 38 rfl (zFS.tag hC.1 (j := 0) (by decide) rfl) rfl hC.2.2.1).trans ?_
    refine (ygr 41 rfl hC.2.2.2.2.2.1 rfl hC.2.2.2.2.2.2.1).trans ?_
    refine (yg 44 rfl (zFS.tag hC.2.2.2.1 (j := 0) (by decide) rfl) (zFS.ni hC.2.2.2.1 (j := 0) (by decide) rfl) (by decide) rfl (zst_rd hC (j := 0) (by decide))).trans ?_
    refine ys18_3 47 rfl rfl (fun h44 => ?_) (fun h44 => absurd (by rw [hN.2.2.1]; exact nI_le (by omega) (by have := hN.2.2.2.1; omega)) h44)
    rw [show rpl2 T 0 i S = S from by rw [rpl2]; (try dsimp only); first | done | rfl] at hkk; exact hkk
  | m + 1, i, S, hI, e, hkk => by
    have hi : i < 20 := by have := hN.2.2.2.1; omega
    refine (ys4 34 (v := .int (nI i)) rfl rfl rfl rfl).trans ?_
    refine (ys4 35 (v := .ref (s + 0)) rfl rfl rfl rfl).trans ?_
    refine (ygr 38 rfl (zFS.tag hC.1 (j := 0) (by decide) rfl) rfl hC.2.2.1).trans ?_
    refine (ygr 41 rfl hC.2.2.2.2.2.1 rfl hC.2.2.2.2.2.2.1).trans ?_
    refine (yg 44 rfl (zFS.tag hC.2.2.2.1 (j := 0) (by decide) rfl) (zFS.ni hC.2.2.2.1 (j := 0) (by decide) rfl) (by decide) rfl (zst_rd hC (j := 0) (by decide))).trans ?_
    refine ys18_3 47 rfl rfl (fun h44 => absurd h44 (by rw [hN.2.2.1]; exact nI_ge (by omega) (by have := hN.2.2.2.1; omega))) (fun h44 => ?_)
    refine (ys4 48 (v := .ref (s + 0)) rfl rfl rfl rfl).trans ?_
    refine (ygr 51 rfl (zFS.tag hC.1 (j := 0) (by decide) rfl) rfl (hC.2.1 3 (by decide))).trans ?_
    refine (ys4 52 (v := .int (nI i)) rfl rfl rfl rfl).trans ?_
    refine (ylx 53 (N := 20) rfl (j := i) rfl (Or.inl (zFS.tag hC.1 (j := 4) (by decide) rfl)) (zFS.ni hC.1 (j := 4) (by decide) rfl) (by omega) (by decide) rfl (zfl_at (j := 4) (by decide))).trans ?_
    refine (ys1 54 (x := 1) rfl rfl rfl).trans ?_
    refine ys18_1 57 rfl rfl (fun h54 => ?_) (fun h54 => ?_)
    · refine (ys4 58 (v := .ref (s + 0)) rfl rfl rfl rfl).trans ?_
      refine (ys4 59 (v := .int (nI i)) rfl rfl rfl rfl).trans ?_
      refine (yc2 62 rfl rfl (Nat.le_of_ble_eq_true rfl) (Or.inr (by show ztg (zwi _ _) _ = _; rw [ztg_wi]; exact (zFS.tag hC.1 (j := 0) (by decide) rfl))) rfl rfl (c_rfl hC hi hI)).trans ?_
      generalize hS1 : rfl_ S T i = S1
      have hIS1 : zIN T S1 := by rw [← hS1]; exact rfl_I hi hI
      refine (ys6 65 (y := nI (i + 1)) (L2 := [(1, .int (nI (i + 1))), (0, .ref (s + 0))]) rfl rfl (nI_1 _) rfl rfl).trans ?_
      refine (ys19 rfl).trans ?_
      rw [show rpl2 T (m + 1) i S = rpl2 T m (i + 1) S1 from by subst hS1; rw [rpl2]; (try dsimp only); rw [if_pos h54]] at hkk; exact l_p2 hC hN m (i + 1)  S1  hIS1 (by omega) hkk
    · refine (ys6 65 (y := nI (i + 1)) (L2 := [(1, .int (nI (i + 1))), (0, .ref (s + 0))]) rfl rfl (nI_1 _) rfl rfl).trans ?_
      refine (ys19 rfl).trans ?_
      rw [show rpl2 T (m + 1) i S = rpl2 T m (i + 1) S from by rw [rpl2]; (try dsimp only); rw [if_neg h54]] at hkk; exact l_p2 hC hN m (i + 1)  S  hI (by omega) hkk

def rpl3 (T : zFn) (np : Nat) : Nat → Nat → zFn → zFn
  | 0, i, S =>
    S
  | m + 1, i, S =>
    if (nI i) = (S 0 2) then
      rpl3 T np m (i + 1) S
    else
      let S1 := rhu S T i np
      rpl3 T np m (i + 1) S1

theorem l_p3 {d c sl : Nat} {rz : zR} {x t s : Nat} {T J : zFn} {μ : zM} (hC : zSC μ x t s J T) {nl np nh nk : Nat} (hN : zTN T nl np nh nk) : ∀ (m i : Nat) (S : zFn), zIN T S → i + m = nh → zden1 (d + 5) (zden zcds (d + 5)) zc201 (103, [(1, .int (nI nh)), (0, .ref (s + 0))], [], c, sl, zwi μ (zfl J s 22 ((rpl3 T np m i S)))) = some rz → zden1 (d + 5) (zden zcds (d + 5)) zc201 (70, [(1, .int (nI i)), (0, .ref (s + 0))], [], c, sl, zwi μ (zfl J s 22 S)) = some rz
  | 0, i, S, hI, e, hkk => by
    have ei : i = nh := by omega
    subst ei
    refine (ys4 71 (v := .int (nI i)) rfl rfl rfl rfl).trans ?_
    refine (ys4 72 (v := .ref (s + 0)) rfl rfl rfl rfl).trans ?_
    refine (ygr 75 rfl (zFS.tag hC.1 (j := 0) (by decide) rfl) rfl hC.2.2.1).trans ?_
    refine (ygr 78 rfl hC.2.2.2.2.2.1 rfl hC.2.2.2.2.2.2.1).trans ?_
    refine (yg 81 rfl (zFS.tag hC.2.2.2.1 (j := 0) (by decide) rfl) (zFS.ni hC.2.2.2.1 (j := 0) (by decide) rfl) (by decide) rfl (zst_rd hC (j := 0) (by decide))).trans ?_
    refine ys18_3 84 rfl rfl (fun h81 => ?_) (fun h81 => absurd (by rw [hN.2.2.2.2.1]; exact nI_le (by omega) (by have := hN.2.2.2.2.2.1; omega)) h81)
    rw [show rpl3 T np 0 i S = S from by rw [rpl3]; (try dsimp only); first | done | rfl] at hkk; exact hkk
  | m + 1, i, S, hI, e, hkk => by
    have hi : i < 6 := by have := hN.2.2.2.2.2.1; omega
    refine (ys4 71 (v := .int (nI i)) rfl rfl rfl rfl).trans ?_
    refine (ys4 72 (v := .ref (s + 0)) rfl rfl rfl rfl).trans ?_
    refine (ygr 75 rfl (zFS.tag hC.1 (j := 0) (by decide) rfl) rfl hC.2.2.1).trans ?_
    refine (ygr 78 rfl hC.2.2.2.2.2.1 rfl hC.2.2.2.2.2.2.1).trans ?_
    refine (yg 81 rfl (zFS.tag hC.2.2.2.1 (j := 0) (by decide) rfl) (zFS.ni hC.2.2.2.1 (j := 0) (by decide) rfl) (by decide) rfl (zst_rd hC (j := 0) (by decide))).trans ?_
    refine ys18_3 84 rfl rfl (fun h81 => absurd h81 (by rw [hN.2.2.2.2.1]; exact nI_ge (by omega) (by have := hN.2.2.2.2.2.1; omega))) (fun h81 => ?_)
    refine (ys4 85 (v := .int (nI i)) rfl rfl rfl rfl).trans ?_
    refine (ys4 86 (v := .ref (s + 0)) rfl rfl rfl rfl).trans ?_
    refine (yg 89 rfl (zFS.tag hC.1 (j := 0) (by decide) rfl) (zFS.ni hC.1 (j := 0) (by decide) rfl) (by decide) rfl (zfl_at (j := 0) (by decide))).trans ?_
    refine ys18_0 92 rfl rfl (fun h89 => ?_) (fun h89 => ?_)
    · refine (ys6 100 (y := nI (i + 1)) (L2 := [(1, .int (nI (i + 1))), (0, .ref (s + 0))]) rfl rfl (nI_1 _) rfl rfl).trans ?_
      refine (ys19 rfl).trans ?_
      rw [show rpl3 T np (m + 1) i S = rpl3 T np m (i + 1) S from by rw [rpl3]; (try dsimp only); rw [if_pos h89]] at hkk; exact l_p3 hC hN m (i + 1)  S  hI (by omega) hkk
    · refine (ys4 93 (v := .ref (s + 0)) rfl rfl rfl rfl).trans ?_
      refine (ys4 94 (v := .int (nI i)) rfl rfl rfl rfl).trans ?_
      refine (yc2 97 rfl rfl (Nat.le_of_ble_eq_true rfl) (Or.inr (by show ztg (zwi _ _) _ = _; rw [ztg_wi]; exact (zFS.tag hC.1 (j := 0) (by decide) rfl))) rfl rfl (c_rhu hC hi hN)).trans ?_
      generalize hS1 : rhu S T i np = S1
      have hIS1 : zIN T S1 := by rw [← hS1]; exact rhu_I hI
      refine (ys6 100 (y := nI (i + 1)) (L2 := [(1, .int (nI (i + 1))), (0, .ref (s + 0))]) rfl rfl (nI_1 _) rfl rfl).trans ?_
      refine (ys19 rfl).trans ?_
      rw [show rpl3 T np (m + 1) i S = rpl3 T np m (i + 1) S1 from by subst hS1; rw [rpl3]; (try dsimp only); rw [if_neg h89]] at hkk; exact l_p3 hC hN m (i + 1)  S1  hIS1 (by omega) hkk

theorem rpl1_I {T : zFn} : ∀ (m i : Nat) (S : zFn), i + m ≤ 6 → zIN T S → zIN T (rpl1 T m i S)
  | 0, _, _, _, h => h
  | m + 1, i, S, hi, h => by
    rw [rpl1]
    exact rpl1_I m _ _ (by omega) (rgl_I (by omega) h)

theorem rpl2_I {T : zFn} : ∀ (m i : Nat) (S : zFn), i + m ≤ 20 → zIN T S → zIN T (rpl2 T m i S)
  | 0, _, _, _, h => h
  | m + 1, i, S, hi, h => by
    rw [rpl2]
    dsimp only
    split
    · exact rpl2_I m _ _ (by omega) (rfl_I (by omega) h)
    · exact rpl2_I m _ _ (by omega) h

theorem rpl3_I {T : zFn} {np : Nat} : ∀ (m i : Nat) (S : zFn), i + m ≤ 6 → zIN T S → zIN T (rpl3 T np m i S)
  | 0, _, _, _, h => h
  | m + 1, i, S, hi, h => by
    rw [rpl3]
    dsimp only
    split
    · exact rpl3_I m _ _ (by omega) h
    · exact rpl3_I m _ _ (by omega) (rhu_I h)

def rpa (S : zFn) (T : zFn) (nl : Nat) (np : Nat) (nh : Nat) (nk : Nat) : zFn :=
  let S1 := rpl1 T nl 0 S
  let S2 := rso T nk 0 S1
  let S3 := rpl2 T np 0 S2
  let S4 := rpl3 T np nh 0 S3
  let S5 := zup S4 0 0 (((S4 0 0) + 1))
  S5

theorem c_rpa {d : Nat} {x t s : Nat} {S T J : zFn} {μ : zM} (hC : zSC μ x t s J T) {nl np nh nk : Nat} (hN : zTN T nl np nh nk) (hI : zIN T S) : zden zcds (d + 6) 201 [.ref (s + 0)] (zwi μ (zfl J s 22 S)) = some (0, none, 0, 0, zwi μ (zfl J s 22 ((rpa S T nl np nh nk)))) := by
  refine (zd_in (d := d + 5) (cd := zc201) (nL := 2) (L := [(0, .ref (s + 0))]) rfl (Nat.le_of_ble_eq_true rfl) rfl).trans ?_
  refine (ys1 1 (x := nI 0) rfl rfl rfl).trans ?_
  refine (ys5 2 (L2 := [(1, .int (nI 0)), (0, .ref (s + 0))]) rfl rfl rfl rfl).trans ?_
  refine l_p1 hC hN nl 0 S hI (by omega) ?_
  generalize hS1 : rpl1 T nl 0 S = S1
  have hIS1 : zIN T S1 := by rw [← hS1]; exact rpl1_I _ _ _ (by have := hN.2.1; omega) hI
  refine (ys4 28 (v := .ref (s + 0)) rfl rfl rfl rfl).trans ?_
  refine (yc1 31 rfl rfl (Nat.le_of_ble_eq_true rfl) (Or.inr (by show ztg (zwi _ _) _ = _; rw [ztg_wi]; exact (zFS.tag hC.1 (j := 0) (by decide) rfl))) rfl rfl (c_so hC hN hIS1)).trans ?_
  generalize hS2 : rso T nk 0 S1 = S2
  have hIS2 : zIN T S2 := by rw [← hS2]; exact rso_I _ _ _ (by have := hN.2.2.2.2.2.2.2; omega) hIS1
  refine (ys1 32 (x := nI 0) rfl rfl rfl).trans ?_
  refine (ys5 33 (L2 := [(1, .int (nI 0)), (0, .ref (s + 0))]) rfl rfl rfl rfl).trans ?_
  refine l_p2 hC hN np 0 S2 hIS2 (by omega) ?_
  generalize hS3 : rpl2 T np 0 S2 = S3
  have hIS3 : zIN T S3 := by rw [← hS3]; exact rpl2_I _ _ _ (by have := hN.2.2.2.1; omega) hIS2
  refine (ys1 69 (x := nI 0) rfl rfl rfl).trans ?_
  refine (ys5 70 (L2 := [(1, .int (nI 0)), (0, .ref (s + 0))]) rfl rfl rfl rfl).trans ?_
  refine l_p3 hC hN nh 0 S3 hIS3 (by omega) ?_
  generalize hS4 : rpl3 T np nh 0 S3 = S4
  have hIS4 : zIN T S4 := by rw [← hS4]; exact rpl3_I _ _ _ (by have := hN.2.2.2.2.2.1; omega) hIS3
  refine (ys4 104 (v := .ref (s + 0)) rfl rfl rfl rfl).trans ?_
  refine (ys14 105 rfl (Nat.le_of_ble_eq_true rfl) rfl).trans ?_
  refine (yg 108 rfl (zFS.tag hC.1 (j := 0) (by decide) rfl) (zFS.ni hC.1 (j := 0) (by decide) rfl) (by decide) rfl (zfl_at (j := 0) (by decide))).trans ?_
  refine (ys1 109 (x := 1) rfl rfl rfl).trans ?_
  refine (ys7_0 110 rfl rfl).trans ?_
  refine (yq 113 rfl (zFS.tag hC.1 (j := 0) (by decide) rfl) (zFS.k0 hC.1 (j := 0)) (zFS.ni hC.1 (j := 0) (by decide) rfl) (by decide) rfl (zfl_up (j := 0) (by decide))).trans ?_
  generalize hS5 : zup S4 0 0 (((S4 0 0) + 1)) = S5
  have hIS5 : zIN T S5 := by rw [← hS5]; exact zIN_u hIS4 (by decide)
  refine (ys36v rfl rfl).trans ?_
  rw [show rpa S T nl np nh nk = S5 from by subst hS5 hS4 hS3 hS2 hS1; unfold rpa; (try dsimp only); first | done | rfl]; (first | done | rfl)

theorem rpa_I {T S : zFn} {nl np nh nk : Nat} (hN : zTN T nl np nh nk) (hI : zIN T S) : zIN T (rpa S T nl np nh nk) := by
  obtain ⟨S1, hS1⟩ : ∃ z_, rpl1 T nl 0 S = z_ := ⟨_, rfl⟩
  have hIS1 : zIN T S1 := by rw [← hS1]; exact rpl1_I _ _ _ (by have := hN.2.1; omega) hI
  obtain ⟨S2, hS2⟩ : ∃ z_, rso T nk 0 S1 = z_ := ⟨_, rfl⟩
  have hIS2 : zIN T S2 := by rw [← hS2]; exact rso_I _ _ _ (by have := hN.2.2.2.2.2.2.2; omega) hIS1
  obtain ⟨S3, hS3⟩ : ∃ z_, rpl2 T np 0 S2 = z_ := ⟨_, rfl⟩
  have hIS3 : zIN T S3 := by rw [← hS3]; exact rpl2_I _ _ _ (by have := hN.2.2.2.1; omega) hIS2
  obtain ⟨S4, hS4⟩ : ∃ z_, rpl3 T np nh 0 S3 = z_ := ⟨_, rfl⟩
  have hIS4 : zIN T S4 := by rw [← hS4]; exact rpl3_I _ _ _ (by have := hN.2.2.2.2.2.1; omega) hIS3
  obtain ⟨S5, hS5⟩ : ∃ z_, zup S4 0 0 (((S4 0 0) + 1)) = z_ := ⟨_, rfl⟩
  have hIS5 : zIN T S5 := by rw [← hS5]; exact zIN_u hIS4 (by decide)
  rw [show rpa S T nl np nh nk = S5 from by subst hS5 hS4 hS3 hS2 hS1; unfold rpa; (try dsimp only); first | done | rfl]; exact hIS5

def rfyL (S : zFn) (T : zFn) (k : Nat) (y : Int32) : Nat → Nat → Int32 → Int32
  | 0, i, a =>
    a
  | m + 1, i, a =>
    if (S 4 i) = 1 then
      if (S 11 i) = (nI k) then
        if y = 0 then
          rfyL S T k y m (i + 1) (a + 1)
        else
          if (S 12 i) = (S 18 k) then
            rfyL S T k y m (i + 1) (a + 1)
          else
            rfyL S T k y m (i + 1) (a + 0)
      else
        rfyL S T k y m (i + 1) (a + 0)
    else
      rfyL S T k y m (i + 1) (a + 0)

theorem l_rfy {d c sl : Nat} {x t s : Nat} {S T J : zFn} {μ : zM} (hC : zSC μ x t s J T) {k : Nat} (hk : k < 12) {y : Int32} {nl np nh nk : Nat} (hN : zTN T nl np nh nk) : ∀ (m i : Nat) (a : Int32), i + m = np → zden1 (d + 1) (zden zcds (d + 1)) zc203 (5, [(4, .int (nI i)), (3, .int (a)), (0, .ref (s + 0)), (1, .int (nI k)), (2, .int (y))], [], c, sl, zwi μ (zfl J s 22 S)) = some (0, some (.int ((rfyL S T k y m i a))), c, sl, zwi μ (zfl J s 22 S))
  | 0, i, a, e => by
    refine (ys4 7 (v := .int (nI i)) rfl rfl rfl rfl).trans ?_
    refine (ys4 8 (v := .ref (s + 0)) rfl rfl rfl rfl).trans ?_
    refine (ygr 11 rfl (zFS.tag hC.1 (j := 0) (by decide) rfl) rfl hC.2.2.1).trans ?_
    refine (ygr 14 rfl hC.2.2.2.2.2.1 rfl hC.2.2.2.2.2.2.1).trans ?_
    refine (yg 17 rfl (zFS.tag hC.2.2.2.1 (j := 0) (by decide) rfl) (zFS.ni hC.2.2.2.1 (j := 0) (by decide) rfl) (by decide) rfl (zst_rd hC (j := 0) (by decide))).trans ?_
    refine ys18_3 20 rfl rfl (fun h17 => ?_) (fun h17 => absurd (by rw [hN.2.2.1]; exact nI_le (by omega) (by have := hN.2.2.2.1; omega)) h17)
    refine (ys4 77 (v := .int (a)) rfl rfl rfl rfl).trans ?_
    refine (ys36 rfl rfl).trans ?_
    rw [show rfyL S T k y 0 i a = a from by rw [rfyL]; (try dsimp only); first | done | rfl]; (first | done | rfl)
  | m + 1, i, a, e => by
    have hi : i < 20 := by have := hN.2.2.2.1; omega
    refine (ys4 7 (v := .int (nI i)) rfl rfl rfl rfl).trans ?_
    refine (ys4 8 (v := .ref (s + 0)) rfl rfl rfl rfl).trans ?_
    refine (ygr 11 rfl (zFS.tag hC.1 (j := 0) (by decide) rfl) rfl hC.2.2.1).trans ?_
    refine (ygr 14 rfl hC.2.2.2.2.2.1 rfl hC.2.2.2.2.2.2.1).trans ?_
    refine (yg 17 rfl (zFS.tag hC.2.2.2.1 (j := 0) (by decide) rfl) (zFS.ni hC.2.2.2.1 (j := 0) (by decide) rfl) (by decide) rfl (zst_rd hC (j := 0) (by decide))).trans ?_
    refine ys18_3 20 rfl rfl (fun h17 => absurd h17 (by rw [hN.2.2.1]; exact nI_ge (by omega) (by have := hN.2.2.2.1; omega))) (fun h17 => ?_)
    refine (ys4 21 (v := .int (a)) rfl rfl rfl rfl).trans ?_
    refine (ys4 22 (v := .ref (s + 0)) rfl rfl rfl rfl).trans ?_
    refine (ygr 25 rfl (zFS.tag hC.1 (j := 0) (by decide) rfl) rfl (hC.2.1 3 (by decide))).trans ?_
    refine (ys4 27 (v := .int (nI i)) rfl rfl rfl rfl).trans ?_
    refine (ylx 28 (N := 20) rfl (j := i) rfl (Or.inl (zFS.tag hC.1 (j := 4) (by decide) rfl)) (zFS.ni hC.1 (j := 4) (by decide) rfl) (by omega) (by decide) rfl (zfl_at (j := 4) (by decide))).trans ?_
    refine (ys1 29 (x := 1) rfl rfl rfl).trans ?_
    refine ys18_1 32 rfl rfl (fun h29 => ?_) (fun h29 => ?_)
    · refine (ys4 33 (v := .ref (s + 0)) rfl rfl rfl rfl).trans ?_
      refine (ygr 36 rfl (zFS.tag hC.1 (j := 0) (by decide) rfl) rfl (hC.2.1 10 (by decide))).trans ?_
      refine (ys4 38 (v := .int (nI i)) rfl rfl rfl rfl).trans ?_
      refine (ylx 39 (N := 20) rfl (j := i) rfl (Or.inl (zFS.tag hC.1 (j := 11) (by decide) rfl)) (zFS.ni hC.1 (j := 11) (by decide) rfl) (by omega) (by decide) rfl (zfl_at (j := 11) (by decide))).trans ?_
      refine (ys4 40 (v := .int (nI k)) rfl rfl rfl rfl).trans ?_
      refine ys18_1 43 rfl rfl (fun h40 => ?_) (fun h40 => ?_)
      · refine (ys4 44 (v := .int (y)) rfl rfl rfl rfl).trans ?_
        refine ys17_0 47 rfl rfl (fun h44 => ?_) (fun h44 => ?_)
        · refine (ys1 64 (x := 1) rfl rfl rfl).trans ?_
          refine (ys19 rfl).trans ?_
          refine (ys7_0 69 rfl rfl).trans ?_
          refine (ys5 70 (L2 := [(3, .int ((a + 1))), (4, .int (nI i)), (0, .ref (s + 0)), (1, .int (nI k)), (2, .int (y))]) rfl rfl rfl rfl).trans ?_
          refine (ys6 73 (y := nI (i + 1)) (L2 := [(4, .int (nI (i + 1))), (3, .int ((a + 1))), (0, .ref (s + 0)), (1, .int (nI k)), (2, .int (y))]) rfl rfl (nI_1 _) rfl rfl).trans ?_
          refine (ys19 rfl).trans ?_
          rw [show rfyL S T k y (m + 1) i a = rfyL S T k y m (i + 1) (a + 1) from by rw [rfyL]; (try dsimp only); rw [if_pos h29, if_pos h40, if_pos h44]]; exact l_rfy hC hk hN m (i + 1) (a + 1)   (by omega)
        · refine (ys4 48 (v := .ref (s + 0)) rfl rfl rfl rfl).trans ?_
          refine (ygr 51 rfl (zFS.tag hC.1 (j := 0) (by decide) rfl) rfl (hC.2.1 11 (by decide))).trans ?_
          refine (ys4 53 (v := .int (nI i)) rfl rfl rfl rfl).trans ?_
          refine (ylx 54 (N := 20) rfl (j := i) rfl (Or.inl (zFS.tag hC.1 (j := 12) (by decide) rfl)) (zFS.ni hC.1 (j := 12) (by decide) rfl) (by omega) (by decide) rfl (zfl_at (j := 12) (by decide))).trans ?_
          refine (ys4 55 (v := .ref (s + 0)) rfl rfl rfl rfl).trans ?_
          refine (ygr 58 rfl (zFS.tag hC.1 (j := 0) (by decide) rfl) rfl (hC.2.1 17 (by decide))).trans ?_
          refine (ys4 59 (v := .int (nI k)) rfl rfl rfl rfl).trans ?_
          refine (ylx 60 (N := 12) rfl (j := k) rfl (Or.inl (zFS.tag hC.1 (j := 18) (by decide) rfl)) (zFS.ni hC.1 (j := 18) (by decide) rfl) (by omega) (by decide) rfl (zfl_at (j := 18) (by decide))).trans ?_
          refine ys18_1 63 rfl rfl (fun h60 => ?_) (fun h60 => ?_)
          · refine (ys1 64 (x := 1) rfl rfl rfl).trans ?_
            refine (ys19 rfl).trans ?_
            refine (ys7_0 69 rfl rfl).trans ?_
            refine (ys5 70 (L2 := [(3, .int ((a + 1))), (4, .int (nI i)), (0, .ref (s + 0)), (1, .int (nI k)), (2, .int (y))]) rfl rfl rfl rfl).trans ?_
            refine (ys6 73 (y := nI (i + 1)) (L2 := [(4, .int (nI (i + 1))), (3, .int ((a + 1))), (0, .ref (s + 0)), (1, .int (nI k)), (2, .int (y))]) rfl rfl (nI_1 _) rfl rfl).trans ?_
            refine (ys19 rfl).trans ?_
            rw [show rfyL S T k y (m + 1) i a = rfyL S T k y m (i + 1) (a + 1) from by rw [rfyL]; (try dsimp only); rw [if_pos h29, if_pos h40, if_neg h44, if_pos h60]]; exact l_rfy hC hk hN m (i + 1) (a + 1)   (by omega)
          · refine (ys1 68 (x := 0) rfl rfl rfl).trans ?_
            refine (ys7_0 69 rfl rfl).trans ?_
            refine (ys5 70 (L2 := [(3, .int ((a + 0))), (4, .int (nI i)), (0, .ref (s + 0)), (1, .int (nI k)), (2, .int (y))]) rfl rfl rfl rfl).trans ?_
            refine (ys6 73 (y := nI (i + 1)) (L2 := [(4, .int (nI (i + 1))), (3, .int ((a + 0))), (0, .ref (s + 0)), (1, .int (nI k)), (2, .int (y))]) rfl rfl (nI_1 _) rfl rfl).trans ?_
            refine (ys19 rfl).trans ?_
            rw [show rfyL S T k y (m + 1) i a = rfyL S T k y m (i + 1) (a + 0) from by rw [rfyL]; (try dsimp only); rw [if_pos h29, if_pos h40, if_neg h44, if_neg h60]]; exact l_rfy hC hk hN m (i + 1) (a + 0)   (by omega)
      · refine (ys1 68 (x := 0) rfl rfl rfl).trans ?_
        refine (ys7_0 69 rfl rfl).trans ?_
        refine (ys5 70 (L2 := [(3, .int ((a + 0))), (4, .int (nI i)), (0, .ref (s + 0)), (1, .int (nI k)), (2, .int (y))]) rfl rfl rfl rfl).trans ?_
        refine (ys6 73 (y := nI (i + 1)) (L2 := [(4, .int (nI (i + 1))), (3, .int ((a + 0))), (0, .ref (s + 0)), (1, .int (nI k)), (2, .int (y))]) rfl rfl (nI_1 _) rfl rfl).trans ?_
        refine (ys19 rfl).trans ?_
        rw [show rfyL S T k y (m + 1) i a = rfyL S T k y m (i + 1) (a + 0) from by rw [rfyL]; (try dsimp only); rw [if_pos h29, if_neg h40]]; exact l_rfy hC hk hN m (i + 1) (a + 0)   (by omega)
    · refine (ys1 68 (x := 0) rfl rfl rfl).trans ?_
      refine (ys7_0 69 rfl rfl).trans ?_
      refine (ys5 70 (L2 := [(3, .int ((a + 0))), (4, .int (nI i)), (0, .ref (s + 0)), (1, .int (nI k)), (2, .int (y))]) rfl rfl rfl rfl).trans ?_
      refine (ys6 73 (y := nI (i + 1)) (L2 := [(4, .int (nI (i + 1))), (3, .int ((a + 0))), (0, .ref (s + 0)), (1, .int (nI k)), (2, .int (y))]) rfl rfl (nI_1 _) rfl rfl).trans ?_
      refine (ys19 rfl).trans ?_
      rw [show rfyL S T k y (m + 1) i a = rfyL S T k y m (i + 1) (a + 0) from by rw [rfyL]; (try dsimp only); rw [if_neg h29]]; exact l_rfy hC hk hN m (i + 1) (a + 0)   (by omega)

theorem c_rfy {d : Nat} {x t s : Nat} {S T J : zFn} {μ : zM} (hC : zSC μ x t s J T) {k : Nat} (hk : k < 12) {y : Int32} {nl np nh nk : Nat} (hN : zTN T nl np nh nk) : zden zcds (d + 2) 203 [.ref (s + 0), .int (nI k), .int (y)] (zwi μ (zfl J s 22 S)) = some (0, some (.int (rfyL S T k y np 0 0)), 0, 0, zwi μ (zfl J s 22 S)) := by
  refine (zd_in (d := d + 1) (cd := zc203) (nL := 5) (L := [(0, .ref (s + 0)), (1, .int (nI k)), (2, .int (y))]) rfl (Nat.le_of_ble_eq_true rfl) rfl).trans ?_
  refine (ys1 1 (x := 0) rfl rfl rfl).trans ?_
  refine (ys5 2 (L2 := [(3, .int (0)), (0, .ref (s + 0)), (1, .int (nI k)), (2, .int (y))]) rfl rfl rfl rfl).trans ?_
  refine (ys1 3 (x := nI 0) rfl rfl rfl).trans ?_
  refine (ys5 5 (L2 := [(4, .int (nI 0)), (3, .int (0)), (0, .ref (s + 0)), (1, .int (nI k)), (2, .int (y))]) rfl rfl rfl rfl).trans ?_
  exact l_rfy hC hk hN np 0 0 (by omega)

def rpgL (S : zFn) (T : zFn) (y : Int32) : Nat → Nat → Int32 → Int32
  | 0, i, a =>
    a
  | m + 1, i, a =>
    if (S 4 i) = y then
      rpgL S T y m (i + 1) (a + 1)
    else
      rpgL S T y m (i + 1) (a + 0)

theorem l_rpg {d c sl : Nat} {x t s : Nat} {S T J : zFn} {μ : zM} (hC : zSC μ x t s J T) {y : Int32} {nl np nh nk : Nat} (hN : zTN T nl np nh nk) : ∀ (m i : Nat) (a : Int32), i + m = np → zden1 (d + 1) (zden zcds (d + 1)) zc205 (4, [(3, .int (nI i)), (2, .int (a)), (0, .ref (s + 0)), (1, .int (y))], [], c, sl, zwi μ (zfl J s 22 S)) = some (0, some (.int ((rpgL S T y m i a))), c, sl, zwi μ (zfl J s 22 S))
  | 0, i, a, e => by
    refine (ys4 5 (v := .int (nI i)) rfl rfl rfl rfl).trans ?_
    refine (ys4 6 (v := .ref (s + 0)) rfl rfl rfl rfl).trans ?_
    refine (ygr 9 rfl (zFS.tag hC.1 (j := 0) (by decide) rfl) rfl hC.2.2.1).trans ?_
    refine (ygr 12 rfl hC.2.2.2.2.2.1 rfl hC.2.2.2.2.2.2.1).trans ?_
    refine (yg 15 rfl (zFS.tag hC.2.2.2.1 (j := 0) (by decide) rfl) (zFS.ni hC.2.2.2.1 (j := 0) (by decide) rfl) (by decide) rfl (zst_rd hC (j := 0) (by decide))).trans ?_
    refine ys18_3 18 rfl rfl (fun h15 => ?_) (fun h15 => absurd (by rw [hN.2.2.1]; exact nI_le (by omega) (by have := hN.2.2.2.1; omega)) h15)
    refine (ys4 43 (v := .int (a)) rfl rfl rfl rfl).trans ?_
    refine (ys36 rfl rfl).trans ?_
    rw [show rpgL S T y 0 i a = a from by rw [rpgL]; (try dsimp only); first | done | rfl]; (first | done | rfl)
  | m + 1, i, a, e => by
    have hi : i < 20 := by have := hN.2.2.2.1; omega
    refine (ys4 5 (v := .int (nI i)) rfl rfl rfl rfl).trans ?_
    refine (ys4 6 (v := .ref (s + 0)) rfl rfl rfl rfl).trans ?_
    refine (ygr 9 rfl (zFS.tag hC.1 (j := 0) (by decide) rfl) rfl hC.2.2.1).trans ?_
    refine (ygr 12 rfl hC.2.2.2.2.2.1 rfl hC.2.2.2.2.2.2.1).trans ?_
    refine (yg 15 rfl (zFS.tag hC.2.2.2.1 (j := 0) (by decide) rfl) (zFS.ni hC.2.2.2.1 (j := 0) (by decide) rfl) (by decide) rfl (zst_rd hC (j := 0) (by decide))).trans ?_
    refine ys18_3 18 rfl rfl (fun h15 => absurd h15 (by rw [hN.2.2.1]; exact nI_ge (by omega) (by have := hN.2.2.2.1; omega))) (fun h15 => ?_)
    refine (ys4 19 (v := .int (a)) rfl rfl rfl rfl).trans ?_
    refine (ys4 20 (v := .ref (s + 0)) rfl rfl rfl rfl).trans ?_
    refine (ygr 23 rfl (zFS.tag hC.1 (j := 0) (by decide) rfl) rfl (hC.2.1 3 (by decide))).trans ?_
    refine (ys4 24 (v := .int (nI i)) rfl rfl rfl rfl).trans ?_
    refine (ylx 25 (N := 20) rfl (j := i) rfl (Or.inl (zFS.tag hC.1 (j := 4) (by decide) rfl)) (zFS.ni hC.1 (j := 4) (by decide) rfl) (by omega) (by decide) rfl (zfl_at (j := 4) (by decide))).trans ?_
    refine (ys4 26 (v := .int (y)) rfl rfl rfl rfl).trans ?_
    refine ys18_1 29 rfl rfl (fun h26 => ?_) (fun h26 => ?_)
    · refine (ys1 30 (x := 1) rfl rfl rfl).trans ?_
      refine (ys19 rfl).trans ?_
      refine (ys7_0 35 rfl rfl).trans ?_
      refine (ys5 36 (L2 := [(2, .int ((a + 1))), (3, .int (nI i)), (0, .ref (s + 0)), (1, .int (y))]) rfl rfl rfl rfl).trans ?_
      refine (ys6 39 (y := nI (i + 1)) (L2 := [(3, .int (nI (i + 1))), (2, .int ((a + 1))), (0, .ref (s + 0)), (1, .int (y))]) rfl rfl (nI_1 _) rfl rfl).trans ?_
      refine (ys19 rfl).trans ?_
      rw [show rpgL S T y (m + 1) i a = rpgL S T y m (i + 1) (a + 1) from by rw [rpgL]; (try dsimp only); rw [if_pos h26]]; exact l_rpg hC hN m (i + 1) (a + 1)   (by omega)
    · refine (ys1 34 (x := 0) rfl rfl rfl).trans ?_
      refine (ys7_0 35 rfl rfl).trans ?_
      refine (ys5 36 (L2 := [(2, .int ((a + 0))), (3, .int (nI i)), (0, .ref (s + 0)), (1, .int (y))]) rfl rfl rfl rfl).trans ?_
      refine (ys6 39 (y := nI (i + 1)) (L2 := [(3, .int (nI (i + 1))), (2, .int ((a + 0))), (0, .ref (s + 0)), (1, .int (y))]) rfl rfl (nI_1 _) rfl rfl).trans ?_
      refine (ys19 rfl).trans ?_
      rw [show rpgL S T y (m + 1) i a = rpgL S T y m (i + 1) (a + 0) from by rw [rpgL]; (try dsimp only); rw [if_neg h26]]; exact l_rpg hC hN m (i + 1) (a + 0)   (by omega)

theorem c_rpg {d : Nat} {x t s : Nat} {S T J : zFn} {μ : zM} (hC : zSC μ x t s J T) {y : Int32} {nl np nh nk : Nat} (hN : zTN T nl np nh nk) : zden zcds (d + 2) 205 [.ref (s + 0), .int (y)] (zwi μ (zfl J s 22 S)) = some (0, some (.int (rpgL S T y np 0 0)), 0, 0, zwi μ (zfl J s 22 S)) := by
  refine (zd_in (d := d + 1) (cd := zc205) (nL := 4) (L := [(0, .ref (s + 0)), (1, .int (y))]) rfl (Nat.le_of_ble_eq_true rfl) rfl).trans ?_
  refine (ys1 1 (x := 0) rfl rfl rfl).trans ?_
  refine (ys5 2 (L2 := [(2, .int (0)), (0, .ref (s + 0)), (1, .int (y))]) rfl rfl rfl rfl).trans ?_
  refine (ys1 3 (x := nI 0) rfl rfl rfl).trans ?_
  refine (ys5 4 (L2 := [(3, .int (nI 0)), (2, .int (0)), (0, .ref (s + 0)), (1, .int (y))]) rfl rfl rfl rfl).trans ?_
  exact l_rpg hC hN np 0 0 (by omega)

def rarL (S : zFn) (T : zFn) : Nat → Nat → Int32 → Int32
  | 0, i, a =>
    a
  | m + 1, i, a =>
    if (ria S T i) = 0 then
      rarL S T m (i + 1) (a + 0)
    else
      rarL S T m (i + 1) (a + 1)

theorem l_rar {d c sl : Nat} {x t s : Nat} {S T J : zFn} {μ : zM} (hC : zSC μ x t s J T) {nl np nh nk : Nat} (hN : zTN T nl np nh nk) : ∀ (m i : Nat) (a : Int32), i + m = nk → zden1 (d + 2) (zden zcds (d + 2)) zc206 (4, [(2, .int (nI i)), (1, .int (a)), (0, .ref (s + 0))], [], c, sl, zwi μ (zfl J s 22 S)) = some (0, some (.int ((rarL S T m i a))), c, sl, zwi μ (zfl J s 22 S))
  | 0, i, a, e => by
    refine (ys4 5 (v := .int (nI i)) rfl rfl rfl rfl).trans ?_
    refine (ys4 6 (v := .ref (s + 0)) rfl rfl rfl rfl).trans ?_
    refine (ygr 9 rfl (zFS.tag hC.1 (j := 0) (by decide) rfl) rfl hC.2.2.1).trans ?_
    refine (ygr 12 rfl hC.2.2.2.2.2.1 rfl hC.2.2.2.2.2.2.1).trans ?_
    refine (yg 15 rfl (zFS.tag hC.2.2.2.1 (j := 0) (by decide) rfl) (zFS.ni hC.2.2.2.1 (j := 0) (by decide) rfl) (by decide) rfl (zst_rd hC (j := 0) (by decide))).trans ?_
    refine ys18_3 18 rfl rfl (fun h15 => ?_) (fun h15 => absurd (by rw [hN.2.2.2.2.2.2.1]; exact nI_le (by omega) (by have := hN.2.2.2.2.2.2.2; omega)) h15)
    refine (ys4 41 (v := .int (a)) rfl rfl rfl rfl).trans ?_
    refine (ys36 rfl rfl).trans ?_
    rw [show rarL S T 0 i a = a from by rw [rarL]; (try dsimp only); first | done | rfl]; (first | done | rfl)
  | m + 1, i, a, e => by
    have hi : i < 12 := by have := hN.2.2.2.2.2.2.2; omega
    refine (ys4 5 (v := .int (nI i)) rfl rfl rfl rfl).trans ?_
    refine (ys4 6 (v := .ref (s + 0)) rfl rfl rfl rfl).trans ?_
    refine (ygr 9 rfl (zFS.tag hC.1 (j := 0) (by decide) rfl) rfl hC.2.2.1).trans ?_
    refine (ygr 12 rfl hC.2.2.2.2.2.1 rfl hC.2.2.2.2.2.2.1).trans ?_
    refine (yg 15 rfl (zFS.tag hC.2.2.2.1 (j := 0) (by decide) rfl) (zFS.ni hC.2.2.2.1 (j := 0) (by decide) rfl) (by decide) rfl (zst_rd hC (j := 0) (by decide))).trans ?_
    refine ys18_3 18 rfl rfl (fun h15 => absurd h15 (by rw [hN.2.2.2.2.2.2.1]; exact nI_ge (by omega) (by have := hN.2.2.2.2.2.2.2; omega))) (fun h15 => ?_)
    refine (ys4 19 (v := .int (a)) rfl rfl rfl rfl).trans ?_
    refine (ys4 20 (v := .ref (s + 0)) rfl rfl rfl rfl).trans ?_
    refine (ys4 21 (v := .int (nI i)) rfl rfl rfl rfl).trans ?_
    refine (yc2 24 rfl rfl (Nat.le_of_ble_eq_true rfl) (Or.inr (by show ztg (zwi _ _) _ = _; rw [ztg_wi]; exact (zFS.tag hC.1 (j := 0) (by decide) rfl))) rfl rfl (c_ia hC hi)).trans ?_
    refine ys17_0 27 rfl rfl (fun h24 => ?_) (fun h24 => ?_)
    · refine (ys1 32 (x := 0) rfl rfl rfl).trans ?_
      refine (ys7_0 33 rfl rfl).trans ?_
      refine (ys5 34 (L2 := [(1, .int ((a + 0))), (2, .int (nI i)), (0, .ref (s + 0))]) rfl rfl rfl rfl).trans ?_
      refine (ys6 37 (y := nI (i + 1)) (L2 := [(2, .int (nI (i + 1))), (1, .int ((a + 0))), (0, .ref (s + 0))]) rfl rfl (nI_1 _) rfl rfl).trans ?_
      refine (ys19 rfl).trans ?_
      rw [show rarL S T (m + 1) i a = rarL S T m (i + 1) (a + 0) from by rw [rarL]; (try dsimp only); rw [if_pos h24]]; exact l_rar hC hN m (i + 1) (a + 0)   (by omega)
    · refine (ys1 28 (x := 1) rfl rfl rfl).trans ?_
      refine (ys19 rfl).trans ?_
      refine (ys7_0 33 rfl rfl).trans ?_
      refine (ys5 34 (L2 := [(1, .int ((a + 1))), (2, .int (nI i)), (0, .ref (s + 0))]) rfl rfl rfl rfl).trans ?_
      refine (ys6 37 (y := nI (i + 1)) (L2 := [(2, .int (nI (i + 1))), (1, .int ((a + 1))), (0, .ref (s + 0))]) rfl rfl (nI_1 _) rfl rfl).trans ?_
      refine (ys19 rfl).trans ?_
      rw [show rarL S T (m + 1) i a = rarL S T m (i + 1) (a + 1) from by rw [rarL]; (try dsimp only); rw [if_neg h24]]; exact l_rar hC hN m (i + 1) (a + 1)   (by omega)

theorem c_rar {d : Nat} {x t s : Nat} {S T J : zFn} {μ : zM} (hC : zSC μ x t s J T) {nl np nh nk : Nat} (hN : zTN T nl np nh nk) : zden zcds (d + 3) 206 [.ref (s + 0)] (zwi μ (zfl J s 22 S)) = some (0, some (.int (rarL S T nk 0 0)), 0, 0, zwi μ (zfl J s 22 S)) := by
  refine (zd_in (d := d + 2) (cd := zc206) (nL := 3) (L := [(0, .ref (s + 0))]) rfl (Nat.le_of_ble_eq_true rfl) rfl).trans ?_
  refine (ys1 1 (x := 0) rfl rfl rfl).trans ?_
  refine (ys5 2 (L2 := [(1, .int (0)), (0, .ref (s + 0))]) rfl rfl rfl rfl).trans ?_
  refine (ys1 3 (x := nI 0) rfl rfl rfl).trans ?_
  refine (ys5 4 (L2 := [(2, .int (nI 0)), (1, .int (0)), (0, .ref (s + 0))]) rfl rfl rfl rfl).trans ?_
  exact l_rar hC hN nk 0 0 (by omega)

def rloL (S : zFn) (T : zFn) (k : Nat) : Nat → Nat → Int32
  | 0, i =>
    1
  | m + 1, i =>
    if (rcso S k (zsf (rca S T k i) 20)) = 0 then
      rloL S T k m (i + 1)
    else
      0

theorem l_rlo {d c sl : Nat} {x t s : Nat} {S T J : zFn} {μ : zM} (hC : zSC μ x t s J T) {k : Nat} (hk : k < 12) (hI : zIN T S) : ∀ (m i : Nat), i + m = rN S T k → zden1 (d + 3) (zden zcds (d + 3)) zc204 (21, [(2, .int (nI i)), (0, .ref (s + 0)), (1, .int (nI k))], [], c, sl, zwi μ (zfl J s 22 S)) = some (0, some (.int ((rloL S T k m i))), c, sl, zwi μ (zfl J s 22 S))
  | 0, i, e => by
    refine (ys4 22 (v := .int (nI i)) rfl rfl rfl rfl).trans ?_
    refine (ys4 23 (v := .ref (s + 0)) rfl rfl rfl rfl).trans ?_
    refine (ys4 24 (v := .int (nI k)) rfl rfl rfl rfl).trans ?_
    refine (yc2 27 rfl rfl (Nat.le_of_ble_eq_true rfl) (Or.inr (by show ztg (zwi _ _) _ = _; rw [ztg_wi]; exact (zFS.tag hC.1 (j := 0) (by decide) rfl))) rfl rfl (c_rcs hC hk hI)).trans ?_
    refine ys18_3 30 rfl rfl (fun h27 => ?_) (fun h27 => absurd (by rw [(rcs_le hk hI).1]; exact nI_le (by omega) (by have := (rcs_le hk hI).2.1; omega)) h27)
    refine (ys1 53 (x := 1) rfl rfl rfl).trans ?_
    refine (ys36 rfl (by decide)).trans ?_
    rw [show rloL S T k 0 i = 1 from by rw [rloL]; (try dsimp only); first | done | rfl]; (first | done | rfl)
  | m + 1, i, e => by
    have h6 := (rcs_le hk hI).2.2 (by omega)
    have hi20 : i < 20 := by have := (rcs_le hk hI).2.1; omega
    refine (ys4 22 (v := .int (nI i)) rfl rfl rfl rfl).trans ?_
    refine (ys4 23 (v := .ref (s + 0)) rfl rfl rfl rfl).trans ?_
    refine (ys4 24 (v := .int (nI k)) rfl rfl rfl rfl).trans ?_
    refine (yc2 27 rfl rfl (Nat.le_of_ble_eq_true rfl) (Or.inr (by show ztg (zwi _ _) _ = _; rw [ztg_wi]; exact (zFS.tag hC.1 (j := 0) (by decide) rfl))) rfl rfl (c_rcs hC hk hI)).trans ?_
    refine ys18_3 30 rfl rfl (fun h27 => absurd h27 (by rw [(rcs_le hk hI).1]; exact nI_ge (by omega) (by have := (rcs_le hk hI).2.1; omega))) (fun h27 => ?_)
    refine (ys4 31 (v := .ref (s + 0)) rfl rfl rfl rfl).trans ?_
    refine (ys4 32 (v := .int (nI k)) rfl rfl rfl rfl).trans ?_
    refine (ys4 33 (v := .ref (s + 0)) rfl rfl rfl rfl).trans ?_
    refine (ys4 34 (v := .int (nI k)) rfl rfl rfl rfl).trans ?_
    refine (ys4 35 (v := .int (nI i)) rfl rfl rfl rfl).trans ?_
    refine (yc3 38 rfl rfl (Nat.le_of_ble_eq_true rfl) (Or.inr (by show ztg (zwi _ _) _ = _; rw [ztg_wi]; exact (zFS.tag hC.1 (j := 0) (by decide) rfl))) rfl rfl (c_rca hC hk (by omega) hI h6)).trans ?_
    rw [show (rca S T k i) = (nI (zsf (rca S T k i) 20)) from ((rca_ix hk (by omega) hI h6).eq (by decide))]
    refine (yc3 41 rfl rfl (Nat.le_of_ble_eq_true rfl) (Or.inr (by show ztg (zwi _ _) _ = _; rw [ztg_wi]; exact (zFS.tag hC.1 (j := 0) (by decide) rfl))) rfl rfl (c_rcso hC hk (zsf_lt (by decide) (by decide)))).trans ?_
    refine ys17_0 44 rfl rfl (fun h41 => ?_) (fun h41 => ?_)
    · refine (ys6 49 (y := nI (i + 1)) (L2 := [(2, .int (nI (i + 1))), (0, .ref (s + 0)), (1, .int (nI k))]) rfl rfl (nI_1 _) rfl rfl).trans ?_
      refine (ys19 rfl).trans ?_
      rw [show rloL S T k (m + 1) i = rloL S T k m (i + 1) from by rw [rloL]; (try dsimp only); rw [if_pos h41]]; exact l_rlo hC hk hI m (i + 1)    (by omega)
    · refine (ys1 45 (x := 0) rfl rfl rfl).trans ?_
      refine (ys36 rfl (by decide)).trans ?_
      rw [show rloL S T k (m + 1) i = 0 from by rw [rloL]; (try dsimp only); rw [if_neg h41]]; (first | done | rfl)

def rlo (S : zFn) (T : zFn) (k : Nat) (np : Nat) : Int32 :=
  if (ria S T k) = 0 then
    if (rfyL S T k 1 np 0 0) ≤ 0 then
      rloL S T k (rN S T k) 0
    else
      0
  else
    0

theorem c_rlo {d : Nat} {x t s : Nat} {S T J : zFn} {μ : zM} (hC : zSC μ x t s J T) {k : Nat} (hk : k < 12) {nl np nh nk : Nat} (hN : zTN T nl np nh nk) (hI : zIN T S) : zden zcds (d + 4) 204 [.ref (s + 0), .int (nI k)] (zwi μ (zfl J s 22 S)) = some (0, some (.int ((rlo S T k np))), 0, 0, zwi μ (zfl J s 22 S)) := by
  refine (zd_in (d := d + 3) (cd := zc204) (nL := 3) (L := [(0, .ref (s + 0)), (1, .int (nI k))]) rfl (Nat.le_of_ble_eq_true rfl) rfl).trans ?_
  refine (ys4 1 (v := .ref (s + 0)) rfl rfl rfl rfl).trans ?_
  refine (ys4 2 (v := .int (nI k)) rfl rfl rfl rfl).trans ?_
  refine (yc2 5 rfl rfl (Nat.le_of_ble_eq_true rfl) (Or.inr (by show ztg (zwi _ _) _ = _; rw [ztg_wi]; exact (zFS.tag hC.1 (j := 0) (by decide) rfl))) rfl rfl (c_ia hC hk)).trans ?_
  refine ys17_1 8 rfl rfl (fun h5 => ?_) (fun h5 => ?_)
  · refine (ys4 9 (v := .ref (s + 0)) rfl rfl rfl rfl).trans ?_
    refine (ys4 10 (v := .int (nI k)) rfl rfl rfl rfl).trans ?_
    refine (ys1 11 (x := 1) rfl rfl rfl).trans ?_
    refine (yc3 14 rfl rfl (Nat.le_of_ble_eq_true rfl) (Or.inr (by show ztg (zwi _ _) _ = _; rw [ztg_wi]; exact (zFS.tag hC.1 (j := 0) (by decide) rfl))) rfl rfl (c_rfy hC hk hN)).trans ?_
    refine ys17_5 17 rfl rfl (fun h14 => ?_) (fun h14 => ?_)
    · refine (ys1 20 (x := nI 0) rfl rfl rfl).trans ?_
      refine (ys5 21 (L2 := [(2, .int (nI 0)), (0, .ref (s + 0)), (1, .int (nI k))]) rfl rfl rfl rfl).trans ?_
      rw [show rlo S T k np = rloL S T k (rN S T k) 0 from by unfold rlo; rw [if_pos h5, if_pos h14]]; exact l_rlo hC hk hI (rN S T k) 0 (by omega)
    · refine (ys1 18 (x := 0) rfl rfl rfl).trans ?_
      refine (ys36 rfl (by decide)).trans ?_
      rw [show rlo S T k np = 0 from by unfold rlo; (try dsimp only); rw [if_pos h5, if_neg h14]]; (first | done | rfl)
  · refine (ys1 18 (x := 0) rfl rfl rfl).trans ?_
    refine (ys36 rfl (by decide)).trans ?_
    rw [show rlo S T k np = 0 from by unfold rlo; (try dsimp only); rw [if_neg h5]]; (first | done | rfl)

def rlsL (S : zFn) (T : zFn) (np : Nat) : Nat → Nat → Int32 → Int32
  | 0, i, a =>
    a
  | m + 1, i, a =>
    if (rlo S T i np) = 0 then
      rlsL S T np m (i + 1) (a + 0)
    else
      rlsL S T np m (i + 1) (a + 1)

theorem l_rls {d c sl : Nat} {x t s : Nat} {S T J : zFn} {μ : zM} (hC : zSC μ x t s J T) {nl np nh nk : Nat} (hN : zTN T nl np nh nk) (hI : zIN T S) : ∀ (m i : Nat) (a : Int32), i + m = nk → zden1 (d + 5) (zden zcds (d + 5)) zc207 (4, [(2, .int (nI i)), (1, .int (a)), (0, .ref (s + 0))], [], c, sl, zwi μ (zfl J s 22 S)) = some (0, some (.int ((rlsL S T np m i a))), c, sl, zwi μ (zfl J s 22 S))
  | 0, i, a, e => by
    refine (ys4 5 (v := .int (nI i)) rfl rfl rfl rfl).trans ?_
    refine (ys4 6 (v := .ref (s + 0)) rfl rfl rfl rfl).trans ?_
    refine (ygr 9 rfl (zFS.tag hC.1 (j := 0) (by decide) rfl) rfl hC.2.2.1).trans ?_
    refine (ygr 12 rfl hC.2.2.2.2.2.1 rfl hC.2.2.2.2.2.2.1).trans ?_
    refine (yg 15 rfl (zFS.tag hC.2.2.2.1 (j := 0) (by decide) rfl) (zFS.ni hC.2.2.2.1 (j := 0) (by decide) rfl) (by decide) rfl (zst_rd hC (j := 0) (by decide))).trans ?_
    refine ys18_3 18 rfl rfl (fun h15 => ?_) (fun h15 => absurd (by rw [hN.2.2.2.2.2.2.1]; exact nI_le (by omega) (by have := hN.2.2.2.2.2.2.2; omega)) h15)
    refine (ys4 41 (v := .int (a)) rfl rfl rfl rfl).trans ?_
    refine (ys36 rfl rfl).trans ?_
    rw [show rlsL S T np 0 i a = a from by rw [rlsL]; (try dsimp only); first | done | rfl]; (first | done | rfl)
  | m + 1, i, a, e => by
    have hi : i < 12 := by have := hN.2.2.2.2.2.2.2; omega
    refine (ys4 5 (v := .int (nI i)) rfl rfl rfl rfl).trans ?_
    refine (ys4 6 (v := .ref (s + 0)) rfl rfl rfl rfl).trans ?_
    refine (ygr 9 rfl (zFS.tag hC.1 (j := 0) (by decide) rfl) rfl hC.2.2.1).trans ?_
    refine (ygr 12 rfl hC.2.2.2.2.2.1 rfl hC.2.2.2.2.2.2.1).trans ?_
    refine (yg 15 rfl (zFS.tag hC.2.2.2.1 (j := 0) (by decide) rfl) (zFS.ni hC.2.2.2.1 (j := 0) (by decide) rfl) (by decide) rfl (zst_rd hC (j := 0) (by decide))).trans ?_
    refine ys18_3 18 rfl rfl (fun h15 => absurd h15 (by rw [hN.2.2.2.2.2.2.1]; exact nI_ge (by omega) (by have := hN.2.2.2.2.2.2.2; omega))) (fun h15 => ?_)
    refine (ys4 19 (v := .int (a)) rfl rfl rfl rfl).trans ?_
    refine (ys4 20 (v := .ref (s + 0)) rfl rfl rfl rfl).trans ?_
    refine (ys4 21 (v := .int (nI i)) rfl rfl rfl rfl).trans ?_
    refine (yc2 24 rfl rfl (Nat.le_of_ble_eq_true rfl) (Or.inr (by show ztg (zwi _ _) _ = _; rw [ztg_wi]; exact (zFS.tag hC.1 (j := 0) (by decide) rfl))) rfl rfl (c_rlo hC hi hN hI)).trans ?_
    refine ys17_0 27 rfl rfl (fun h24 => ?_) (fun h24 => ?_)
    · refine (ys1 32 (x := 0) rfl rfl rfl).trans ?_
      refine (ys7_0 33 rfl rfl).trans ?_
      refine (ys5 34 (L2 := [(1, .int ((a + 0))), (2, .int (nI i)), (0, .ref (s + 0))]) rfl rfl rfl rfl).trans ?_
      refine (ys6 37 (y := nI (i + 1)) (L2 := [(2, .int (nI (i + 1))), (1, .int ((a + 0))), (0, .ref (s + 0))]) rfl rfl (nI_1 _) rfl rfl).trans ?_
      refine (ys19 rfl).trans ?_
      rw [show rlsL S T np (m + 1) i a = rlsL S T np m (i + 1) (a + 0) from by rw [rlsL]; (try dsimp only); rw [if_pos h24]]; exact l_rls hC hN hI m (i + 1) (a + 0)   (by omega)
    · refine (ys1 28 (x := 1) rfl rfl rfl).trans ?_
      refine (ys19 rfl).trans ?_
      refine (ys7_0 33 rfl rfl).trans ?_
      refine (ys5 34 (L2 := [(1, .int ((a + 1))), (2, .int (nI i)), (0, .ref (s + 0))]) rfl rfl rfl rfl).trans ?_
      refine (ys6 37 (y := nI (i + 1)) (L2 := [(2, .int (nI (i + 1))), (1, .int ((a + 1))), (0, .ref (s + 0))]) rfl rfl (nI_1 _) rfl rfl).trans ?_
      refine (ys19 rfl).trans ?_
      rw [show rlsL S T np (m + 1) i a = rlsL S T np m (i + 1) (a + 1) from by rw [rlsL]; (try dsimp only); rw [if_neg h24]]; exact l_rls hC hN hI m (i + 1) (a + 1)   (by omega)

theorem c_rls {d : Nat} {x t s : Nat} {S T J : zFn} {μ : zM} (hC : zSC μ x t s J T) {nl np nh nk : Nat} (hN : zTN T nl np nh nk) (hI : zIN T S) : zden zcds (d + 6) 207 [.ref (s + 0)] (zwi μ (zfl J s 22 S)) = some (0, some (.int (rlsL S T np nk 0 0)), 0, 0, zwi μ (zfl J s 22 S)) := by
  refine (zd_in (d := d + 5) (cd := zc207) (nL := 3) (L := [(0, .ref (s + 0))]) rfl (Nat.le_of_ble_eq_true rfl) rfl).trans ?_
  refine (ys1 1 (x := 0) rfl rfl rfl).trans ?_
  refine (ys5 2 (L2 := [(1, .int (0)), (0, .ref (s + 0))]) rfl rfl rfl rfl).trans ?_
  refine (ys1 3 (x := nI 0) rfl rfl rfl).trans ?_
  refine (ys5 4 (L2 := [(2, .int (nI 0)), (1, .int (0)), (0, .ref (s + 0))]) rfl rfl rfl rfl).trans ?_
  exact l_rls hC hN hI nk 0 0 (by omega)

def ravL (T : zFn) (k : Nat) (nl : Nat) (np : Nat) (nh : Nat) (nk : Nat) : Nat → Nat → zFn → Int32 × zFn
  | 0, i, S =>
    ((-1), S)
  | m + 1, i, S =>
    if (ria S T k) = 0 then
      let S1 := rpa S T nl np nh nk
      ravL T k nl np nh nk m (i + 1) S1
    else
      (nI i, S)

theorem l_rav {d c sl : Nat} {x t s : Nat} {T J : zFn} {μ : zM} (hC : zSC μ x t s J T) {k : Nat} (hk : k < 12) {nl np nh nk : Nat} (hN : zTN T nl np nh nk) : ∀ (m i : Nat) (S : zFn), zIN T S → i + m = 301 → zden1 (d + 7) (zden zcds (d + 7)) zc208 (2, [(2, .int (nI i)), (0, .ref (s + 0)), (1, .int (nI k))], [], c, sl, zwi μ (zfl J s 22 S)) = some (0, some (.int ((ravL T k nl np nh nk m i S).1)), c, sl, zwi μ (zfl J s 22 ((ravL T k nl np nh nk m i S).2)))
  | 0, i, S, hI, e => by
    refine (ys4 3 (v := .int (nI i)) rfl rfl rfl rfl).trans ?_
    refine (ys1 6 (x := nI 300) rfl rfl rfl).trans ?_
    refine ys18_4 9 rfl rfl (fun h6 => ?_) (fun h6 => absurd (nI_lt (by omega) (by omega)) h6)
    refine (ys1 30 (x := (-1)) rfl rfl rfl).trans ?_
    refine (ys36 rfl rfl).trans ?_
    rw [show ravL T k nl np nh nk 0 i S = ((-1), S) from by rw [ravL]; (try dsimp only); first | done | rfl]; (first | done | rfl)
  | m + 1, i, S, hI, e => by
    refine (ys4 3 (v := .int (nI i)) rfl rfl rfl rfl).trans ?_
    refine (ys1 6 (x := nI 300) rfl rfl rfl).trans ?_
    refine ys18_4 9 rfl rfl (fun h6 => absurd h6 (nI_nlt (by omega) (by omega))) (fun h6 => ?_)
    refine (ys4 10 (v := .ref (s + 0)) rfl rfl rfl rfl).trans ?_
    refine (ys4 11 (v := .int (nI k)) rfl rfl rfl rfl).trans ?_
    refine (yc2 14 rfl rfl (Nat.le_of_ble_eq_true rfl) (Or.inr (by show ztg (zwi _ _) _ = _; rw [ztg_wi]; exact (zFS.tag hC.1 (j := 0) (by decide) rfl))) rfl rfl (c_ia hC hk)).trans ?_
    refine ys17_0 17 rfl rfl (fun h14 => ?_) (fun h14 => ?_)
    · refine (ys4 20 (v := .ref (s + 0)) rfl rfl rfl rfl).trans ?_
      refine (yc1 23 rfl rfl (Nat.le_of_ble_eq_true rfl) (Or.inr (by show ztg (zwi _ _) _ = _; rw [ztg_wi]; exact (zFS.tag hC.1 (j := 0) (by decide) rfl))) rfl rfl (c_rpa hC hN hI)).trans ?_
      generalize hS1 : rpa S T nl np nh nk = S1
      have hIS1 : zIN T S1 := by rw [← hS1]; exact rpa_I hN hI
      refine (ys6 26 (y := nI (i + 1)) (L2 := [(2, .int (nI (i + 1))), (0, .ref (s + 0)), (1, .int (nI k))]) rfl rfl (nI_1 _) rfl rfl).trans ?_
      refine (ys19 rfl).trans ?_
      rw [show ravL T k nl np nh nk (m + 1) i S = ravL T k nl np nh nk m (i + 1) S1 from by subst hS1; rw [ravL]; (try dsimp only); rw [if_pos h14]]; exact l_rav hC hk hN m (i + 1)  S1  hIS1 (by omega)
    · refine (ys4 18 (v := .int (nI i)) rfl rfl rfl rfl).trans ?_
      refine (ys36 rfl rfl).trans ?_
      rw [show ravL T k nl np nh nk (m + 1) i S = (nI i, S) from by rw [ravL]; (try dsimp only); rw [if_neg h14]]; (first | done | rfl)

theorem c_rav {d : Nat} {x t s : Nat} {S T J : zFn} {μ : zM} (hC : zSC μ x t s J T) {k : Nat} (hk : k < 12) {nl np nh nk : Nat} (hN : zTN T nl np nh nk) (hI : zIN T S) : zden zcds (d + 8) 208 [.ref (s + 0), .int (nI k)] (zwi μ (zfl J s 22 S)) = some (0, some (.int ((ravL T k nl np nh nk 301 0 S).1)), 0, 0, zwi μ (zfl J s 22 ((ravL T k nl np nh nk 301 0 S).2))) := by
  refine (zd_in (d := d + 7) (cd := zc208) (nL := 3) (L := [(0, .ref (s + 0)), (1, .int (nI k))]) rfl (Nat.le_of_ble_eq_true rfl) rfl).trans ?_
  refine (ys1 1 (x := nI 0) rfl rfl rfl).trans ?_
  refine (ys5 2 (L2 := [(2, .int (nI 0)), (0, .ref (s + 0)), (1, .int (nI k))]) rfl rfl rfl rfl).trans ?_
  exact l_rav hC hk hN 301 0 S hI (by omega)

