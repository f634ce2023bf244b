/-! THE TAPE FED AND CUT INTO TOKENS -/
abbrev zKn : Type := Nat → Nat
theorem zKS_cg {μ ν : zM} {I J : zFn} (h : zKS μ I) (hm : ∀ a, a < 82 → zen ν a = zen μ a) (hI : ∀ a k, a < 82 → J a k = I a k) : zKS ν J := by
  have hz : ∀ i, i < 20 → zkz i < 53 ∧ zkz i + 15 < 82 := by decide
  obtain ⟨h1, h2, h3, h4, h5, h6⟩ := h
  refine ⟨?_, ?_, fun i hi => ?_, fun i hi => ?_, fun i hi => ?_, fun i hi => ?_⟩
  · unfold ztg at *; rw [hm _ (by decide)]; exact h1
  · unfold znr at *; rw [hm _ (by decide)]; exact h2
  · unfold ztg at *; rw [hm _ (by omega)]; exact h3 i hi
  · unfold zgr at *; rw [hm _ (by decide)]; exact h4 i hi
  · unfold zgr at *; rw [hm _ (by omega)]; exact h5 i hi
  · obtain ⟨k1, k2, k3, k4, k5, k6, k7, k8⟩ := h6 i hi
    have hz1 := hz i hi
    unfold ztg zgr zni at *
    refine ⟨?_, ?_, ?_, ?_, ?_, ?_, k7, fun j hj => ?_⟩
    · unfold ztg; rw [hm _ (by omega)]; exact k1
    · unfold zgr; rw [hm _ (by omega)]; exact k2
    · unfold zni; rw [hm _ (by omega)]; exact k3
    · rw [hI _ _ (by omega)]; exact k4
    · unfold ztg; rw [hm _ (by omega)]; exact k5
    · unfold zni; rw [hm _ (by omega)]; exact k6
    · rw [hI _ _ (by omega)]; exact k8 j hj
theorem zKS_kw {μ : zM} {b : Nat} {J Q : zFn} {K : Nat → Nat} (hb : zTP μ b) (h : zKS μ J) : zKS (zkm μ b K) (zfl J b 5 Q) := by
  have hk : zK0 ≤ b := hb.1.1
  have hz : zK0 = 82 := rfl
  exact zKS_cg h (fun a ha => zen_kw (by omega)) (fun a k ha => zfl_out (by omega))
theorem vkwL_lt (Q : zFn) (x u : Int32) : ∀ (m i : Nat), i + m = 20 → vkwL Q x u m i < 20
  | 0, _, _ => by rw [vkwL]; decide
  | m + 1, i, h => by
    rw [vkwL]
    split
    · exact vkwL_lt Q x u m (i + 1) (by omega)
    · omega
theorem vka_lt (Q : zFn) (n a : Nat) : vka Q n a < 20 := by
  have h := vkwL_lt Q (nI a) (nI (vea Q n a - a)) 20 0 (by omega)
  unfold vka
  repeat' split
  all_goals first | exact h | decide
theorem vka_in {Q : zFn} {n a : Nat} (hl : Q 0 0 = nI n) (hn : n ≤ 2000) (ha : a ≤ n) (h : vka Q n a ≠ 0) : a < n := by
  unfold vka at h
  split at h
  · rename_i h5
    rw [hl] at h5
    exact (nI_ltI (by omega) (by omega)).mp h5
  · exact absurd rfl h

def vapp (Q : zFn) (n : Nat) (x : Int32) : zFn :=
  let Q1 := zup Q 1 (n) ((((zbin 7 (x) (24))).toInt8.toInt32).toInt8.toInt32)
  let Q2 := zup Q1 0 0 ((nI (n + 1)))
  let Q3 := zup Q2 1 (n + 1) ((((zbin 7 (x) (16))).toInt8.toInt32).toInt8.toInt32)
  let Q4 := zup Q3 0 0 ((nI (n + 1 + 1)))
  let Q5 := zup Q4 1 (n + 1 + 1) ((((zbin 7 (x) (8))).toInt8.toInt32).toInt8.toInt32)
  let Q6 := zup Q5 0 0 ((nI (n + 1 + 1 + 1)))
  let Q7 := zup Q6 1 (n + 1 + 1 + 1) ((((zbin 7 (x) (0))).toInt8.toInt32).toInt8.toInt32)
  let Q8 := zup Q7 0 0 ((nI (n + 1 + 1 + 1 + 1)))
  Q8

theorem c_app {d : Nat} {b : Nat} {Q : zFn} {J : zFn} {μ : zM} (hb : zTP μ b) {x : Int32} {n : Nat} (hl : Q 0 0 = nI n) (hn : n + 4 ≤ 2000) : zden zcds (d + 1) 46 [.ref (b + 0), .int (x)] (zwi μ (zfl J b 5 Q)) = some (0, none, 0, 0, zwi μ (zfl J b 5 ((vapp Q n x)))) := by
  refine (zd_in (d := d + 0) (cd := zc46) (nL := 3) (L := [(0, .ref (b + 0)), (1, .int (x))]) rfl (Nat.le_of_ble_eq_true rfl) rfl).trans ?_
  refine (ys1 2 (x := 24) rfl rfl rfl).trans ?_
  refine (ys5 3 (L2 := [(2, .int (24)), (0, .ref (b + 0)), (1, .int (x))]) rfl rfl rfl rfl).trans ?_
  refine (ys4 4 (v := .int (24)) rfl rfl rfl rfl).trans ?_
  refine ys17_2 7 rfl rfl (fun h4 => absurd h4 (by decide)) (fun h4 => ?_)
  refine (ys4 8 (v := .ref (b + 0)) rfl rfl rfl rfl).trans ?_
  refine (yg 11 rfl (zFS.tag hb.1 (j := 0) (by decide) rfl) (zFS.ni hb.1 (j := 0) (by decide) rfl) (by decide) rfl (Eq.trans (zfl_at (j := 0) (by decide)) (show (Q 0 0) = nI (n) from hl))).trans ?_
  refine ys17_2 14 rfl rfl (fun h11 => absurd h11 (nI_pos (by omega))) (fun h11 => ?_)
  refine (ys4 15 (v := .ref (b + 0)) rfl rfl rfl rfl).trans ?_
  refine (yg 18 rfl (zFS.tag hb.1 (j := 0) (by decide) rfl) (zFS.ni hb.1 (j := 0) (by decide) rfl) (by decide) rfl (Eq.trans (zfl_at (j := 0) (by decide)) (show (Q 0 0) = nI (n) from hl))).trans ?_
  refine (ys4 19 (v := .ref (b + 0)) rfl rfl rfl rfl).trans ?_
  refine (ygr 22 rfl (zFS.tag hb.1 (j := 0) (by decide) rfl) rfl hb.2.1).trans ?_
  refine (yalb 23 (N := 2000) rfl (zFS.tag hb.1 (j := 1) (by decide) rfl) (zFS.ni hb.1 (j := 1) (by decide) rfl) rfl).trans ?_
  refine ys18_3 26 rfl rfl (fun h23 => absurd h23 (nI_ge (by omega) (by decide))) (fun h23 => ?_)
  refine (ys4 27 (v := .ref (b + 0)) rfl rfl rfl rfl).trans ?_
  refine (ygr 30 rfl (zFS.tag hb.1 (j := 0) (by decide) rfl) rfl hb.2.1).trans ?_
  refine (ys4 31 (v := .ref (b + 0)) rfl rfl rfl rfl).trans ?_
  refine (yg 34 rfl (zFS.tag hb.1 (j := 0) (by decide) rfl) (zFS.ni hb.1 (j := 0) (by decide) rfl) (by decide) rfl (Eq.trans (zfl_at (j := 0) (by decide)) (show (Q 0 0) = nI (n) from hl))).trans ?_
  refine (ys4 35 (v := .int (x)) rfl rfl rfl rfl).trans ?_
  refine (ys4 36 (v := .int (24)) rfl rfl rfl rfl).trans ?_
  refine (ys7 37 (b := 7) rfl rfl).trans ?_
  refine (ys10 38 rfl rfl).trans ?_
  refine (ywb 39 (N := 2000) rfl (j := (n)) rfl (zFS.tag hb.1 (j := 1) (by decide) rfl) (zFS.k0 hb.1 (j := 1)) (zFS.ni hb.1 (j := 1) (by decide) rfl) (by omega) (by decide) rfl (zfl_up (j := 1) (by decide))).trans ?_
  generalize hQ1 : zup Q 1 (n) ((((zbin 7 (x) (24))).toInt8.toInt32).toInt8.toInt32) = Q1
  refine (ys4 40 (v := .ref (b + 0)) rfl rfl rfl rfl).trans ?_
  refine (ys14 41 rfl (Nat.le_of_ble_eq_true rfl) rfl).trans ?_
  refine (yg 44 rfl (zFS.tag hb.1 (j := 0) (by decide) rfl) (zFS.ni hb.1 (j := 0) (by decide) rfl) (by decide) rfl (Eq.trans (zfl_at (j := 0) (by decide)) (show (Q1 0 0) = nI (n) from (by subst hQ1; simp [zup]; exact hl)))).trans ?_
  refine (ys1 45 (x := 1) rfl rfl rfl).trans ?_
  refine (ys7_0 46 rfl rfl).trans ?_
  rw [show ((nI (n)) + 1) = (nI (n + 1)) from nI_1 _]
  refine (yq 49 rfl (zFS.tag hb.1 (j := 0) (by decide) rfl) (zFS.k0 hb.1 (j := 0)) (zFS.ni hb.1 (j := 0) (by decide) rfl) (by decide) rfl (zfl_up (j := 0) (by decide))).trans ?_
  generalize hQ2 : zup Q1 0 0 ((nI (n + 1))) = Q2
  refine (ys6 52 (y := 16) (L2 := [(2, .int (16)), (0, .ref (b + 0)), (1, .int (x))]) rfl rfl (by decide) rfl rfl).trans ?_
  refine (ys19 rfl).trans ?_
  refine (ys4 4 (v := .int (16)) rfl rfl rfl rfl).trans ?_
  refine ys17_2 7 rfl rfl (fun h4 => absurd h4 (by decide)) (fun h4 => ?_)
  refine (ys4 8 (v := .ref (b + 0)) rfl rfl rfl rfl).trans ?_
  refine (yg 11 rfl (zFS.tag hb.1 (j := 0) (by decide) rfl) (zFS.ni hb.1 (j := 0) (by decide) rfl) (by decide) rfl (Eq.trans (zfl_at (j := 0) (by decide)) (show (Q2 0 0) = nI (n + 1) from (by subst hQ2 hQ1; simp [zup])))).trans ?_
  refine ys17_2 14 rfl rfl (fun h11 => absurd h11 (nI_pos (by omega))) (fun h11 => ?_)
  refine (ys4 15 (v := .ref (b + 0)) rfl rfl rfl rfl).trans ?_
  refine (yg 18 rfl (zFS.tag hb.1 (j := 0) (by decide) rfl) (zFS.ni hb.1 (j := 0) (by decide) rfl) (by decide) rfl (Eq.trans (zfl_at (j := 0) (by decide)) (show (Q2 0 0) = nI (n + 1) from (by subst hQ2 hQ1; simp [zup])))).trans ?_
  refine (ys4 19 (v := .ref (b + 0)) rfl rfl rfl rfl).trans ?_
  refine (ygr 22 rfl (zFS.tag hb.1 (j := 0) (by decide) rfl) rfl hb.2.1).trans ?_
  refine (yalb 23 (N := 2000) rfl (zFS.tag hb.1 (j := 1) (by decide) rfl) (zFS.ni hb.1 (j := 1) (by decide) rfl) rfl).trans ?_
  refine ys18_3 26 rfl rfl (fun h23 => absurd h23 (nI_ge (by omega) (by decide))) (fun h23 => ?_)
  refine (ys4 27 (v := .ref (b + 0)) rfl rfl rfl rfl).trans ?_
  refine (ygr 30 rfl (zFS.tag hb.1 (j := 0) (by decide) rfl) rfl hb.2.1).trans ?_
  refine (ys4 31 (v := .ref (b + 0)) rfl rfl rfl rfl).trans ?_
  refine (yg 34 rfl (zFS.tag hb.1 (j := 0) (by decide) rfl) (zFS.ni hb.1 (j := 0) (by decide) rfl) (by decide) rfl (Eq.trans (zfl_at (j := 0) (by decide)) (show (Q2 0 0) = nI (n + 1) from (by subst hQ2 hQ1; simp [zup])))).trans ?_
  refine (ys4 35 (v := .int (x)) rfl rfl rfl rfl).trans ?_
  refine (ys4 36 (v := .int (16)) rfl rfl rfl rfl).trans ?_
  refine (ys7 37 (b := 7) rfl rfl).trans ?_
  refine (ys10 38 rfl rfl).trans ?_
  refine (ywb 39 (N := 2000) rfl (j := (n + 1)) rfl (zFS.tag hb.1 (j := 1) (by decide) rfl) (zFS.k0 hb.1 (j := 1)) (zFS.ni hb.1 (j := 1) (by decide) rfl) (by omega) (by decide) rfl (zfl_up (j := 1) (by decide))).trans ?_
  generalize hQ3 : zup Q2 1 (n + 1) ((((zbin 7 (x) (16))).toInt8.toInt32).toInt8.toInt32) = Q3
  refine (ys4 40 (v := .ref (b + 0)) rfl rfl rfl rfl).trans ?_
  refine (ys14 41 rfl (Nat.le_of_ble_eq_true rfl) rfl).trans ?_
  refine (yg 44 rfl (zFS.tag hb.1 (j := 0) (by decide) rfl) (zFS.ni hb.1 (j := 0) (by decide) rfl) (by decide) rfl (Eq.trans (zfl_at (j := 0) (by decide)) (show (Q3 0 0) = nI (n + 1) from (by subst hQ3 hQ2 hQ1; simp [zup])))).trans ?_
  refine (ys1 45 (x := 1) rfl rfl rfl).trans ?_
  refine (ys7_0 46 rfl rfl).trans ?_
  rw [show ((nI (n + 1)) + 1) = (nI (n + 1 + 1)) from nI_1 _]
  refine (yq 49 rfl (zFS.tag hb.1 (j := 0) (by decide) rfl) (zFS.k0 hb.1 (j := 0)) (zFS.ni hb.1 (j := 0) (by decide) rfl) (by decide) rfl (zfl_up (j := 0) (by decide))).trans ?_
  generalize hQ4 : zup Q3 0 0 ((nI (n + 1 + 1))) = Q4
  refine (ys6 52 (y := 8) (L2 := [(2, .int (8)), (0, .ref (b + 0)), (1, .int (x))]) rfl rfl (by decide) rfl rfl).trans ?_
  refine (ys19 rfl).trans ?_
  refine (ys4 4 (v := .int (8)) rfl rfl rfl rfl).trans ?_
  refine ys17_2 7 rfl rfl (fun h4 => absurd h4 (by decide)) (fun h4 => ?_)
  refine (ys4 8 (v := .ref (b + 0)) rfl rfl rfl rfl).trans ?_
  refine (yg 11 rfl (zFS.tag hb.1 (j := 0) (by decide) rfl) (zFS.ni hb.1 (j := 0) (by decide) rfl) (by decide) rfl (Eq.trans (zfl_at (j := 0) (by decide)) (show (Q4 0 0) = nI (n + 1 + 1) from (by subst hQ4 hQ3 hQ2 hQ1; simp [zup])))).trans ?_
  refine ys17_2 14 rfl rfl (fun h11 => absurd h11 (nI_pos (by omega))) (fun h11 => ?_)
  refine (ys4 15 (v := .ref (b + 0)) rfl rfl rfl rfl).trans ?_
  refine (yg 18 rfl (zFS.tag hb.1 (j := 0) (by decide) rfl) (zFS.ni hb.1 (j := 0) (by decide) rfl) (by decide) rfl (Eq.trans (zfl_at (j := 0) (by decide)) (show (Q4 0 0) = nI (n + 1 + 1) from (by subst hQ4 hQ3 hQ2 hQ1; simp [zup])))).trans ?_
  refine (ys4 19 (v := .ref (b + 0)) rfl rfl rfl rfl).trans ?_
  refine (ygr 22 rfl (zFS.tag hb.1 (j := 0) (by decide) rfl) rfl hb.2.1).trans ?_
  refine (yalb 23 (N := 2000) rfl (zFS.tag hb.1 (j := 1) (by decide) rfl) (zFS.ni hb.1 (j := 1) (by decide) rfl) rfl).trans ?_
  refine ys18_3 26 rfl rfl (fun h23 => absurd h23 (nI_ge (by omega) (by decide))) (fun h23 => ?_)
  refine (ys4 27 (v := .ref (b + 0)) rfl rfl rfl rfl).trans ?_
  refine (ygr 30 rfl (zFS.tag hb.1 (j := 0) (by decide) rfl) rfl hb.2.1).trans ?_
  refine (ys4 31 (v := .ref (b + 0)) rfl rfl rfl rfl).trans ?_
  refine (yg 34 rfl (zFS.tag hb.1 (j := 0) (by decide) rfl) (zFS.ni hb.1 (j := 0) (by decide) rfl) (by decide) rfl (Eq.trans (zfl_at (j := 0) (by decide)) (show (Q4 0 0) = nI (n + 1 + 1) from (by subst hQ4 hQ3 hQ2 hQ1; simp [zup])))).trans ?_
  refine (ys4 35 (v := .int (x)) rfl rfl rfl rfl).trans ?_
  refine (ys4 36 (v := .int (8)) rfl rfl rfl rfl).trans ?_
  refine (ys7 37 (b := 7) rfl rfl).trans ?_
  refine (ys10 38 rfl rfl).trans ?_
  refine (ywb 39 (N := 2000) rfl (j := (n + 1 + 1)) rfl (zFS.tag hb.1 (j := 1) (by decide) rfl) (zFS.k0 hb.1 (j := 1)) (zFS.ni hb.1 (j := 1) (by decide) rfl) (by omega) (by decide) rfl (zfl_up (j := 1) (by decide))).trans ?_
  generalize hQ5 : zup Q4 1 (n + 1 + 1) ((((zbin 7 (x) (8))).toInt8.toInt32).toInt8.toInt32) = Q5
  refine (ys4 40 (v := .ref (b + 0)) rfl rfl rfl rfl).trans ?_
  refine (ys14 41 rfl (Nat.le_of_ble_eq_true rfl) rfl).trans ?_
  refine (yg 44 rfl (zFS.tag hb.1 (j := 0) (by decide) rfl) (zFS.ni hb.1 (j := 0) (by decide) rfl) (by decide) rfl (Eq.trans (zfl_at (j := 0) (by decide)) (show (Q5 0 0) = nI (n + 1 + 1) from (by subst hQ5 hQ4 hQ3 hQ2 hQ1; simp [zup])))).trans ?_
  refine (ys1 45 (x := 1) rfl rfl rfl).trans ?_
  refine (ys7_0 46 rfl rfl).trans ?_
  rw [show ((nI (n + 1 + 1)) + 1) = (nI (n + 1 + 1 + 1)) from nI_1 _]
  refine (yq 49 rfl (zFS.tag hb.1 (j := 0) (by decide) rfl) (zFS.k0 hb.1 (j := 0)) (zFS.ni hb.1 (j := 0) (by decide) rfl) (by decide) rfl (zfl_up (j := 0) (by decide))).trans ?_
  generalize hQ6 : zup Q5 0 0 ((nI (n + 1 + 1 + 1))) = Q6
  refine (ys6 52 (y := 0) (L2 := [(2, .int (0)), (0, .ref (b + 0)), (1, .int (x))]) rfl rfl (by decide) rfl rfl).trans ?_
  refine (ys19 rfl).trans ?_
  refine (ys4 4 (v := .int (0)) rfl rfl rfl rfl).trans ?_
  refine ys17_2 7 rfl rfl (fun h4 => absurd h4 (by decide)) (fun h4 => ?_)
  refine (ys4 8 (v := .ref (b + 0)) rfl rfl rfl rfl).trans ?_
  refine (yg 11 rfl (zFS.tag hb.1 (j := 0) (by decide) rfl) (zFS.ni hb.1 (j := 0) (by decide) rfl) (by decide) rfl (Eq.trans (zfl_at (j := 0) (by decide)) (show (Q6 0 0) = nI (n + 1 + 1 + 1) from (by subst hQ6 hQ5 hQ4 hQ3 hQ2 hQ1; simp [zup])))).trans ?_
  refine ys17_2 14 rfl rfl (fun h11 => absurd h11 (nI_pos (by omega))) (fun h11 => ?_)
  refine (ys4 15 (v := .ref (b + 0)) rfl rfl rfl rfl).trans ?_
  refine (yg 18 rfl (zFS.tag hb.1 (j := 0) (by decide) rfl) (zFS.ni hb.1 (j := 0) (by decide) rfl) (by decide) rfl (Eq.trans (zfl_at (j := 0) (by decide)) (show (Q6 0 0) = nI (n + 1 + 1 + 1) from (by subst hQ6 hQ5 hQ4 hQ3 hQ2 hQ1; simp [zup])))).trans ?_
  refine (ys4 19 (v := .ref (b + 0)) rfl rfl rfl rfl).trans ?_
  refine (ygr 22 rfl (zFS.tag hb.1 (j := 0) (by decide) rfl) rfl hb.2.1).trans ?_
  refine (yalb 23 (N := 2000) rfl (zFS.tag hb.1 (j := 1) (by decide) rfl) (zFS.ni hb.1 (j := 1) (by decide) rfl) rfl).trans ?_
  refine ys18_3 26 rfl rfl (fun h23 => absurd h23 (nI_ge (by omega) (by decide))) (fun h23 => ?_)
  refine (ys4 27 (v := .ref (b + 0)) rfl rfl rfl rfl).trans ?_
  refine (ygr 30 rfl (zFS.tag hb.1 (j := 0) (by decide) rfl) rfl hb.2.1).trans ?_
  refine (ys4 31 (v := .ref (b + 0)) rfl rfl rfl rfl).trans ?_
  refine (yg 34 rfl (zFS.tag hb.1 (j := 0) (by decide) rfl) (zFS.ni hb.1 (j := 0) (by decide) rfl) (by decide) rfl (Eq.trans (zfl_at (j := 0) (by decide)) (show (Q6 0 0) = nI (n + 1 + 1 + 1) from (by subst hQ6 hQ5 hQ4 hQ3 hQ2 hQ1; simp [zup])))).trans ?_
  refine (ys4 35 (v := .int (x)) rfl rfl rfl rfl).trans ?_
  refine (ys4 36 (v := .int (0)) rfl rfl rfl rfl).trans ?_
  refine (ys7 37 (b := 7) rfl rfl).trans ?_
  refine (ys10 38 rfl rfl).trans ?_
  refine (ywb 39 (N := 2000) rfl (j := (n + 1 + 1 + 1)) rfl (zFS.tag hb.1 (j := 1) (by decide) rfl) (zFS.k0 hb.1 (j := 1)) (zFS.ni hb.1 (j := 1) (by decide) rfl) (by omega) (by decide) rfl (zfl_up (j := 1) (by decide))).trans ?_
  generalize hQ7 : zup Q6 1 (n + 1 + 1 + 1) ((((zbin 7 (x) (0))).toInt8.toInt32).toInt8.toInt32) = Q7
  refine (ys4 40 (v := .ref (b + 0)) rfl rfl rfl rfl).trans ?_
  refine (ys14 41 rfl (Nat.le_of_ble_eq_true rfl) rfl).trans ?_
  refine (yg 44 rfl (zFS.tag hb.1 (j := 0) (by decide) rfl) (zFS.ni hb.1 (j := 0) (by decide) rfl) (by decide) rfl (Eq.trans (zfl_at (j := 0) (by decide)) (show (Q7 0 0) = nI (n + 1 + 1 + 1) from (by subst hQ7 hQ6 hQ5 hQ4 hQ3 hQ2 hQ1; simp [zup])))).trans ?_
  refine (ys1 45 (x := 1) rfl rfl rfl).trans ?_
  refine (ys7_0 46 rfl rfl).trans ?_
  rw [show ((nI (n + 1 + 1 + 1)) + 1) = (nI (n + 1 + 1 + 1 + 1)) from nI_1 _]
  refine (yq 49 rfl (zFS.tag hb.1 (j := 0) (by decide) rfl) (zFS.k0 hb.1 (j := 0)) (zFS.ni hb.1 (j := 0) (by decide) rfl) (by decide) rfl (zfl_up (j := 0) (by decide))).trans ?_
  generalize hQ8 : zup Q7 0 0 ((nI (n + 1 + 1 + 1 + 1))) = Q8
  refine (ys6 52 (y := (-8)) (L2 := [(2, .int ((-8))), (0, .ref (b + 0)), (1, .int (x))]) rfl rfl (by decide) rfl rfl).trans ?_
  refine (ys19 rfl).trans ?_
  refine (ys4 4 (v := .int ((-8))) rfl rfl rfl rfl).trans ?_
  refine ys17_2 7 rfl rfl (fun h4 => ?_) (fun h4 => absurd (by decide) h4)
  refine (ys36v rfl rfl).trans ?_
  rw [show vapp Q n x = Q8 from by subst hQ8 hQ7 hQ6 hQ5 hQ4 hQ3 hQ2 hQ1; unfold vapp; (try dsimp only); first | done | rfl]; (first | done | rfl)

def vkp (Q : zFn) (K : zKn) (n : Nat) (q : Nat) (x : Int32) (y : Int32) : zFn × zKn :=
  let K1 := zku K n q
  let Q2 := zup Q 3 n (x)
  let Q3 := zup Q2 4 n (y)
  let Q4 := zup Q3 0 1 (((nI n) + 1))
  (Q4, K1)

theorem c_kp {d : Nat} {b : Nat} {Q : zFn} {K : Nat → Nat} {J : zFn} {μ : zM} (hb : zTP μ b) {q : Nat} {x y : Int32} {n : Nat} (ht : Q 0 1 = nI n) (hn : n < 401) (hq : q < 20 ∧ ztg μ q = 33) : zden zcds (d + 1) 48 [.ref (b + 0), .ref (q), .int (x), .int (y)] (zwi (zkm μ b K) (zfl J b 5 Q)) = some (0, none, 0, 0, zwi (zkm μ b ((vkp Q K n q x y).2)) (zfl J b 5 ((vkp Q K n q x y).1))) := by
  refine (zd_in (d := d + 0) (cd := zc48) (nL := 4) (L := [(0, .ref (b + 0)), (1, .ref (q)), (2, .int (x)), (3, .int (y))]) rfl (Nat.le_of_ble_eq_true rfl) rfl).trans ?_
  refine (ys4 1 (v := .ref (b + 0)) rfl rfl rfl rfl).trans ?_
  refine (yg 4 rfl (zFS.tag (zTP_kw hb).1 (j := 0) (by decide) rfl) (zFS.ni (zTP_kw hb).1 (j := 0) (by decide) rfl) (by decide) rfl (Eq.trans (zfl_at (j := 0) (by decide)) (show (Q 0 1) = nI n from ht))).trans ?_
  refine ys17_2 7 rfl rfl (fun h4 => absurd h4 (nI_pos (by omega))) (fun h4 => ?_)
  refine (ys4 8 (v := .ref (b + 0)) rfl rfl rfl rfl).trans ?_
  refine (yg 11 rfl (zFS.tag (zTP_kw hb).1 (j := 0) (by decide) rfl) (zFS.ni (zTP_kw hb).1 (j := 0) (by decide) rfl) (by decide) rfl (Eq.trans (zfl_at (j := 0) (by decide)) (show (Q 0 1) = nI n from ht))).trans ?_
  refine (ys4 12 (v := .ref (b + 0)) rfl rfl rfl rfl).trans ?_
  refine (ygr 15 rfl (zFS.tag (zTP_kw hb).1 (j := 0) (by decide) rfl) rfl (zTP_kw hb).2.2.1).trans ?_
  refine (yar 16 (N := 401) rfl (zFS.tag (zTP_kw hb).1 (j := 2) (by decide) rfl) (by decide) (zTP_kw hb).2.2.2.2.2 rfl).trans ?_
  refine ys18_3 19 rfl rfl (fun h16 => absurd h16 (nI_ge (by omega) (by decide))) (fun h16 => ?_)
  refine (ys4 20 (v := .ref (b + 0)) rfl rfl rfl rfl).trans ?_
  refine (yg 23 rfl (zFS.tag (zTP_kw hb).1 (j := 0) (by decide) rfl) (zFS.ni (zTP_kw hb).1 (j := 0) (by decide) rfl) (by decide) rfl (Eq.trans (zfl_at (j := 0) (by decide)) (show (Q 0 1) = nI n from ht))).trans ?_
  refine (ys4 24 (v := .ref (b + 0)) rfl rfl rfl rfl).trans ?_
  refine (ygr 27 rfl (zFS.tag (zTP_kw hb).1 (j := 0) (by decide) rfl) rfl (zTP_kw hb).2.2.2.1).trans ?_
  refine (yal 28 (N := 401) rfl (zFS.tag (zTP_kw hb).1 (j := 3) (by decide) rfl) (zFS.ni (zTP_kw hb).1 (j := 3) (by decide) rfl) rfl).trans ?_
  refine ys18_3 31 rfl rfl (fun h28 => absurd h28 (nI_ge (by omega) (by decide))) (fun h28 => ?_)
  refine (ys4 32 (v := .ref (b + 0)) rfl rfl rfl rfl).trans ?_
  refine (yg 35 rfl (zFS.tag (zTP_kw hb).1 (j := 0) (by decide) rfl) (zFS.ni (zTP_kw hb).1 (j := 0) (by decide) rfl) (by decide) rfl (Eq.trans (zfl_at (j := 0) (by decide)) (show (Q 0 1) = nI n from ht))).trans ?_
  refine (ys4 36 (v := .ref (b + 0)) rfl rfl rfl rfl).trans ?_
  refine (ygr 39 rfl (zFS.tag (zTP_kw hb).1 (j := 0) (by decide) rfl) rfl (zTP_kw hb).2.2.2.2.1).trans ?_
  refine (yal 40 (N := 401) rfl (zFS.tag (zTP_kw hb).1 (j := 4) (by decide) rfl) (zFS.ni (zTP_kw hb).1 (j := 4) (by decide) rfl) rfl).trans ?_
  refine ys18_3 43 rfl rfl (fun h40 => absurd h40 (nI_ge (by omega) (by decide))) (fun h40 => ?_)
  refine (ys4 44 (v := .ref (b + 0)) rfl rfl rfl rfl).trans ?_
  refine (ygr 47 rfl (zFS.tag (zTP_kw hb).1 (j := 0) (by decide) rfl) rfl (zTP_kw hb).2.2.1).trans ?_
  refine (ys4 48 (v := .ref (b + 0)) rfl rfl rfl rfl).trans ?_
  refine (yg 51 rfl (zFS.tag (zTP_kw hb).1 (j := 0) (by decide) rfl) (zFS.ni (zTP_kw hb).1 (j := 0) (by decide) rfl) (by decide) rfl (Eq.trans (zfl_at (j := 0) (by decide)) (show (Q 0 1) = nI n from ht))).trans ?_
  refine (ys4 52 (v := .ref (q)) rfl rfl rfl rfl).trans ?_
  refine (ywk 53 rfl rfl hb (by decide) hq (by omega) (j := n) rfl).trans ?_
  generalize hK1 : zku K n q = K1
  refine (ys4 54 (v := .ref (b + 0)) rfl rfl rfl rfl).trans ?_
  refine (ygr 57 rfl (zFS.tag (zTP_kw hb).1 (j := 0) (by decide) rfl) rfl (zTP_kw hb).2.2.2.1).trans ?_
  refine (ys4 58 (v := .ref (b + 0)) rfl rfl rfl rfl).trans ?_
  refine (yg 61 rfl (zFS.tag (zTP_kw hb).1 (j := 0) (by decide) rfl) (zFS.ni (zTP_kw hb).1 (j := 0) (by decide) rfl) (by decide) rfl (Eq.trans (zfl_at (j := 0) (by decide)) (show (Q 0 1) = nI n from ht))).trans ?_
  refine (ys4 62 (v := .int (x)) rfl rfl rfl rfl).trans ?_
  refine (ywx 63 (N := 401) rfl (j := n) rfl (zFS.tag (zTP_kw hb).1 (j := 3) (by decide) rfl) (zFS.k0 hb.1 (j := 3)) (zFS.ni (zTP_kw hb).1 (j := 3) (by decide) rfl) (by omega) (by decide) rfl (zfl_up (j := 3) (by decide))).trans ?_
  generalize hQ2 : zup Q 3 n (x) = Q2
  refine (ys4 64 (v := .ref (b + 0)) rfl rfl rfl rfl).trans ?_
  refine (ygr 67 rfl (zFS.tag (zTP_kw hb).1 (j := 0) (by decide) rfl) rfl (zTP_kw hb).2.2.2.2.1).trans ?_
  refine (ys4 68 (v := .ref (b + 0)) rfl rfl rfl rfl).trans ?_
  refine (yg 71 rfl (zFS.tag (zTP_kw hb).1 (j := 0) (by decide) rfl) (zFS.ni (zTP_kw hb).1 (j := 0) (by decide) rfl) (by decide) rfl (Eq.trans (zfl_at (j := 0) (by decide)) (show (Q2 0 1) = nI n from (by subst hQ2 hK1; simp [zup]; exact ht)))).trans ?_
  refine (ys4 72 (v := .int (y)) rfl rfl rfl rfl).trans ?_
  refine (ywx 73 (N := 401) rfl (j := n) rfl (zFS.tag (zTP_kw hb).1 (j := 4) (by decide) rfl) (zFS.k0 hb.1 (j := 4)) (zFS.ni (zTP_kw hb).1 (j := 4) (by decide) rfl) (by omega) (by decide) rfl (zfl_up (j := 4) (by decide))).trans ?_
  generalize hQ3 : zup Q2 4 n (y) = Q3
  refine (ys4 74 (v := .ref (b + 0)) rfl rfl rfl rfl).trans ?_
  refine (ys14 75 rfl (Nat.le_of_ble_eq_true rfl) rfl).trans ?_
  refine (yg 78 rfl (zFS.tag (zTP_kw hb).1 (j := 0) (by decide) rfl) (zFS.ni (zTP_kw hb).1 (j := 0) (by decide) rfl) (by decide) rfl (Eq.trans (zfl_at (j := 0) (by decide)) (show (Q3 0 1) = nI n from (by subst hQ3 hQ2 hK1; simp [zup]; exact ht)))).trans ?_
  refine (ys1 79 (x := 1) rfl rfl rfl).trans ?_
  refine (ys7_0 80 rfl rfl).trans ?_
  refine (yq 83 rfl (zFS.tag (zTP_kw hb).1 (j := 0) (by decide) rfl) (zFS.k0 hb.1 (j := 0)) (zFS.ni (zTP_kw hb).1 (j := 0) (by decide) rfl) (by decide) rfl (zfl_up (j := 0) (by decide))).trans ?_
  generalize hQ4 : zup Q3 0 1 (((nI n) + 1)) = Q4
  refine (ys36v rfl rfl).trans ?_
  rw [show vkp Q K n q x y = (Q4, K1) from by subst hQ4 hQ3 hQ2 hK1; unfold vkp; (try dsimp only); first | done | rfl]; (first | done | rfl)

theorem vkp_len {Q : zFn} {K : Nat → Nat} {i q n : Nat} {x y : Int32} (hl : Q 0 0 = nI n) : (vkp Q K i q x y).1 0 0 = nI n := by
  unfold vkp
  simp [zup]
  exact hl
theorem vkp_tok {Q : zFn} {K : Nat → Nat} {i q : Nat} {x y : Int32} : (vkp Q K i q x y).1 0 1 = nI (i + 1) := by
  unfold vkp
  simp [zup]
  exact nI_1 _

def vscn (n : Nat) : Nat → Nat → Nat → Nat → zFn → zKn → zFn × zKn
  | 0, i, a, q, Q, K =>
    if q = 0 then
      let r1 := vkp Q K i 0 (nI a) 0
      (r1.1, r1.2)
    else
      let r2 := vkp Q K i 1 (nI a) 0
      (r2.1, r2.2)
  | m + 1, i, a, q, Q, K =>
    if q = 0 then
      if q = 0 then
        let r1 := vkp Q K i 0 (nI a) 0
        (r1.1, r1.2)
      else
        let r2 := vkp Q K i 1 (nI a) 0
        (r2.1, r2.2)
    else
      if q = 1 then
        if q = 0 then
          let r3 := vkp Q K i 0 (nI a) 0
          (r3.1, r3.2)
        else
          let r4 := vkp Q K i 1 (nI a) 0
          (r4.1, r4.2)
      else
        let r5 := vkp Q K i q (nI a) ((nI (vea Q n a)) - (nI a))
        vscn n m (i + 1) (vbb r5.1 (n - vea Q n a) (vea Q n a)) (vka r5.1 n (vbb r5.1 (n - vea Q n a) (vea Q n a))) r5.1 r5.2

theorem l_scn {d c sl : Nat} {b : Nat} {J : zFn} {μ : zM} (hb : zTP μ b) {n : Nat} (hn : n ≤ 2000) (hS : zKS μ J) : ∀ (m i : Nat) (a : Nat) (q : Nat) (Q : zFn) (K : zKn), Q 0 0 = nI n → Q 0 1 = nI i → a ≤ n → q < 20 → (q ≠ 0 → a < n) → i + m = 400 → zden1 (d + 8) (zden zcds (d + 8)) zc47 (19, [(3, .int (nI i)), (2, .ref (q)), (1, .int (nI a)), (0, .ref (b + 0))], [], c, sl, zwi (zkm μ b K) (zfl J b 5 Q)) = some (0, none, c, sl, zwi (zkm μ b ((vscn n m i a q Q K).2)) (zfl J b 5 ((vscn n m i a q Q K).1)))
  | 0, i, a, q, Q, K, hl, ht, ha, hq, ha5, e => by
    refine (ys4 20 (v := .int (nI i)) rfl rfl rfl rfl).trans ?_
    refine (ys1 23 (x := nI 400) rfl rfl rfl).trans ?_
    refine ys18_3 26 rfl rfl (fun h23 => ?_) (fun h23 => absurd (nI_le (by omega) (by omega)) h23)
    refine (ys4 77 (v := .ref (b + 0)) rfl rfl rfl rfl).trans ?_
    refine (ys4 78 (v := .ref (q)) rfl rfl rfl rfl).trans ?_
    refine (ys25 81 rfl (v := .ref (0)) rfl rfl).trans ?_
    refine ys20_1 84 rfl hq (by decide) rfl (fun h81 => ?_) (fun h81 => ?_)
    · refine (ys25 87 rfl (v := .ref (0)) rfl rfl).trans ?_
      refine (ys19 rfl).trans ?_
      refine (ys4 94 (v := .int (nI a)) rfl rfl rfl rfl).trans ?_
      refine (ys1 95 (x := 0) rfl rfl rfl).trans ?_
      refine (yc4 98 rfl rfl (Nat.le_of_ble_eq_true rfl) (Or.inr (by show ztg (zwi _ _) _ = _; rw [ztg_wi]; exact (zFS.tag (zTP_kw hb).1 (j := 0) (by decide) rfl))) rfl rfl (c_kp hb ht (by omega) ⟨by decide, hS.2.2.1 _ (by decide)⟩)).trans ?_
      generalize hr1 : vkp Q K i 0 (nI a) 0 = r1
      refine (ys36v rfl rfl).trans ?_
      rw [show vscn n 0 i a q Q K = (r1.1, r1.2) from by subst hr1; rw [vscn]; (try dsimp only); rw [if_pos h81]]; (first | done | rfl)
    · refine (ys25 93 rfl (v := .ref (1)) rfl rfl).trans ?_
      refine (ys4 94 (v := .int (nI a)) rfl rfl rfl rfl).trans ?_
      refine (ys1 95 (x := 0) rfl rfl rfl).trans ?_
      refine (yc4 98 rfl rfl (Nat.le_of_ble_eq_true rfl) (Or.inr (by show ztg (zwi _ _) _ = _; rw [ztg_wi]; exact (zFS.tag (zTP_kw hb).1 (j := 0) (by decide) rfl))) rfl rfl (c_kp hb ht (by omega) ⟨by decide, hS.2.2.1 _ (by decide)⟩)).trans ?_
      generalize hr2 : vkp Q K i 1 (nI a) 0 = r2
      refine (ys36v rfl rfl).trans ?_
      rw [show vscn n 0 i a q Q K = (r2.1, r2.2) from by subst hr2; rw [vscn]; (try dsimp only); rw [if_neg h81]]; (first | done | rfl)
  | m + 1, i, a, q, Q, K, hl, ht, ha, hq, ha5, e => by
    refine (ys4 20 (v := .int (nI i)) rfl rfl rfl rfl).trans ?_
    refine (ys1 23 (x := nI 400) rfl rfl rfl).trans ?_
    refine ys18_3 26 rfl rfl (fun h23 => absurd h23 (nI_ge (by omega) (by omega))) (fun h23 => ?_)
    refine (ys4 27 (v := .ref (q)) rfl rfl rfl rfl).trans ?_
    refine (ys25 30 rfl (v := .ref (0)) rfl rfl).trans ?_
    refine ys20_0 33 rfl hq (by decide) rfl (fun h30 => ?_) (fun h30 => ?_)
    · refine (ys4 77 (v := .ref (b + 0)) rfl rfl rfl rfl).trans ?_
      refine (ys4 78 (v := .ref (q)) rfl rfl rfl rfl).trans ?_
      refine (ys25 81 rfl (v := .ref (0)) rfl rfl).trans ?_
      refine ys20_1 84 rfl hq (by decide) rfl (fun h81 => ?_) (fun h81 => ?_)
      · refine (ys25 87 rfl (v := .ref (0)) rfl rfl).trans ?_
        refine (ys19 rfl).trans ?_
        refine (ys4 94 (v := .int (nI a)) rfl rfl rfl rfl).trans ?_
        refine (ys1 95 (x := 0) rfl rfl rfl).trans ?_
        refine (yc4 98 rfl rfl (Nat.le_of_ble_eq_true rfl) (Or.inr (by show ztg (zwi _ _) _ = _; rw [ztg_wi]; exact (zFS.tag (zTP_kw hb).1 (j := 0) (by decide) rfl))) rfl rfl (c_kp hb ht (by omega) ⟨by decide, hS.2.2.1 _ (by decide)⟩)).trans ?_
        generalize hr1 : vkp Q K i 0 (nI a) 0 = r1
        refine (ys36v rfl rfl).trans ?_
        rw [show vscn n (m + 1) i a q Q K = (r1.1, r1.2) from by subst hr1; rw [vscn]; (try dsimp only); rw [if_pos h30, if_pos h81]]; (first | done | rfl)
      · refine (ys25 93 rfl (v := .ref (1)) rfl rfl).trans ?_
        refine (ys4 94 (v := .int (nI a)) rfl rfl rfl rfl).trans ?_
        refine (ys1 95 (x := 0) rfl rfl rfl).trans ?_
        refine (yc4 98 rfl rfl (Nat.le_of_ble_eq_true rfl) (Or.inr (by show ztg (zwi _ _) _ = _; rw [ztg_wi]; exact (zFS.tag (zTP_kw hb).1 (j := 0) (by decide) rfl))) rfl rfl (c_kp hb ht (by omega) ⟨by decide, hS.2.2.1 _ (by decide)⟩)).trans ?_
        generalize hr2 : vkp Q K i 1 (nI a) 0 = r2
        refine (ys36v rfl rfl).trans ?_
        rw [show vscn n (m + 1) i a q Q K = (r2.1, r2.2) from by subst hr2; rw [vscn]; (try dsimp only); rw [if_pos h30, if_neg h81]]; (first | done | rfl)
    · refine (ys4 34 (v := .ref (q)) rfl rfl rfl rfl).trans ?_
      refine (ys25 37 rfl (v := .ref (1)) rfl rfl).trans ?_
      refine ys20_0 40 rfl hq (by decide) rfl (fun h37 => ?_) (fun h37 => ?_)
      · refine (ys4 77 (v := .ref (b + 0)) rfl rfl rfl rfl).trans ?_
        refine (ys4 78 (v := .ref (q)) rfl rfl rfl rfl).trans ?_
        refine (ys25 81 rfl (v := .ref (0)) rfl rfl).trans ?_
        refine ys20_1 84 rfl hq (by decide) rfl (fun h81 => ?_) (fun h81 => ?_)
        · refine (ys25 87 rfl (v := .ref (0)) rfl rfl).trans ?_
          refine (ys19 rfl).trans ?_
          refine (ys4 94 (v := .int (nI a)) rfl rfl rfl rfl).trans ?_
          refine (ys1 95 (x := 0) rfl rfl rfl).trans ?_
          refine (yc4 98 rfl rfl (Nat.le_of_ble_eq_true rfl) (Or.inr (by show ztg (zwi _ _) _ = _; rw [ztg_wi]; exact (zFS.tag (zTP_kw hb).1 (j := 0) (by decide) rfl))) rfl rfl (c_kp hb ht (by omega) ⟨by decide, hS.2.2.1 _ (by decide)⟩)).trans ?_
          generalize hr3 : vkp Q K i 0 (nI a) 0 = r3
          refine (ys36v rfl rfl).trans ?_
          rw [show vscn n (m + 1) i a q Q K = (r3.1, r3.2) from by subst hr3; rw [vscn]; (try dsimp only); rw [if_neg h30, if_pos h37, if_pos h81]]; (first | done | rfl)
        · refine (ys25 93 rfl (v := .ref (1)) rfl rfl).trans ?_
          refine (ys4 94 (v := .int (nI a)) rfl rfl rfl rfl).trans ?_
          refine (ys1 95 (x := 0) rfl rfl rfl).trans ?_
          refine (yc4 98 rfl rfl (Nat.le_of_ble_eq_true rfl) (Or.inr (by show ztg (zwi _ _) _ = _; rw [ztg_wi]; exact (zFS.tag (zTP_kw hb).1 (j := 0) (by decide) rfl))) rfl rfl (c_kp hb ht (by omega) ⟨by decide, hS.2.2.1 _ (by decide)⟩)).trans ?_
          generalize hr4 : vkp Q K i 1 (nI a) 0 = r4
          refine (ys36v rfl rfl).trans ?_
          rw [show vscn n (m + 1) i a q Q K = (r4.1, r4.2) from by subst hr4; rw [vscn]; (try dsimp only); rw [if_neg h30, if_pos h37, if_neg h81]]; (first | done | rfl)
      · refine (ys4 41 (v := .ref (b + 0)) rfl rfl rfl rfl).trans ?_
        refine (ys4 42 (v := .int (nI a)) rfl rfl rfl rfl).trans ?_
        refine (yc2 45 rfl rfl (Nat.le_of_ble_eq_true rfl) (Or.inr (by show ztg (zwi _ _) _ = _; rw [ztg_wi]; exact (zFS.tag (zTP_kw hb).1 (j := 0) (by decide) rfl))) rfl rfl (c_ea (zTP_kw hb) hl hn (ha5 (by assumption)))).trans ?_
        refine (ys5 47 (L2 := [(4, .int (nI (vea Q n a))), (3, .int (nI i)), (2, .ref (q)), (1, .int (nI a)), (0, .ref (b + 0))]) rfl rfl rfl rfl).trans ?_
        refine (ys4 48 (v := .ref (b + 0)) rfl rfl rfl rfl).trans ?_
        refine (ys4 49 (v := .ref (q)) rfl rfl rfl rfl).trans ?_
        refine (ys4 50 (v := .int (nI a)) rfl rfl rfl rfl).trans ?_
        refine (ys4 52 (v := .int (nI (vea Q n a))) rfl rfl rfl rfl).trans ?_
        refine (ys4 53 (v := .int (nI a)) rfl rfl rfl rfl).trans ?_
        refine (ys7_1 54 rfl rfl).trans ?_
        refine (yc4 57 rfl rfl (Nat.le_of_ble_eq_true rfl) (Or.inr (by show ztg (zwi _ _) _ = _; rw [ztg_wi]; exact (zFS.tag (zTP_kw hb).1 (j := 0) (by decide) rfl))) rfl rfl (c_kp hb ht (by omega) ⟨hq, hS.2.2.1 _ hq⟩)).trans ?_
        generalize hr5 : vkp Q K i q (nI a) ((nI (vea Q n a)) - (nI a)) = r5
        have hl1 : r5.1 0 0 = nI n := by rw [← hr5]; exact vkp_len hl
        refine (ys4 58 (v := .ref (b + 0)) rfl rfl rfl rfl).trans ?_
        refine (ys4 60 (v := .int (nI (vea Q n a))) rfl rfl rfl rfl).trans ?_
        refine (yc2 63 rfl rfl (Nat.le_of_ble_eq_true rfl) (Or.inr (by show ztg (zwi _ _) _ = _; rw [ztg_wi]; exact (zFS.tag (zTP_kw hb).1 (j := 0) (by decide) rfl))) rfl rfl (c_bb (zTP_kw hb) hl1 hn (vea_ge Q (ha5 (by assumption))).2)).trans ?_
        refine (ys5 64 (L2 := [(1, .int (nI (vbb r5.1 (n - vea Q n a) (vea Q n a)))), (4, .int (nI (vea Q n a))), (3, .int (nI i)), (2, .ref (q)), (0, .ref (b + 0))]) rfl rfl rfl rfl).trans ?_
        refine (ys4 65 (v := .ref (b + 0)) rfl rfl rfl rfl).trans ?_
        refine (ys4 66 (v := .int (nI (vbb r5.1 (n - vea Q n a) (vea Q n a)))) rfl rfl rfl rfl).trans ?_
        refine (yc2 69 rfl rfl (Nat.le_of_ble_eq_true rfl) (Or.inr (by show ztg (zwi _ _) _ = _; rw [ztg_wi]; exact (zFS.tag (zTP_kw hb).1 (j := 0) (by decide) rfl))) rfl rfl (c_ka (zTP_kw hb) hl1 hn (by have := vbb_ge r5.1 (n - vea Q n a) (vea Q n a); have := (vea_ge Q (ha5 (by assumption))).2; omega) (zKS_kw hb hS))).trans ?_
        refine (ys5 70 (L2 := [(2, .ref ((vka r5.1 n (vbb r5.1 (n - vea Q n a) (vea Q n a))))), (1, .int (nI (vbb r5.1 (n - vea Q n a) (vea Q n a)))), (4, .int (nI (vea Q n a))), (3, .int (nI i)), (0, .ref (b + 0))]) rfl rfl rfl rfl).trans ?_
        refine (ys6 73 (y := nI (i + 1)) (L2 := [(3, .int (nI (i + 1))), (2, .ref ((vka r5.1 n (vbb r5.1 (n - vea Q n a) (vea Q n a))))), (1, .int (nI (vbb r5.1 (n - vea Q n a) (vea Q n a)))), (4, .int (nI (vea Q n a))), (0, .ref (b + 0))]) rfl rfl (nI_1 _) rfl rfl).trans ?_
        refine (ys19 rfl).trans ?_
        rw [show vscn n (m + 1) i a q Q K = vscn n m (i + 1) (vbb r5.1 (n - vea Q n a) (vea Q n a)) (vka r5.1 n (vbb r5.1 (n - vea Q n a) (vea Q n a))) r5.1 r5.2 from by subst hr5; rw [vscn]; (try dsimp only); rw [if_neg h30, if_neg h37]]; refine zden1_fg (L := [(3, .int (nI (i + 1))), (2, .ref ((vka r5.1 n (vbb r5.1 (n - vea Q n a) (vea Q n a))))), (1, .int (nI (vbb r5.1 (n - vea Q n a) (vea Q n a)))), (0, .ref (b + 0))]) (zfg_cons rfl (zfg_cons rfl (zfg_cons rfl (zfg_cons rfl zfg_nil)))) ?_; exact l_scn hb hn hS m (i + 1) (vbb r5.1 (n - vea Q n a) (vea Q n a)) (vka r5.1 n (vbb r5.1 (n - vea Q n a) (vea Q n a))) r5.1 r5.2 (by rw [← hr5]; exact vkp_len hl) (by rw [← hr5]; exact vkp_tok) (by have := vbb_ge r5.1 (n - vea Q n a) (vea Q n a); have := (vea_ge Q (ha5 (by assumption))).2; omega) (vka_lt _ _ _) (fun h => vka_in hl1 hn (by have := vbb_ge r5.1 (n - vea Q n a) (vea Q n a); have := (vea_ge Q (ha5 (by assumption))).2; omega) h) (by omega)

def vsc (Q : zFn) (K : zKn) (n : Nat) : zFn × zKn :=
  let Q1 := zup Q 0 1 (nI 0)
  vscn n 400 0 (vbb Q1 (n - 0) 0) (vka Q1 n (vbb Q1 (n - 0) 0)) Q1 K

theorem c_scn {d : Nat} {b : Nat} {Q : zFn} {K : Nat → Nat} {J : zFn} {μ : zM} (hb : zTP μ b) {n : Nat} (hl : Q 0 0 = nI n) (hn : n ≤ 2000) (hS : zKS μ J) : zden zcds (d + 9) 47 [.ref (b + 0)] (zwi (zkm μ b K) (zfl J b 5 Q)) = some (0, none, 0, 0, zwi (zkm μ b ((vsc Q K n).2)) (zfl J b 5 ((vsc Q K n).1))) := by
  refine (zd_in (d := d + 8) (cd := zc47) (nL := 5) (L := [(0, .ref (b + 0))]) rfl (Nat.le_of_ble_eq_true rfl) rfl).trans ?_
  refine (ys4 1 (v := .ref (b + 0)) rfl rfl rfl rfl).trans ?_
  refine (ys1 2 (x := nI 0) rfl rfl rfl).trans ?_
  refine (yq 5 rfl (zFS.tag (zTP_kw hb).1 (j := 0) (by decide) rfl) (zFS.k0 hb.1 (j := 0)) (zFS.ni (zTP_kw hb).1 (j := 0) (by decide) rfl) (by decide) rfl (zfl_up (j := 0) (by decide))).trans ?_
  generalize hQ1 : zup Q 0 1 (nI 0) = Q1
  have hl1 : Q1 0 0 = nI n := by subst hQ1; simp [zup]; exact hl
  refine (ys4 6 (v := .ref (b + 0)) rfl rfl rfl rfl).trans ?_
  refine (ys1 7 (x := nI 0) rfl rfl rfl).trans ?_
  refine (yc2 10 rfl rfl (Nat.le_of_ble_eq_true rfl) (Or.inr (by show ztg (zwi _ _) _ = _; rw [ztg_wi]; exact (zFS.tag (zTP_kw hb).1 (j := 0) (by decide) rfl))) rfl rfl (c_bb (zTP_kw hb) hl1 hn (Nat.zero_le n))).trans ?_
  refine (ys5 11 (L2 := [(1, .int (nI (vbb Q1 (n - 0) 0))), (0, .ref (b + 0))]) rfl rfl rfl rfl).trans ?_
  refine (ys4 12 (v := .ref (b + 0)) rfl rfl rfl rfl).trans ?_
  refine (ys4 13 (v := .int (nI (vbb Q1 (n - 0) 0))) rfl rfl rfl rfl).trans ?_
  refine (yc2 16 rfl rfl (Nat.le_of_ble_eq_true rfl) (Or.inr (by show ztg (zwi _ _) _ = _; rw [ztg_wi]; exact (zFS.tag (zTP_kw hb).1 (j := 0) (by decide) rfl))) rfl rfl (c_ka (zTP_kw hb) hl1 hn (by have := vbb_ge Q1 (n - 0) 0; omega) (zKS_kw hb hS))).trans ?_
  refine (ys5 17 (L2 := [(2, .ref ((vka Q1 n (vbb Q1 (n - 0) 0)))), (1, .int (nI (vbb Q1 (n - 0) 0))), (0, .ref (b + 0))]) rfl rfl rfl rfl).trans ?_
  refine (ys1 18 (x := nI 0) rfl rfl rfl).trans ?_
  refine (ys5 19 (L2 := [(3, .int (nI 0)), (2, .ref ((vka Q1 n (vbb Q1 (n - 0) 0)))), (1, .int (nI (vbb Q1 (n - 0) 0))), (0, .ref (b + 0))]) rfl rfl rfl rfl).trans ?_
  rw [show vsc Q K n = vscn n 400 0 (vbb Q1 (n - 0) 0) (vka Q1 n (vbb Q1 (n - 0) 0)) Q1 K from by subst hQ1; unfold vsc; rfl]; exact l_scn hb hn hS 400 0 _ _ _ K hl1 (by rw [← hQ1]; simp [zup]) (by have := vbb_ge Q1 (n - 0) 0; omega) (vka_lt _ _ _) (fun h => vka_in hl1 hn (by have := vbb_ge Q1 (n - 0) 0; omega) h) (by omega)

