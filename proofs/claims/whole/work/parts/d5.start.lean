/-! THE START: what holds ahead of the first call -/
theorem zKS_c1 {μ ν : zM} {I J : zFn} (h : zKS μ I) (hm : ∀ a, a < 81 → zen ν a = zen μ a) (hI : ∀ a k, a < 81 → J a k = I a k) : zKS ν J := by
  have hz : ∀ i, i < 20 → zkz i < 53 ∧ zkz i + 15 < 81 := by decide
  obtain ⟨h1, h2, h3, h4, h5, h6⟩ := h
  refine ⟨?_, ?_, fun i hi => ?_, fun i hi => ?_, fun i hi => ?_, fun i hi => ?_⟩
  · unfold ztg at *; rw [hm _ (by decide)]; exact h1
  · unfold znr at *; rw [hm _ (by decide)]; exact h2
  · unfold ztg at *; rw [hm _ (by omega)]; exact h3 i hi
  · unfold zgr at *; rw [hm _ (by decide)]; exact h4 i hi
  · unfold zgr at *; rw [hm _ (by omega)]; exact h5 i hi
  · obtain ⟨k1, k2, k3, k4, k5, k6, k7, k8⟩ := h6 i hi
    have hz1 := hz i hi
    unfold ztg zgr zni at *
    refine ⟨?_, ?_, ?_, ?_, ?_, ?_, k7, fun j hj => ?_⟩
    · unfold ztg; rw [hm _ (by omega)]; exact k1
    · unfold zgr; rw [hm _ (by omega)]; exact k2
    · unfold zni; rw [hm _ (by omega)]; exact k3
    · rw [hI _ _ (by omega)]; exact k4
    · unfold ztg; rw [hm _ (by omega)]; exact k5
    · unfold zni; rw [hm _ (by omega)]; exact k6
    · rw [hI _ _ (by omega)]; exact k8 j hj
theorem zMS_c1 {μ ν : zM} {I J : zFn} (h : zMS μ I) (hm : ∀ a, a < 81 → zen ν a = zen μ a) (hI : ∀ a k, a < 81 → J a k = I a k) : zMS ν J := by
  obtain ⟨h1, h2, h3, h4⟩ := h
  refine ⟨?_, ?_, fun i hi => ?_, fun i hi => ?_⟩
  · unfold ztg at *; rw [hm _ (by decide)]; exact h1
  · unfold znr at *; rw [hm _ (by decide)]; exact h2
  · unfold zgr at *; rw [hm _ (by decide)]; exact h3 i hi
  · obtain ⟨k1, k2, k3, k4, k5, k6, k7, k8⟩ := h4 i hi
    unfold ztg zgr zni at *
    refine ⟨?_, ?_, ?_, ?_, ?_, ?_, k7, fun j hj => ?_⟩
    · unfold ztg; rw [hm _ (by omega)]; exact k1
    · unfold zgr; rw [hm _ (by omega)]; exact k2
    · unfold zni; rw [hm _ (by omega)]; exact k3
    · rw [hI _ _ (by omega)]; exact k4
    · unfold ztg; rw [hm _ (by omega)]; exact k5
    · unfold zni; rw [hm _ (by omega)]; exact k6
    · rw [hI _ _ (by omega)]; exact k8 j hj
theorem zKS_0 : zKS zm0c (zgi zm0c) := by
  refine ⟨by decide +kernel, by decide +kernel, by decide +kernel, by decide +kernel, by decide +kernel, fun i hi => ?_⟩
  obtain ⟨k1, k2, k3, k4, k5, k6⟩ := (by decide +kernel : ∀ i, i < 20 → ztg zm0c (zkz i) = 34 ∧ zgr zm0c (zkz i) 0 = some (zkz i + 15) ∧ zni zm0c (zkz i) = 1 ∧ zgi zm0c (zkz i) 0 = 0 ∧ ztg zm0c (zkz i + 15) = 31 ∧ zni zm0c (zkz i + 15) < 2 ^ 31) i hi
  exact ⟨k1, k2, k3, k4, k5, rfl, k6, fun j hj => rfl⟩
theorem zMS_0 : zMS zm0c (zgi zm0c) := by
  refine ⟨by decide +kernel, by decide +kernel, by decide +kernel, fun i hi => ?_⟩
  obtain ⟨k1, k2, k3, k4, k5, k6⟩ := (by decide +kernel : ∀ i, i < 14 → ztg zm0c (53 + i) = 34 ∧ zgr zm0c (53 + i) 0 = some (67 + i) ∧ zni zm0c (53 + i) = 1 ∧ zgi zm0c (53 + i) 0 = 0 ∧ ztg zm0c (67 + i) = 31 ∧ zni zm0c (67 + i) < 2 ^ 31) i hi
  exact ⟨k1, k2, k3, k4, k5, rfl, k6, fun j hj => rfl⟩
def zM3 (xs : List Int32) (ν1 ν2 : zM) : zM := zm0 xs ++ rshM 82 ν1 ++ rshM 262 ν2 ++ [(22, [], [], [0])]
theorem zm0_82 (xs : List Int32) : (zm0 xs).length = 82 := by
  unfold zm0
  rw [List.length_append]
  rfl
theorem rshM_len (L : Nat) (ν : zM) : (rshM L ν).length = ν.length := List.length_map _
theorem rshM_en (L : Nat) (ν : zM) (k : Nat) : zen (rshM L ν) k = rshE L (zen ν k) := by
  unfold zen rshM
  rw [List.getD_eq_getElem?_getD, List.getElem?_map, List.getD_eq_getElem?_getD]
  cases ν[k]? <;> rfl
section ZST
variable {xs : List Int32} {ν1 ν2 : zM}
theorem b_low (h1 : ν1.length = 180) (h2 : ν2.length = 67) {a : Nat} (ha : a < 81) : zen (zM3 xs ν1 ν2) a = zen zm0c a := by
  have l0 := zm0_82 xs
  unfold zM3
  rw [zen_appL (by rw [List.length_append, List.length_append, l0]; omega), zen_appL (by rw [List.length_append, l0]; omega), zen_appL (by omega)]
  unfold zm0
  exact zen_appL ha
theorem b_81 (h1 : ν1.length = 180) (h2 : ν2.length = 67) : zen (zM3 xs ν1 ν2) 81 = (30, xs, [], []) := by
  have l0 := zm0_82 xs
  unfold zM3
  rw [zen_appL (by rw [List.length_append, List.length_append, l0]; omega), zen_appL (by rw [List.length_append, l0]; omega), zen_appL (by omega)]
  unfold zm0
  exact zen_app_eq zm0c _
theorem b_n1 (h1 : ν1.length = 180) (h2 : ν2.length = 67) {k : Nat} (hk : k < 180) : zen (zM3 xs ν1 ν2) (82 + k) = rshE 82 (zen ν1 k) := by
  have l0 := zm0_82 xs
  have l1 := rshM_len 82 ν1
  unfold zM3
  rw [zen_appL (by rw [List.length_append, List.length_append, l0, l1]; omega), zen_appL (by rw [List.length_append, l0, l1]; omega)]
  have e := zen_appR (zm0 xs) (rshM 82 ν1) k
  rw [l0] at e
  rw [e, rshM_en]
theorem b_n2 (h1 : ν1.length = 180) (h2 : ν2.length = 67) {k : Nat} (hk : k < 67) : zen (zM3 xs ν1 ν2) (262 + k) = rshE 262 (zen ν2 k) := by
  have l0 := zm0_82 xs
  have l1 := rshM_len 82 ν1
  have l2 := rshM_len 262 ν2
  unfold zM3
  rw [zen_appL (by rw [List.length_append, List.length_append, l0, l1, l2]; omega)]
  have e := zen_appR (zm0 xs ++ rshM 82 ν1) (rshM 262 ν2) k
  rw [List.length_append, l0, l1, h1] at e
  rw [e, rshM_en]
theorem b_len (h1 : ν1.length = 180) (h2 : ν2.length = 67) : (zM3 xs ν1 ν2).length = 330 := by
  unfold zM3
  rw [List.length_append, List.length_append, List.length_append, zm0_82, rshM_len, rshM_len, h1, h2]
  rfl
theorem b_n3 (h1 : ν1.length = 180) (h2 : ν2.length = 67) : zen (zM3 xs ν1 ν2) 329 = (22, [], [], [0]) := by
  have l : (zm0 xs ++ rshM 82 ν1 ++ rshM 262 ν2).length = 329 := by
    rw [List.length_append, List.length_append, zm0_82, rshM_len, rshM_len, h1, h2]
  have e := zen_app_eq (zm0 xs ++ rshM 82 ν1 ++ rshM 262 ν2) (22, [], [], [0])
  rw [l] at e
  exact e
theorem gi_all {l : List Int32} (h : l.all (· == 0) = true) (j : Nat) : l.getD j 0 = 0 := by
  rw [List.getD_eq_getElem?_getD]
  cases hx : l[j]? with
  | none => rfl
  | some x =>
    have h2 := List.all_eq_true.mp h x (List.mem_of_getElem? hx)
    exact eq_of_beq h2
theorem b_g1 (h1 : ν1.length = 180) (h2 : ν2.length = 67) (p3 : rPost3 ν1) {k : Nat} (hk : k < 180) (h0 : k ≠ 0) (j : Nat) : zgi (zM3 xs ν1 ν2) (82 + k) j = 0 := by
  unfold zgi
  rw [b_n1 h1 h2 hk]
  exact gi_all ((p3 k hk).resolve_left h0) j
theorem b_WS (h1 : ν1.length = 180) (h2 : ν2.length = 67) {w : Nat} (hw : w + 85 ≤ 180) (p : rWS ν1 w) : zWS (zM3 xs ν1 ν2) (82 + w) := by
  refine ⟨by have : zK0 = 82 := rfl; omega, fun o ho => ?_⟩
  obtain ⟨a, b, c⟩ := p o ho
  have e : zen (zM3 xs ν1 ν2) (82 + w + o) = rshE 82 (zen ν1 (w + o)) := by
    rw [Nat.add_assoc]
    exact b_n1 h1 h2 (by omega)
  refine ⟨?_, ?_, ?_⟩
  · unfold ztg
    rw [e]
    exact a
  · unfold zni
    rw [e]
    exact b
  · rw [e]
    show (zen ν1 (w + o)).2.2.1.map _ = _
    rw [c, List.map_map]
    refine List.map_congr_left (fun q _ => ?_)
    cases q with
    | none => rfl
    | some v => exact congrArg some (by show 82 + (w + v) = 82 + w + v; omega)
theorem b_FS1 (h1 : ν1.length = 180) (h2 : ν2.length = 67) {b : Nat} {T N : List Nat} (p : rFS ν1 b T N) (hb : b + T.length ≤ 180) : zFS (zM3 xs ν1 ν2) (82 + b) T N := by
  refine ⟨by have : zK0 = 82 := rfl; omega, fun j hj => ?_⟩
  have e : zen (zM3 xs ν1 ν2) (82 + b + j) = rshE 82 (zen ν1 (b + j)) := by
    rw [Nat.add_assoc]
    exact b_n1 h1 h2 (by omega)
  unfold ztg zni
  rw [e]
  exact p j hj
theorem b_FS2 (h1 : ν1.length = 180) (h2 : ν2.length = 67) {b : Nat} {T N : List Nat} (p : rFS ν2 b T N) (hb : b + T.length ≤ 67) : zFS (zM3 xs ν1 ν2) (262 + b) T N := by
  refine ⟨by have : zK0 = 82 := rfl; omega, fun j hj => ?_⟩
  have e : zen (zM3 xs ν1 ν2) (262 + b + j) = rshE 262 (zen ν2 (b + j)) := by
    rw [Nat.add_assoc]
    exact b_n2 h1 h2 (by omega)
  unfold ztg zni
  rw [e]
  exact p j hj
theorem b_gr2 (h1 : ν1.length = 180) (h2 : ν2.length = 67) {b k v : Nat} (hb : b < 67) (p : zgr ν2 b k = some v) : zgr (zM3 xs ν1 ν2) (262 + b) k = some (262 + v) := by
  unfold zgr
  rw [b_n2 h1 h2 hb]
  show (List.map _ (zen ν2 b).2.2.1).getD k none = _
  unfold zgr at p
  rw [List.getD_eq_getElem?_getD] at p ⊢
  rw [List.getElem?_map]
  cases hq : (zen ν2 b).2.2.1[k]? with
  | none => rw [hq] at p; cases p
  | some q =>
    rw [hq] at p
    have p : q = some v := p
    rw [p]
    rfl
end ZST
