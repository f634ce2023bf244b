/-! THE PURE CLAIM -/
set_option maxRecDepth 20000 in
theorem zpure : zPure := by
  intro xs hx
  suffices h : zP (zEnd 601024 7293034) (zden1 12 (zden zcds 12) zc232 (0, [(0, .ref 81)], [], 0, 0, zm0 xs)) by
    obtain ⟨z, h1, c, s, μ, rfl, hc, hs⟩ := h
    obtain ⟨n, hn⟩ := zden1_iff.mp h1
    exact ⟨n, c, s, μ, hn, hc, hs⟩
  obtain ⟨c1, s1, ν1, r1, f1⟩ := rck_ex run_post
  obtain ⟨c2, s2, ν2, r2, f2⟩ := rck_ex run_model
  rw [Bool.and_eq_true, Bool.and_eq_true, Bool.and_eq_true, Bool.and_eq_true, Bool.and_eq_true, Bool.and_eq_true] at f1
  rw [Bool.and_eq_true, Bool.and_eq_true] at f2
  obtain ⟨hc1, hs1, p1, p2, p3, p4, p5⟩ := f1
  obtain ⟨hc2, hs2, m⟩ := f2
  have hc1 := of_decide_eq_true hc1
  have hs1 := of_decide_eq_true hs1
  have p1 := of_decide_eq_true p1
  have p2 := of_decide_eq_true p2
  have p3 := of_decide_eq_true p3
  have p4 := of_decide_eq_true p4
  have p5 := of_decide_eq_true p5
  have hc2 := of_decide_eq_true hc2
  have hs2 := of_decide_eq_true hs2
  have m := of_decide_eq_true m
  subst hc1 hc2
  have l0 := zm0_82 xs
  have g1 := rden_sim (P := zm0 xs) (by rw [l0]; exact Nat.le_refl _) _ _ _ _ _ r1
  unfold rshR at g1
  rw [l0] at g1
  have g1 : zden zcds 12 0 [.ref 82] (zm0 xs ++ [rP0]) = some (0, none, 179, s1, zm0 xs ++ rshM 82 ν1) := g1
  have l1 : (zm0 xs ++ rshM 82 ν1).length = 262 := by rw [List.length_append, l0, rshM_len, p1.1]
  have g2 := rden_sim (P := zm0 xs ++ rshM 82 ν1) (by rw [l1]; decide) _ _ _ _ _ r2
  unfold rshR at g2
  rw [l1] at g2
  have g2 : zden zcds 12 123 [.ref 262] (zm0 xs ++ rshM 82 ν1 ++ [rM0]) = some (0, none, 66, s2, zm0 xs ++ rshM 82 ν1 ++ rshM 262 ν2) := g2
  have l2 : (zm0 xs ++ rshM 82 ν1 ++ rshM 262 ν2).length = 329 := by rw [List.length_append, l1, rshM_len, m.1]
  have t1 : ztg (zm0 xs ++ [rP0]) 82 = 0 := by
    have e := zen_app_eq (zm0 xs) rP0
    rw [l0] at e
    unfold ztg
    rw [e]
    rfl
  have t2 : ztg (zm0 xs ++ rshM 82 ν1 ++ [rM0]) 262 = 8 := by
    have e := zen_app_eq (zm0 xs ++ rshM 82 ν1) rM0
    rw [l1] at e
    unfold ztg
    rw [e]
    rfl
  refine zP.st (ys29 3 rfl rfl) ?_
  rw [l0]
  refine zP.st (ys14 4 rfl (Nat.le_of_ble_eq_true rfl) rfl) ?_
  refine zP.st (yc1 7 rfl rfl (Nat.le_of_ble_eq_true rfl) (Or.inr t1) rfl rfl g1) ?_
  refine zP.st (ys5 8 (L2 := [(1, .ref 82), (0, .ref 81)]) rfl rfl rfl rfl) ?_
  refine zP.st (ys29 11 rfl rfl) ?_
  rw [l1]
  refine zP.st (ys14 12 rfl (Nat.le_of_ble_eq_true rfl) rfl) ?_
  refine zP.st (yc1 15 rfl rfl (Nat.le_of_ble_eq_true rfl) (Or.inr t2) rfl rfl g2) ?_
  refine zP.st (ys5 16 (L2 := [(2, .ref 262), (1, .ref 82), (0, .ref 81)]) rfl rfl rfl rfl) ?_
  refine zP.st (ys1 17 (x := 1) rfl rfl rfl) ?_
  refine zP.st (zden1_step (S' := (19, [(2, .ref 262), (1, .ref 82), (0, .ref 81)], [.ref (zm0 xs ++ rshM 82 ν1 ++ rshM 262 ν2).length], _, _, zM3 xs ν1 ν2)) rfl) ?_
  rw [l2]
  refine zP.st (ys5 20 (L2 := [(3, .ref 329), (2, .ref 262), (1, .ref 82), (0, .ref 81)]) rfl rfl rfl rfl) ?_
  refine zP.st (ys1 21 (x := nI 0) rfl rfl rfl) ?_
  refine zP.st (ys5 23 (L2 := [(4, .int (nI 0)), (3, .ref 329), (2, .ref 262), (1, .ref 82), (0, .ref 81)]) rfl rfl rfl rfl) ?_
  have hv := b_INV (xs := xs) hx p1 p2 p3 p4 p5 m
  have e := law_loop (N := xs.length) (xs := fun j => xs.getD j 0) (by omega) (b1 := 601024) (b2 := 7293034) 513 0 (0 + 1 + 179 + 1 + 66 + 1) (0 + 4 + s1 + 13 + s2 + 1) (zM3 xs ν1 ν2) (zgi (zM3 xs ν1 ν2)) hv (by omega) (by decide) (by decide) (by omega)
  rw [zwi_self] at e
  exact e
