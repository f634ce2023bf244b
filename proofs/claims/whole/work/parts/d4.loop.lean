/-! THE LAW'S LOOP -/
set_option maxRecDepth 20000 in
theorem law_step {μ : zM} {I : zFn} {N : Nat} {xs : Nat → Int32} {i c sl : Nat} {Q : zR → Prop} (hv : zINV μ I N xs) (hN : N < 2 ^ 30) (hi : i + 6 ≤ N) (hk : ∀ (μ2 : zM) (I2 : zFn) (c2 s2 : Nat), zINV μ2 I2 N xs → c2 ≤ 400 → s2 ≤ 4000 → zP Q (zden1 12 (zden zcds 12) zc232 (23, [(4, .int (nI (i + 6))), (3, .ref 329), (2, .ref 262), (1, .ref 82), (0, .ref 81)], [], c + c2, sl + s2, zwi μ2 I2))) : zP Q (zden1 12 (zden zcds 12) zc232 (23, [(4, .int (nI i)), (3, .ref 329), (2, .ref 262), (1, .ref 82), (0, .ref 81)], [], c, sl, zwi μ I)) := by
  have hv0 := hv
  obtain ⟨n, s, t, V, U, T, S, A, X, Y, nl, np, nh, nk, len, h, hq⟩ := hv
  obtain ⟨j, hj, hx⟩ := pk_andE (xs i) (m := 31) 5 (by decide)
  refine zP.st (law_head h.SP hN hi (by exact hj) hx) ?_
  by_cases h20 : j < 20
  · have hc : j = 0 ∨ j = 1 ∨ j = 2 ∨ j = 3 ∨ j = 4 ∨ j = 5 ∨ j = 6 ∨ j = 7 ∨ j = 8 ∨ j = 9 ∨ j = 10 ∨ j = 11 ∨ j = 12 ∨ j = 13 ∨ j = 14 ∨ j = 15 ∨ j = 16 ∨ j = 17 ∨ j = 18 ∨ j = 19 := by omega
    rcases hc with rfl | rfl | rfl | rfl | rfl | rfl | rfl | rfl | rfl | rfl | rfl | rfl | rfl | rfl | rfl | rfl | rfl | rfl | rfl | rfl
    · exact st_136 h hq hi hk
    · exact st_240 h hq hi hk
    · exact st_296 h hq hi hk
    · exact st_309 h hq hi hk
    · exact st_322 h hq hi hk
    · exact st_378 h hq hi hk
    · exact st_446 h hq hi hk
    · exact st_514 h hq hi hk
    · exact st_582 h hq hi hk
    · exact st_650 h hq hi hk
    · exact st_718 h hq hi hk
    · exact st_798 h hq hi hk
    · exact st_854 h hq hi hk
    · exact st_922 h hq hi hk
    · exact st_978 h hq hi hk
    · exact st_1046 h hq hi hk
    · exact st_1102 h hq hi hk
    · exact st_1158 h hq hi hk
    · exact st_1171 h hq hi hk
    · exact st_1212 h hq hi hk
  · rw [if_neg h20]
    exact zP.im (fun z hz => lawc_1226 hz) (hk μ I 0 0 hv0 (by decide) (by decide))
def zEnd (b1 b2 : Nat) (z : zR) : Prop := ∃ (c s : Nat) (μ : zM), z = (0, some (.int 1), c, s, μ) ∧ c ≤ b1 ∧ s ≤ b2
theorem law_loop {N : Nat} {xs : Nat → Int32} (hN : N < 2 ^ 20) {b1 b2 : Nat} : ∀ (m k : Nat) (c sl : Nat) (μ : zM) (I : zFn), zINV μ I N xs → N < 6 * k + 6 * m + 6 → k ≤ 2 ^ 20 → c + 400 * m ≤ b1 → sl + 4000 * m ≤ b2 → zP (zEnd b1 b2) (zden1 12 (zden zcds 12) zc232 (23, [(4, .int (nI (6 * k))), (3, .ref 329), (2, .ref 262), (1, .ref 82), (0, .ref 81)], [], c, sl, zwi μ I))
  | 0, k, c, sl, μ, I, hv, hm, hk2, h1, h2 => by
    obtain ⟨n, s, t, V, U, T, S, A, X, Y, nl, np, nh, nk, len, h, hq⟩ := hv
    exact ⟨_, law_end h.SP (by omega) (by omega) (by omega), _, _, _, rfl, by omega, by omega⟩
  | m + 1, k, c, sl, μ, I, hv, hm, hk2, h1, h2 => by
    by_cases hi : 6 * k + 6 ≤ N
    · refine law_step hv (by omega) hi (fun μ2 I2 c2 s2 hv2 hc hs => ?_)
      have hr := law_loop hN (b1 := b1) (b2 := b2) m (k + 1) (c + c2) (sl + s2) μ2 I2 hv2 (by omega) (by omega) (by omega) (by omega)
      rw [show 6 * (k + 1) = 6 * k + 6 from by omega] at hr
      exact hr
    · obtain ⟨n, s, t, V, U, T, S, A, X, Y, nl, np, nh, nk, len, h, hq⟩ := hv
      exact ⟨_, law_end h.SP (by omega) (by omega) (by omega), _, _, _, rfl, by omega, by omega⟩
