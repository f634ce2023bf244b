/-! ONE CALL: teach -/
theorem zIN_cg {T S S' : zFn} (h : zIN T S) (e : ∀ j k, j < 22 → S' j k = S j k) : zIN T S' := by
  obtain ⟨a, b, c, d⟩ := h
  refine ⟨fun p hp => ?_, fun k hk => ?_, fun k hk => ?_, d⟩
  · rw [e 5 _ (by decide), e 11 _ (by decide)]; exact a p hp
  · rw [e 3 _ (by decide)]; exact b k hk
  · rw [e 18 _ (by decide)]; exact c k hk
set_option maxRecDepth 20000 in
theorem st_296 {μ : zM} {I : zFn} {N : Nat} {xs : Nat → Int32} {n s t : Nat} {V U : zV} {T S A X Y : zFn} {nl np nh nk len : Nat} {i c sl : Nat} {Q : zR → Prop} (h : zI5 μ I N xs n s t V U T S A X Y) (hq : zQ5 (I 82 0) V U T S X Y nl np nh nk len) (hi : i + 6 ≤ N) (hk : ∀ (μ2 : zM) (I2 : zFn) (c2 s2 : Nat), zINV μ2 I2 N xs → c2 ≤ 400 → s2 ≤ 4000 → zP Q (zden1 12 (zden zcds 12) zc232 (23, [(4, .int (nI (i + 6))), (3, .ref 329), (2, .ref 262), (1, .ref 82), (0, .ref 81)], [], c + c2, sl + s2, zwi μ2 I2))) : zP Q (zden1 12 (zden zcds 12) zc232 (296, [(4, .int (nI i)), (3, .ref 329), (2, .ref 262), (1, .ref 82), (0, .ref 81)], [], c, sl, zwi μ I)) := by
  obtain ⟨K, R, hRe, μ1, I1, n1, s1, V1, U1, Y1, hw, h1, hY0, hSQ1, hE1, hZU1, hcase⟩ := c_taught h hq
  obtain ⟨hR, hIN, hS2, hZV, hZU, hSQ, hTp, hE⟩ := hq
  have hml := h1.ml
  have hx1 : zMX μ1 262 := h1.M.1
  obtain ⟨Ia, hIa⟩ : ∃ Ia, zup (zup I1 (262 + 0) 0 0) (262 + 0) 2 (-1) = Ia := ⟨_, rfl⟩
  have hIo : ∀ a, a ≠ 262 → Ia a = I1 a := fun a ha => by
    funext k
    rw [← hIa, zup_ne' (Or.inl (by omega)), zup_ne' (Or.inl (by omega))]
  obtain ⟨Xa, hXa⟩ : ∃ Xa, vf 262 (zti Ia μ1.length) = Xa := ⟨_, rfl⟩
  have hz : ∀ j k, j < 6 → Xa j k = Ia (262 + j) k := fun j k hj => by
    rw [← hXa]
    unfold vf zti
    rw [if_pos (by omega)]
  have x01 : Xa 0 1 = X 0 1 := by
    rw [hz 0 1 (by decide), ← hIa, zup_ne' (by omega), zup_ne' (by omega)]
    exact h1.hX 0 1 (by decide)
  have x1 : ∀ a, Xa 1 a = X 1 a := fun a => by
    rw [hz 1 a (by decide), hIo _ (by decide)]
    exact h1.hX 1 a (by decide)
  have x02 : Xa 0 2 = -1 := by
    rw [hz 0 2 (by decide), ← hIa]
    exact zup_same _ _ _ _
  have hTa : zqTp Y Xa len := hTp.up rfl (fun _ => rfl) x01 x1
  obtain ⟨e, he, hr0, hqI, hDn⟩ := zq_reads (K := K) (P := zpP I) (V := U) hTa hZU
  rw [← hRe] at hDn
  obtain ⟨X3, hX3⟩ : ∃ X3, zup (rct len 401 0 0 Xa) 0 3 0 = X3 := ⟨_, rfl⟩
  rw [hX3] at hqI hDn
  have y02 : X3 0 2 = -1 := by rw [← hX3, zup_ne' (by omega), hr0, x02]
  obtain ⟨-, -, -, hTk, fe, ke1, ke2, -⟩ := hqI
  have hTF : zTF X3 401 := by
    refine ⟨e, 0, by rw [← hX3]; exact zup_same _ _ _ _, Nat.zero_le _, he, ?_, by omega⟩
    rw [ke2]
    have hc : (vsc Y K len).2 e = 0 ∨ (vsc Y K len).2 e = 1 := by omega
    rcases hc with q | q <;> rw [q] <;> decide
  have hkp := rtx_k 401 X3
  -- shapes for the reading
  obtain ⟨hX2, hUU⟩ := mrdg_UU hx1 h1.n9
  have hK82 : 82 ≤ μ1.length := by omega
  have hMS2 : zMS (mrdg μ1 262) (zti Ia μ1.length) := zMS_cg h1.MS (fun a ha => mrdg_en (by omega) (by omega)) (fun a k ha => by
    unfold zti
    rw [if_pos (by omega), hIo a (by omega)])
  have hmem : zfl (zfl (zti Ia μ1.length) 262 6 Xa) μ1.length 17 (fun _ _ => 0) = zti Ia μ1.length := by
    have e1 : zfl (zti Ia μ1.length) 262 6 Xa = zti Ia μ1.length := by rw [← hXa]; exact zfl_vf _ _ _
    rw [e1]
    refine zHF.eq (fun j k hj => ?_)
    unfold zti
    rw [if_neg (by omega)]
  have hread : ∀ {R0 : Int32} {X5 T5 : zFn}, zden1 10 (zden zcds 10) zc155 (11, [(0, .ref (262 + 0))], [], 17, 1744, zwi (mrdg μ1 262) (zfl (zfl (zti Ia μ1.length) 262 6 Xa) μ1.length 17 (fun _ _ => 0))) = some (0, some (.int R0), 17, 1744, zwi (mrdg μ1 262) (zfl (zfl (zti Ia μ1.length) 262 6 X5) μ1.length 17 T5)) → zden zcds 11 155 [.ref (262 + 0)] (zwi μ1 (zup (zup I1 (262 + 0) 0 0) (262 + 0) 2 (-1))) = some (0, some (.int R0), 17, 1744, zwi (mrdg μ1 262) (zfl (zfl (zti Ia μ1.length) 262 6 X5) μ1.length 17 T5)) := by
    intro R0 X5 T5 hh
    rw [hmem] at hh
    rw [hIa]
    exact c_rread hx1 h1.n9 hh
  -- what is refused
  have refused : ∀ {R0 : Int32} {X5 T5 : zFn}, R.1 = R0 → ¬ R0 = 0 → ¬ R0 ≤ 0 → X5 0 2 = R.2.1 0 2 → zden zcds 11 155 [.ref (262 + 0)] (zwi μ1 (zup (zup I1 (262 + 0) 0 0) (262 + 0) 2 (-1))) = some (0, some (.int R0), 17, 1744, zwi (mrdg μ1 262) (zfl (zfl (zti Ia μ1.length) 262 6 X5) μ1.length 17 T5)) → zP Q (zden1 12 (zden zcds 12) zc232 (296, [(4, .int (nI i)), (3, .ref 329), (2, .ref 262), (1, .ref 82), (0, .ref 81)], [], c, sl, zwi μ I)) := by
    intro R0 X5 T5 hRR hn0 hn hx5 hrd
    rw [hRR] at hw hcase
    have hm := c_mteaF hx1 hX2 hrd hn
    have h2 := h1.rdF hIo X5 T5
    obtain ⟨g0, -, -⟩ | ⟨-, gV⟩ := hcase
    · exact absurd g0 hn0
    · subst gV
      refine zP.im (fun z hz => lawc_296 hi h.SP h1.SP h.L.2.1 h1.tg8 h2.tg8 hw hm hz) (hk _ _ 17 1744 ⟨_, _, _, _, _, _, _, _, _, _, nl, np, nh, nk, 0, h2, ?_⟩ (by decide) (by decide))
      refine ⟨hR, hIN, hS2, hZV, hZU1, hSQ1, ⟨hY0, zup_same _ _ _ _, by omega, fun a ha => absurd ha (Nat.not_lt_zero _)⟩, ?_⟩
      show zIr Ia μ1.length X5 T5 82 0 = _
      rw [zIr_o hml.1 (by omega) (by omega), hIo _ (by omega), hE1, zup_ne' (by omega), hx5]
  rcases hDn with ⟨d1, b, d2, d3, d4, d5⟩ | ⟨d1, d2, b, hJ⟩
  · -- no text
    have hb4 : b ≤ 400 := by omega
    have hrd := hread (c_rd0 (d := 1) (c := 17) (sl := 1744) (J := zti Ia μ1.length) hX2 hUU hTa.2.1 hTa.2.2.1 hMS2 hK82 hX3 hTF d1 d3 hb4)
    refine refused d4 (by decide) (by decide) ?_ hrd
    rw [zup_same, d5]
    exact hkp.1 3 b (by decide) (by decide)
  · obtain ⟨j1, j2, j3, j4, j5, j6, j7⟩ := hJ
    have hb4 : b ≤ 400 := by omega
    have hV : ∀ j, j < b → zTK (rtx 401 X3).2 j := fun j hj => by
      obtain ⟨f, l, -, -, -, -, t5, -, t7, t8, -⟩ := hTk j (by omega)
      have hn := hTa.2.2.1
      have e3 : (rtx 401 X3).2 3 j = nI f := (hkp.1 3 j (by decide) (by decide)).trans t5
      have e4 : (rtx 401 X3).2 4 j = nI l := (hkp.1 4 j (by decide) (by decide)).trans t7
      unfold zTK rfr rmn
      rw [e3, e4, nI_clamp (by omega), nI_clamp (by omega)]
      exact ⟨rfl, rfl, by omega⟩
    have hrd := hread (c_rd1 (d := 1) (c := 17) (sl := 1744) (J := zti Ia μ1.length) hX2 hUU hTa.2.1 hTa.2.2.1 hMS2 hK82 hX3 hTF d1 j2 hb4 hV j6)
    rcases j7 with ⟨k1, k2, k3⟩ | ⟨k1, k2, k3, nl2, np2, nh2, nk2, hMB⟩
    · have hf0 : ¬ (rfo (rtx 401 X3).2 b).1 = 0 := by rw [k2]; exact k1
      rw [if_neg hf0] at hrd
      have eR : (rfo (rtx 401 X3).2 b).1 = R.1 := by rw [k2, d2]
      refine refused eR.symm hf0 (i_pos (rfo_0 _ _) hf0) ?_ hrd
      rw [zup_same, k3]
    · rw [if_pos k3, k3] at hrd
      have hR0 : R.1 = 0 := d2.trans k1
      have hc2 : V1 = zvu (zvu R.2.2 0 0 4 (S 0 0)) 0 0 5 (S 0 1) ∧ zSZ V1 := by
        rcases hcase with ⟨-, a, b⟩ | ⟨g0, -⟩
        · exact ⟨a, b⟩
        · exact absurd hR0 g0
      obtain ⟨gV, gZ⟩ := hc2
      obtain ⟨I6, hI6⟩ : ∃ I6, zIr Ia μ1.length (rtx 401 X3).2 (rfo (rtx 401 X3).2 b).2.2 = I6 := ⟨_, rfl⟩
      have hI6' : zup (zfl (zfl (zti Ia μ1.length) 262 6 (rtx 401 X3).2) μ1.length 17 (rfo (rtx 401 X3).2 b).2.2) (262 + 0) 1 0 = I6 := hI6
      have hS6 : ∀ j k, j < 22 → vf 285 I6 j k = S j k := fun j k hj => by
        unfold vf
        rw [← hI6, zIr_o hml.1 (by omega) (by omega), hIo _ (by omega)]
        exact h1.hS j k hj
      have hbI := zq_beginI hMB (zIN_cg hIN hS6)
      have h22 : vf 285 I6 0 2 = -1 := (hS6 0 2 (by decide)).trans hS2
      have hR2 := zq_begin hMB (S := vf 285 I6) (fun hh hlt => by
        rw [h22]
        constructor
        · intro q
          exact absurd q (nI_m1 (by have := hbI.2.2.2.2.2.2.1; omega))
        · intro q
          have := hbI.2.2.2.2.2.2.1
          omega) (x := S 0 0) (y := S 0 1) (hS6 0 0 (by decide)).symm (hS6 0 1 (by decide)).symm
      have hC := (told_SC h1 (J := I6) (T5 := (rfo (rtx 401 X3).2 b).2.2) (fun j k hj => by rw [← hI6]; exact zIr_t hml.1 hj)).1
      have hm := c_mteaT (nl := nl2) (np := np2) (nh := nh2) (nk := nk2) hx1 hX2 (mrdg_nr h1.n9 (by omega)) hUU.2.2.2 (by omega) (s := 285) (by rw [mrdg_gr (by omega) (by decide)]; exact h1.M.2.2.1) (by rw [hI6']; exact hC) hbI.2 hrd
      rw [hI6'] at hm
      have h2 := h1.rdT hIo (rtx 401 X3).2 (rfo (rtx 401 X3).2 b).2.2 (rbeg (vf 285 I6) (rfo (rtx 401 X3).2 b).2.2 nl2 np2)
      rw [hI6] at h2
      rw [hR0] at hw
      refine zP.im (fun z hz => lawc_296 hi h.SP h1.SP h.L.2.1 h1.tg8 h2.tg8 hw hm hz) (hk _ _ 17 1744 ⟨_, _, _, _, _, _, _, _, _, _, nl2, np2, nh2, nk2, 0, h2, ?_⟩ (by decide) (by decide))
      rw [gV]
      refine ⟨hR2, hbI.1, ?_, by rw [← gV]; exact gZ, hZU1, hSQ1, ⟨hY0, zup_same _ _ _ _, by omega, fun a ha => absurd ha (Nat.not_lt_zero _)⟩, ?_⟩
      · rw [rbeg_at]
        simp [h22]
      · rw [zfl_o (by omega), ← hI6, zIr_o hml.1 (by omega) (by omega), hIo _ (by omega), hE1, zup_ne' (by omega), hkp.2 2 (by decide), y02]
        exact k2
