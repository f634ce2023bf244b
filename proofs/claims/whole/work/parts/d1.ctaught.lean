/-! THE CLASS IS TAUGHT -/
section ZDC
variable {μ μ' : zM} {I I' : zFn} {N : Nat} {xs : Nat → Int32} {n s t n' s' t' : Nat} {V U V' U' : zV} {T S A X Y T' S' A' X' Y' : zFn}
theorem zI5.bld (h : zI5 μ I N xs n s t V U T S A X Y) (ns' : (n' = 92 ∧ s' = 177) ∨ (n' = 177 ∧ s' = 92)) (tt' : t' = 268 ∨ 330 ≤ t') (ml' : 330 ≤ μ'.length ∧ t' + 17 ≤ μ'.length) (e : ∀ a, a < 82 → zen μ' a = zen μ a) (hlow : ∀ a, a < 82 → I' a = I a) (L' : zLC μ' 82 83 n' s') (n3' : znr μ' (82 + 0) = 3) (R' : zRR μ' 83) (Kx' : ∃ K : Nat → Nat, zen μ' 86 = (23, [], (List.range 401).map (fun j => zkf (K j)), [])) (n9' : znr μ' (262 + 0) = 9) (M' : zMC μ' 262 t' 285 307 I' T') (out' : ztg μ' 329 = 22 ∧ znl μ' 329 = 1) (hV : zHV I' n' V') (hU : zHV I' s' U') (hS : zHF I' 285 22 S') (hA : zHF I' 307 22 A') (hX : zHF I' 262 6 X') (hQ : zHF I' 84 5 Y') : zI5 μ' I' N xs n' s' t' V' U' T' S' A' X' Y' :=
  ⟨ns', tt', ml', L', n3', R', Kx', zKS_cg h.KS e (fun a k ha => by rw [hlow a ha]), n9', zMS_cg h.MS e (fun a k ha => by rw [hlow a ha]), M', out', zSP_cg h.SP (e 81 (by decide)) (hlow 81 (by decide)), hV, hU, hS, hA, hX, hQ⟩
theorem zrl_o {r : Nat} {P : zFn} {a : Nat} (h : a ≠ r ∧ ¬ (r + 6 ≤ a ∧ a < r + 9)) : zrl I r P a = I a := by
  funext k
  unfold zrl
  rw [if_neg h.1, if_neg h.2]
def zpP (I : zFn) : zFn := fun j k => if j = 0 then I 83 k else I (88 + j) k
theorem zm4_self (hU : zHV I s U) (hQ : zHF I 84 5 Y) : zm4 I 82 83 s (vf 82 I) Y (zpP I) U = I := by
  unfold zm4
  have e1 : zfl I 82 1 (vf 82 I) = I := zfl_vf _ _ _
  have e2 : zfl I (83 + 1) 5 Y = I := hQ.eq
  have e3 : zrl I 83 (zpP I) = I := by
    funext a k
    unfold zrl zpP
    by_cases h1 : a = 83
    · rw [if_pos h1, h1]
      rfl
    · rw [if_neg h1]
      by_cases h2 : 83 + 6 ≤ a ∧ a < 83 + 9
      · rw [if_pos h2, if_neg (by omega), show 88 + (a - 83 - 5) = a from by omega]
      · rw [if_neg h2]
  rw [e1, e2, e3]
  exact hU.eq
theorem zm4_o {E P : zFn} {a : Nat} (hs : s = 92 ∨ s = 177) (h : a < 82 ∨ (92 ≤ a ∧ (a < s ∨ s + 85 ≤ a))) : zm4 I 82 83 s E Y P U a = I a := by
  unfold zm4
  rw [zpc_o (by omega), zrl_o (by omega), zfl_o (by omega), zfl_o (by omega)]
theorem zkm_self {K : Nat → Nat} (hl : 86 < μ.length) (h : zen μ 86 = (23, [], (List.range 401).map (fun j => zkf (K j)), [])) : zkm μ (83 + 1) K = μ := by
  apply zm_ext
  · unfold zkm
    rw [List.length_set]
  · intro a ha
    by_cases e : a = 86
    · subst e
      unfold zkm
      rw [zen_set hl, if_pos rfl, h]
    · exact zen_kw e
theorem zen_km {K : Nat → Nat} (hl : 86 < μ.length) : zen (zkm μ (83 + 1) K) 86 = (23, [], (List.range 401).map (fun j => zkf (K j)), []) := by
  unfold zkm
  rw [zen_set hl, if_pos rfl]
theorem zkm_len {K : Nat → Nat} : (zkm μ (83 + 1) K).length = μ.length := by
  unfold zkm
  rw [List.length_set]
theorem zsr_len {a k : Nat} {x : Option Nat} : (zsr μ a k x).length = μ.length := by
  unfold zsr
  rw [List.length_set]
theorem zLC_km {K : Nat → Nat} (h : zI5 μ I N xs n s t V U T S A X Y) : zLC (zkm μ (83 + 1) K) 82 83 n s := by
  have kw : ∀ a, a ≠ 86 → zen (zkm μ (83 + 1) K) a = zen μ a := fun a ha => zen_kw ha
  have hns := h.ns
  obtain ⟨a1, a2, a3, a4, a5, a6, a7, a8, a9, b1, b2, b3, b4, b5⟩ := h.L
  exact ⟨a1, ztg_cg a2 (kw _ (by decide)), zni_cg a3 (kw _ (by decide)), zgr_cg a4 (kw _ (by decide)), zgr_cg a5 (kw _ (by decide)), zgr_cg a6 (kw _ (by decide)), zWS_cg a7 (fun o ho => kw _ (by omega)), zWS_cg a8 (fun o ho => kw _ (by omega)), a9, ztg_cg b1 (kw _ (by decide)), zgr_cg b2 (kw _ (by decide)), ztg_cg b3 (kw _ (by decide)), zni_cg b4 (kw _ (by decide)), b5⟩
theorem zLC_sw {μ : zM} (h : zLC μ 82 83 n s) (h3 : znr μ (82 + 0) = 3) (hns : (n = 92 ∧ s = 177) ∨ (n = 177 ∧ s = 92)) : zLC (zsr (zsr μ (82 + 0) 2 (some n)) (82 + 0) 1 (some s)) 82 83 s n := by
  have kw : ∀ a, a ≠ 82 → zen (zsr (zsr μ (82 + 0) 2 (some n)) (82 + 0) 1 (some s)) a = zen μ a := fun a ha => by rw [zen_sr_ne ha, zen_sr_ne ha]
  obtain ⟨a1, a2, a3, a4, a5, a6, a7, a8, a9, b1, b2, b3, b4, b5⟩ := h
  refine ⟨a1, by rw [ztg_sr, ztg_sr]; exact a2, by rw [zni_sr, zni_sr]; exact a3, by rw [zgr_sr_ne (by omega), zgr_sr_ne (by omega)]; exact a4, zgr_sr_eq (by rw [znr_sr, h3]; decide), ?_, zWS_cg a8 (fun o ho => kw _ (by omega)), zWS_cg a7 (fun o ho => kw _ (by omega)), by omega, ztg_cg b1 (kw _ (by decide)), zgr_cg b2 (kw _ (by decide)), ztg_cg b3 (kw _ (by decide)), zni_cg b4 (kw _ (by decide)), by omega⟩
  rw [zgr_sr_ne (by omega)]
  exact zgr_sr_eq (by rw [h3]; decide)
theorem c_taught {nl np nh nk len : Nat} (h : zI5 μ I N xs n s t V U T S A X Y) (hq : zQ5 (I 82 0) V U T S X Y nl np nh nk len) : ∃ (K : zKn) (R : Int32 × zFn × zV), R = vrd (zpP I) U (vsc Y K len).1 (vsc Y K len).2 ∧ ∃ (μ1 : zM) (I1 : zFn) (n1 s1 : Nat) (V1 U1 : zV) (Y1 : zFn), zden zcds 12 3 [.ref 82] (zwi μ I) = some (0, some (.int R.1), 0, 0, zwi μ1 I1) ∧ zI5 μ1 I1 N xs n1 s1 t V1 U1 T S A X Y1 ∧ Y1 0 0 = 0 ∧ zSQ Y1 ∧ I1 82 0 = R.2.1 0 2 ∧ zSZ U1 ∧ ((R.1 = 0 ∧ V1 = zvu (zvu R.2.2 0 0 4 (S 0 0)) 0 0 5 (S 0 1) ∧ zSZ V1) ∨ (¬ R.1 = 0 ∧ V1 = V)) := by
  obtain ⟨hR, hIN, hS2, hZV, hZU, hSQ, hTp, hE⟩ := hq
  have hns := h.ns
  have hml := h.ml
  have htt := h.tt
  obtain ⟨K, hK⟩ := h.Kx
  have hkm := zkm_self (by omega) hK
  have e := c_tea (d := 1) (J := I) (E := vf 82 I) (P := zpP I) (Q := Y) (U := U) (K := K) h.L h.n3 h.R h.KS hTp.1 hTp.2.2.1 hZU hSQ
  unfold ateR at e
  rw [hkm, zm4_self h.hU h.hQ] at e
  obtain ⟨R, hRe⟩ : ∃ R, R = vrd (zpP I) U (vsc Y K len).1 (vsc Y K len).2 := ⟨_, rfl⟩
  rw [← hRe] at e
  have hV4 : I (n + 0) 4 = S 0 0 ∧ I (n + 0) 5 = S 0 1 := by
    have h0 := h.hV 0 4 (by decide)
    have h1 := h.hV 0 5 (by decide)
    rw [h0, h1]
    exact ⟨hR.2.1.1, hR.2.1.2.1⟩
  rw [hV4.1, hV4.2] at e
  have hZ2 : zSZ R.2.2 := by rw [hRe]; exact vrd_Z hZU
  have hSQ1 : zSQ (zup (vsc Y K len).1 0 0 0) := fun j hj => by
    rw [zup_ne' (by omega)]
    exact (vsc_TO hTp.1 hTp.2.2.1 hSQ).2 j hj
  have hsv : s = 92 ∨ s = 177 := by omega
  -- the new contents of the ints
  have key : ∀ (W : zV), ∃ I1 : zFn, I1 = zm4 I 82 83 s (zup (vf 82 I) 0 0 (R.2.1 0 2)) (zup (vsc Y K len).1 0 0 0) R.2.1 W ∧ (∀ a, (a < 82 ∨ (92 ≤ a ∧ (a < s ∨ s + 85 ≤ a))) → I1 a = I a) ∧ zHV I1 s W ∧ zHF I1 84 5 (zup (vsc Y K len).1 0 0 0) ∧ I1 82 0 = R.2.1 0 2 := by
    intro W
    refine ⟨_, rfl, fun a ha => zm4_o hsv ha, zHV.at _ _ _, fun j k hj => ?_, ?_⟩
    · unfold zm4
      rw [zpc_o (by omega), zrl_o (by omega)]
      exact zfl_at hj
    · unfold zm4
      rw [zpc_o (by omega), zrl_o (by omega), zfl_o (by omega)]
      exact (zfl_at (b := 82) (j := 0) (by decide)).trans (zup_same _ _ _ _)
  have e82 : ∀ a, a < 82 → zen (zkm μ (83 + 1) (vsc Y K len).2) a = zen μ a := fun a ha => zen_kw (by omega)
  have kw : ∀ a, a ≠ 86 → zen (zkm μ (83 + 1) (vsc Y K len).2) a = zen μ a := fun a ha => zen_kw ha
  refine ⟨K, R, hRe, ?_⟩
  by_cases h0 : R.1 = 0
  · rw [if_pos h0] at e
    obtain ⟨I1, hI1, ho, gU, gQ, gE⟩ := key (zvu (zvu R.2.2 0 0 4 (S 0 0)) 0 0 5 (S 0 1))
    rw [← hI1] at e
    have kw2 : ∀ a, a ≠ 82 → a ≠ 86 → zen (zsr (zsr (zkm μ (83 + 1) (vsc Y K len).2) (82 + 0) 2 (some n)) (82 + 0) 1 (some s)) a = zen μ a := fun a h1 h2 => by rw [zen_sr_ne h1, zen_sr_ne h1, kw a h2]
    refine ⟨_, I1, s, n, _, V, _, e, ?_, zup_same _ _ _ _, hSQ1, gE, hZV, Or.inl ⟨h0, rfl, zSZ_u (zSZ_u hZ2 (by decide)) (by decide)⟩⟩
    exact h.bld (by omega) htt (by rw [zsr_len, zsr_len, zkm_len]; exact hml) (fun a ha => kw2 a (by omega) (by omega)) (fun a ha => ho a (by omega)) (zLC_sw (zLC_km h) (znr_cg h.n3 (kw _ (by decide))) hns) (by rw [znr_sr, znr_sr]; exact znr_cg h.n3 (kw _ (by decide))) (zRR_cg (zRR_kw h.R) (fun j hj => by rw [zen_sr_ne (by omega), zen_sr_ne (by omega)])) ⟨(vsc Y K len).2, by rw [zen_sr_ne (by decide), zen_sr_ne (by decide)]; exact zen_km (by omega)⟩ (znr_cg h.n9 (kw2 _ (by decide) (by decide))) (zMC_I (zMC_cg h.M (fun j hj => kw2 _ (by omega) (by omega)) (fun j hj => kw2 _ (by omega) (by omega)) (fun j hj => kw2 _ (by omega) (by omega)) (fun j hj => kw2 _ (by omega) (by omega))) (fun j hj => ho _ (by omega))) ⟨ztg_cg h.out.1 (kw2 _ (by decide) (by decide)), by have := h.out.2; unfold znl at *; rw [kw2 _ (by decide) (by decide)]; exact this⟩ gU (h.hV.mv fun o hh => ho _ (by omega)) (h.hS.mv fun j hj => ho _ (by omega)) (h.hA.mv fun j hj => ho _ (by omega)) (h.hX.mv fun j hj => ho _ (by omega)) gQ
  · rw [if_neg h0] at e
    obtain ⟨I1, hI1, ho, gU, gQ, gE⟩ := key R.2.2
    rw [← hI1] at e
    refine ⟨_, I1, n, s, V, _, _, e, ?_, zup_same _ _ _ _, hSQ1, gE, hZ2, Or.inr ⟨h0, rfl⟩⟩
    exact h.bld hns htt (by rw [zkm_len]; exact hml) e82 (fun a ha => ho a (by omega)) (zLC_km h) (znr_cg h.n3 (kw _ (by decide))) (zRR_kw h.R) ⟨(vsc Y K len).2, zen_km (by omega)⟩ (znr_cg h.n9 (kw _ (by decide))) (zMC_I (zMC_cg h.M (fun j hj => kw _ (by omega)) (fun j hj => kw _ (by omega)) (fun j hj => kw _ (by omega)) (fun j hj => kw _ (by omega))) (fun j hj => ho _ (by omega))) ⟨ztg_cg h.out.1 (kw _ (by decide)), by have := h.out.2; unfold znl at *; rw [kw _ (by decide)]; exact this⟩ (h.hV.mv fun o hh => ho _ (by omega)) gU (h.hS.mv fun j hj => ho _ (by omega)) (h.hA.mv fun j hj => ho _ (by omega)) (h.hX.mv fun j hj => ho _ (by omega)) gQ
end ZDC
