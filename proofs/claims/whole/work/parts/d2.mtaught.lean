/-! THE REFERENCE IS TAUGHT: the shape behind it -/
section ZDM
variable {μ : zM} {I : zFn} {N : Nat} {xs : Nat → Int32} {n s t : Nat} {V U : zV} {T S A X Y : zFn}
theorem zSC_sr {x t s k : Nat} {J T : zFn} (h : zSC μ x t s J T) (hk : k ≠ 5) (hs : s ≠ x) (ht : t ≠ x) (y : Option Nat) : zSC (zsr μ (x + 0) k y) x t s J T := by
  obtain ⟨h1, h2, h3, h4, h5, h6, h7, h8⟩ := h
  exact ⟨zFS_sr h1 _ _ _, fun j hj => by rw [zgr_sr_ne (by omega)]; exact h2 j hj, by rw [zgr_sr_ne (by omega)]; exact h3, zFS_sr h4 _ _ _, fun j hj => by rw [zgr_sr_ne (by omega)]; exact h5 j hj, by rw [ztg_sr]; exact h6, by rw [zgr_sr_ne (by omega)]; exact h7, h8⟩
theorem zMC_sr6 {x t s q : Nat} {J T : zFn} (h : zMC μ x t s q J T) (y : Option Nat) : zMC (zsr μ (x + 0) 6 y) x t s q J T := by
  obtain ⟨h1, h2, h3, h4, h5, h6, h7, h8, h9, h10⟩ := h
  exact ⟨zMX_sr h1 (by decide) y, by rw [zgr_sr_ne (by omega)]; exact h2, by rw [zgr_sr_ne (by omega)]; exact h3, by rw [zgr_sr_ne (by omega)]; exact h4, fun I hI => zSC_sr (h5 I hI) (by decide) (by omega) (by omega) y, fun I hI => zSC_sr (h6 I hI) (by decide) (by omega) (by omega) y, h7, h8, h9, h10⟩
/-- what the reading leaves of the ints -/
def zIr (I : zFn) (L : Nat) (X5 T5 : zFn) : zFn := zup (zfl (zfl (zti I L) 262 6 X5) L 17 T5) (262 + 0) 1 0
theorem zIr_o {L a : Nat} {X5 T5 : zFn} (hL : 330 ≤ L) (ha : a < L) (h2 : a < 262 ∨ 268 ≤ a) : zIr I L X5 T5 a = I a := by
  funext k
  unfold zIr
  rw [zup_ne' (by omega), zfl_o (by omega), zfl_o (by omega)]
  unfold zti
  rw [if_pos ha]
theorem zIr_x {L : Nat} {X5 T5 : zFn} (hL : 330 ≤ L) : zHF (zIr I L X5 T5) 262 6 (zup X5 0 1 0) := by
  intro j k hj
  unfold zIr
  by_cases h : j = 0 ∧ k = 1
  · obtain ⟨rfl, rfl⟩ := h
    rw [zup_same, zup_same]
  · rw [zup_ne' (by omega), zup_ne' (by omega), zfl_o (by omega)]
    exact zfl_at hj
theorem zIr_t {L : Nat} {X5 T5 : zFn} (hL : 330 ≤ L) {j k : Nat} (hj : j < 17) : zIr I L X5 T5 (L + j) k = T5 j k := by
  unfold zIr
  rw [zup_ne' (by omega)]
  exact zfl_at hj
theorem mrdg_en {a : Nat} (ha : a < μ.length) (h : a ≠ 262) : zen (mrdg μ 262) a = zen μ a := by
  unfold mrdg tld
  rw [zen_sr_ne h, zen_appL ha]
theorem mrdg_len : (mrdg μ 262).length = μ.length + 17 := by
  unfold mrdg
  rw [zsr_len, tld_len]
theorem mrdg_nr (h9 : znr μ (262 + 0) = 9) (hl : 262 < μ.length) : znr (mrdg μ 262) (262 + 0) = 9 := by
  unfold mrdg
  rw [znr_sr]
  unfold tld znr
  rw [zen_appL hl]
  exact h9
theorem mrdg_gr {k : Nat} (hl : 262 < μ.length) (hk : k ≠ 6) : zgr (mrdg μ 262) (262 + 0) k = zgr μ (262 + 0) k := by
  unfold mrdg
  rw [zgr_sr_ne (by omega)]
  unfold tld zgr
  rw [zen_appL hl]
theorem zI5.rdF (h : zI5 μ I N xs n s t V U T S A X Y) {Ia : zFn} (hIa : ∀ a, a ≠ 262 → Ia a = I a) (X5 T5 : zFn) : zI5 (mrdg μ 262) (zIr Ia μ.length X5 T5) N xs n s t V U T S A (zup X5 0 1 0) Y := by
  have hns := h.ns
  have htt := h.tt
  have hml := h.ml
  have e := fun a (ha : a < μ.length) (h2 : a < 262 ∨ 268 ≤ a) => (zIr_o (I := Ia) (X5 := X5) (T5 := T5) hml.1 ha h2).trans (hIa a (by omega))
  have m := fun a (ha : a < μ.length) (h2 : a ≠ 262) => mrdg_en (μ := μ) ha h2
  obtain ⟨K, hK⟩ := h.Kx
  exact h.bld hns htt (by rw [mrdg_len]; omega) (fun a ha => m a (by omega) (by omega)) (fun a ha => e a (by omega) (by omega)) (zLC_cg h.L (m _ (by omega) (by omega)) (fun j hj => m _ (by omega) (by omega)) (fun j hj => m _ (by omega) (by omega)) (fun j hj => m _ (by omega) (by omega))) (znr_cg h.n3 (m _ (by omega) (by omega))) (zRR_cg h.R (fun j hj => m _ (by omega) (by omega))) ⟨K, (m _ (by omega) (by omega)).trans hK⟩ (mrdg_nr h.n9 (by omega)) (zMC_I (zMC_sr6 (zMC_app (rshM μ.length rTold) h.M (fun _ _ => rfl)) _) (fun j hj => e _ (by omega) (by omega))) ⟨ztg_cg h.out.1 (m _ (by omega) (by omega)), by have := h.out.2; unfold znl at *; rw [m _ (by omega) (by omega)]; exact this⟩ (h.hV.mv fun o hh => e _ (by omega) (by omega)) (h.hU.mv fun o hh => e _ (by omega) (by omega)) (h.hS.mv fun j hj => e _ (by omega) (by omega)) (h.hA.mv fun j hj => e _ (by omega) (by omega)) (zIr_x hml.1) (h.hQ.mv fun j hj => e _ (by omega) (by omega))
/-- the memory with what was read told -/
theorem told_SC (h : zI5 μ I N xs n s t V U T S A X Y) {T5 J : zFn} (hJ : ∀ j k, j < 17 → J (μ.length + j) k = T5 j k) : zSC (zsr (mrdg μ 262) (262 + 0) 5 (some μ.length)) 262 μ.length 285 J T5 ∧ zSC (zsr (mrdg μ 262) (262 + 0) 5 (some μ.length)) 262 μ.length 307 J T5 := by
  have hml := h.ml
  have hS := h.M.2.2.2.2.1 I h.M.2.2.2.2.2.2.1
  have hA := h.M.2.2.2.2.2.1 I h.M.2.2.2.2.2.2.1
  have hk : zK0 ≤ μ.length := by have : zK0 = 82 := rfl; omega
  have m := fun a (ha : a < μ.length) (h2 : a ≠ 262) => mrdg_en (μ := μ) ha h2
  have m3 := fun a (ha : a < μ.length) (h2 : a ≠ 262) => (zen_sr_ne (μ := mrdg μ 262) (k := 5) (x := some μ.length) (show a ≠ 262 + 0 from h2)).trans (m a ha h2)
  have hF : zFS (zsr (mrdg μ 262) (262 + 0) 5 (some μ.length)) μ.length [9, 20, 20, 20, 20, 20, 20, 20, 20, 20, 20, 20, 20, 20, 20, 20, 20] [4, 6, 36, 36, 6, 20, 20, 20, 20, 6, 6, 6, 6, 12, 12, 72, 1440] := zFS_sr (zFS_sr (tld_FS μ hk) _ _ _) _ _ _
  have hG : ∀ k, k < 16 → zgr (zsr (mrdg μ 262) (262 + 0) 5 (some μ.length)) (μ.length + 0) k = some (μ.length + (k + 1)) := fun k hk2 => by
    rw [zgr_sr_ne (by omega)]
    unfold mrdg
    rw [zgr_sr_ne (by omega)]
    exact tld_gr μ hk2
  have ht : ztg (zsr (mrdg μ 262) (262 + 0) 5 (some μ.length)) (262 + 0) = 8 := by
    rw [ztg_sr]
    unfold mrdg tld
    rw [ztg_sr]
    exact ztg_app _ h.tg8 (by decide)
  have h5 : zgr (zsr (mrdg μ 262) (262 + 0) 5 (some μ.length)) (262 + 0) 5 = some (μ.length + 0) := zgr_sr_eq (by rw [mrdg_nr h.n9 (by omega)]; decide)
  exact ⟨⟨zFS_ce hS.1 (fun j hj => m3 _ (by have : j < 22 := hj; omega) (by omega)), fun k hk => zgr_cg (hS.2.1 k hk) (m3 _ (by omega) (by omega)), zgr_cg hS.2.2.1 (m3 _ (by omega) (by omega)), hF, hG, ht, h5, Or.inr (by omega), hJ⟩,
    ⟨zFS_ce hA.1 (fun j hj => m3 _ (by have : j < 22 := hj; omega) (by omega)), fun k hk => zgr_cg (hA.2.1 k hk) (m3 _ (by omega) (by omega)), zgr_cg hA.2.2.1 (m3 _ (by omega) (by omega)), hF, hG, ht, h5, Or.inr (by omega), hJ⟩⟩
theorem zI5.rdT (h : zI5 μ I N xs n s t V U T S A X Y) {Ia : zFn} (hIa : ∀ a, a ≠ 262 → Ia a = I a) (X5 T5 S5 : zFn) : zI5 (zsr (mrdg μ 262) (262 + 0) 5 (some μ.length)) (zfl (zIr Ia μ.length X5 T5) 285 22 S5) N xs n s μ.length V U T5 S5 A (zup X5 0 1 0) Y := by
  have hns := h.ns
  have htt := h.tt
  have hml := h.ml
  have e := fun a (ha : a < μ.length) (h2 : a < 262 ∨ 268 ≤ a) => (zIr_o (I := Ia) (X5 := X5) (T5 := T5) hml.1 ha h2).trans (hIa a (by omega))
  have m := fun a (ha : a < μ.length) (h2 : a ≠ 262) => (zen_sr_ne (μ := mrdg μ 262) (k := 5) (x := some μ.length) (show a ≠ 262 + 0 from h2)).trans (mrdg_en (μ := μ) ha h2)
  have g := fun a (ha : a < 285 ∨ 307 ≤ a) => zfl_o (I := zIr Ia μ.length X5 T5) (b := 285) (n := 22) (F := S5) (a := a) (by omega)
  have hT5 : ∀ j k, j < 17 → zfl (zIr Ia μ.length X5 T5) 285 22 S5 (μ.length + j) k = T5 j k := fun j k hj => by
    rw [g _ (by omega)]
    exact zIr_t hml.1 hj
  have hX2 : zMX (zsr (mrdg μ 262) (262 + 0) 5 (some μ.length)) 262 := zMX_sr (mrdg_UU h.M.1 h.n9).1 (by decide) _
  obtain ⟨K, hK⟩ := h.Kx
  refine h.bld hns (Or.inr hml.1) (by rw [zsr_len, mrdg_len]; omega) (fun a ha => m a (by omega) (by omega)) (fun a ha => (g a (by omega)).trans (e a (by omega) (by omega))) (zLC_cg h.L (m _ (by omega) (by omega)) (fun j hj => m _ (by omega) (by omega)) (fun j hj => m _ (by omega) (by omega)) (fun j hj => m _ (by omega) (by omega))) (znr_cg h.n3 (m _ (by omega) (by omega))) (zRR_cg h.R (fun j hj => m _ (by omega) (by omega))) ⟨K, (m _ (by omega) (by omega)).trans hK⟩ (by rw [znr_sr]; exact mrdg_nr h.n9 (by omega)) ?_ ⟨ztg_cg h.out.1 (m _ (by omega) (by omega)), by have := h.out.2; unfold znl at *; rw [m _ (by omega) (by omega)]; exact this⟩ (h.hV.mv fun o hh => (g _ (by omega)).trans (e _ (by omega) (by omega))) (h.hU.mv fun o hh => (g _ (by omega)).trans (e _ (by omega) (by omega))) (zHF.at _ _ _ _) (h.hA.mv fun j hj => (g _ (by omega)).trans (e _ (by omega) (by omega))) ((zIr_x hml.1).mv fun j hj => g _ (by omega)) (h.hQ.mv fun j hj => (g _ (by omega)).trans (e _ (by omega) (by omega)))
  refine ⟨hX2, zgr_sr_eq (by rw [mrdg_nr h.n9 (by omega)]; decide), ?_, ?_, fun J hJ => (told_SC h hJ).1, fun J hJ => (told_SC h hJ).2, hT5, Or.inl (by omega), by omega, by omega⟩
  · rw [zgr_sr_ne (by omega), mrdg_gr (by omega) (by decide)]
    exact h.M.2.2.1
  · rw [zgr_sr_ne (by omega), mrdg_gr (by omega) (by decide)]
    exact h.M.2.2.2.1
end ZDM
