/-! THE REFERENCE IS TAUGHT -/
theorem ys29 {d : Nat} {call : Nat → List Value → zM → Option zR} {cd : List zRI} {pc : Nat} {L : zL} {st : List Value} {c sl len a b : Nat} {k : Int} {ext : List Nat} {μ : zM} (pc' : Nat) (hf : zfetch cd pc = (29, len, a, b, k, ext)) (hp : pc + 3 = pc') : zden1 d call cd (pc, L, st, c, sl, μ) = zden1 d call cd (pc', L, .ref μ.length :: st, c + 1, sl + ((znf a).1 + (znf a).2), μ ++ [(a, List.replicate (znf a).1 0, List.replicate (znf a).2 none, [])]) := by
  subst hp
  refine zden1_step ?_
  unfold zn
  rw [hf]
  rfl
theorem zen_appR (μ ν : zM) (k : Nat) : zen (μ ++ ν) (μ.length + k) = zen ν k := by
  unfold zen
  rw [List.getD_eq_getElem?_getD, List.getElem?_append_right (by omega), Nat.add_sub_cancel_left, ← List.getD_eq_getElem?_getD]
theorem zwe1_self (ν : zM) (k : Nat) : zwe1 (zen ν k) (zgi ν k) = zen ν k := by
  rw [← zen_wi, zwi_self]
theorem zwi_app2 (μ ν : zM) (I : zFn) : zwi μ I ++ ν = zwi (μ ++ ν) (fun b => if b < μ.length then I b else zgi ν (b - μ.length)) := by
  apply zm_ext
  · simp [zwi_len]
  · intro a _
    rw [zen_wi]
    by_cases h : a < μ.length
    · rw [if_pos h, zen_appL (by rw [zwi_len]; exact h), zen_appL h, zen_wi]
    · rw [if_neg h]
      obtain ⟨k, rfl⟩ : ∃ k, a = μ.length + k := ⟨a - μ.length, by omega⟩
      rw [zen_appR, Nat.add_sub_cancel_left, zwe1_self]
      have := zen_appR (zwi μ I) ν k
      rw [zwi_len] at this
      exact this
/-- ints all nought -/
def zz0 (ν : zM) : Prop := ∀ k, k < ν.length → (zen ν k).2.1.all (· == 0) = true
theorem zz0.gi {ν : zM} (h : zz0 ν) (k j : Nat) : zgi ν k j = 0 := by
  unfold zgi
  by_cases hk : k < ν.length
  · have h1 := h k hk
    rw [List.getD_eq_getElem?_getD]
    cases hx : (zen ν k).2.1[j]? with
    | none => rfl
    | some x =>
      have h2 := List.all_eq_true.mp h1 x (List.mem_of_getElem? hx)
      exact eq_of_beq h2
  · rw [zen_ge (by omega)]
    rfl
theorem rsh_gi0 (L : Nat) (ν : zM) (k j : Nat) : zgi (rshM L ν) k j = zgi ν k j := by
  unfold zgi zen rshM
  rw [List.getD_eq_getElem?_getD (l := List.map (rshE L) ν), List.getElem?_map, List.getD_eq_getElem?_getD (l := ν)]
  cases ν[k]? <;> rfl
theorem zz0_told : zz0 rTold := by
  unfold zz0
  decide +kernel
def zti (I : zFn) (L : Nat) : zFn := fun b => if b < L then I b else fun _ => 0
def tld (μ : zM) : zM := μ ++ rshM μ.length rTold
theorem c_told {μ : zM} {I : zFn} (hK : zK0 ≤ μ.length) : zden zcds 10 183 [.ref μ.length] (zwi μ I ++ [rT0]) = some (0, none, 16, 1724, zwi (tld μ) (zti I μ.length)) := by
  obtain ⟨c, s, ν, h1, h2⟩ := rck_ex run_told
  simp only [Bool.and_eq_true, beq_iff_eq, decide_eq_true_eq] at h2
  obtain ⟨⟨rfl, rfl⟩, rfl⟩ := h2
  have h := rden_sim (P := zwi μ I) (by rw [zwi_len]; exact hK) _ _ _ _ _ h1
  unfold rshR at h
  rw [zwi_len] at h
  dsimp only at h
  rw [zwi_app2 μ (rshM μ.length rTold)] at h
  have e : (fun b => if b < μ.length then I b else zgi (rshM μ.length rTold) (b - μ.length)) = zti I μ.length := by
    funext b
    unfold zti
    split
    · rfl
    · funext j
      rw [rsh_gi0, zz0_told.gi]
  rw [e] at h
  exact h
theorem zen_sr_ne {μ : zM} {a k b : Nat} {x : Option Nat} (h : b ≠ a) : zen (zsr μ a k x) b = zen μ b := by
  unfold zsr
  by_cases hb : b < μ.length
  · rw [zen_set hb, if_neg (fun e => h e.symm)]
  · rw [zen_ge (by simpa using hb), zen_ge (by omega)]
theorem zni_sr (μ : zM) (a k b : Nat) (x : Option Nat) : zni (zsr μ a k x) b = zni μ b := by
  by_cases h : b = a
  · subst h
    unfold zsr
    by_cases hb : b < μ.length
    · unfold zni
      rw [zen_set hb, if_pos rfl]
    · unfold zni
      rw [zen_ge (by simpa using hb), zen_ge (by omega)]
  · unfold zni
    rw [zen_sr_ne h]
theorem zgr_sr_ne {μ : zM} {a k b j : Nat} {x : Option Nat} (h : ¬ (b = a ∧ j = k)) : zgr (zsr μ a k x) b j = zgr μ b j := by
  by_cases e : b = a
  · subst e
    unfold zsr
    by_cases hb : b < μ.length
    · unfold zgr
      rw [zen_set hb, if_pos rfl]
      show (List.set _ k x).getD j none = _
      rw [List.getD_eq_getElem?_getD, List.getElem?_set_ne (by omega), ← List.getD_eq_getElem?_getD]
    · unfold zgr
      rw [zen_ge (by simpa using hb), zen_ge (by omega)]
  · unfold zgr
    rw [zen_sr_ne e]
theorem zgr_sr_eq {μ : zM} {a k : Nat} {x : Option Nat} (h : k < znr μ a) : zgr (zsr μ a k x) a k = x := by
  have ha : a < μ.length := by
    refine Decidable.byContradiction fun hc => ?_
    unfold znr at h
    rw [zen_ge (by omega)] at h
    exact absurd h (Nat.not_lt_zero _)
  unfold zsr zgr
  rw [zen_set ha, if_pos rfl]
  show (List.set _ k x).getD k none = _
  rw [List.getD_eq_getElem?_getD, List.getElem?_set_self h]
  rfl
theorem zFS_sr {μ : zM} {b : Nat} {T N : List Nat} (h : zFS μ b T N) (a k : Nat) (x : Option Nat) : zFS (zsr μ a k x) b T N := ⟨h.1, fun j hj => by rw [ztg_sr, zni_sr]; exact h.2 j hj⟩
theorem zMX_sr {μ : zM} {x k : Nat} (h : zMX μ x) (hk : 5 ≤ k) (y : Option Nat) : zMX (zsr μ (x + 0) k y) x := ⟨zFS_sr h.1 _ _ _, fun j hj => by rw [zgr_sr_ne (by omega)]; exact h.2 j hj⟩
theorem tld_FS (μ : zM) (hK : zK0 ≤ μ.length) : zFS (tld μ) μ.length [9, 20, 20, 20, 20, 20, 20, 20, 20, 20, 20, 20, 20, 20, 20, 20, 20] [4, 6, 36, 36, 6, 20, 20, 20, 20, 6, 6, 6, 6, 12, 12, 72, 1440] := by
  refine ⟨hK, fun j hj => ?_⟩
  unfold tld
  rw [rsh_tg, rsh_ni]
  exact (by decide +kernel : ∀ j, j < 17 → ztg rTold j = [9, 20, 20, 20, 20, 20, 20, 20, 20, 20, 20, 20, 20, 20, 20, 20, 20].getD j 0 ∧ zni rTold j = [4, 6, 36, 36, 6, 20, 20, 20, 20, 6, 6, 6, 6, 12, 12, 72, 1440].getD j 0) j hj
theorem tld_gr (μ : zM) {k : Nat} (hk : k < 16) : zgr (tld μ) (μ.length + 0) k = some (μ.length + (k + 1)) := by
  unfold tld
  rw [rsh_gr, (by decide +kernel : ∀ k, k < 16 → zgr rTold 0 k = some (k + 1)) k hk]
  rfl
theorem tld_len (μ : zM) : (tld μ).length = μ.length + 17 := by
  unfold tld
  rw [rsh_len]
  rfl
/-- the memory with what is being read -/
def mrdg (μ : zM) (x : Nat) : zM := zsr (tld μ) (x + 0) 6 (some μ.length)
theorem mrdg_UU {μ : zM} {x : Nat} (hX : zMX μ x) (h9 : znr μ (x + 0) = 9) : zMX (mrdg μ x) x ∧ zUU (mrdg μ x) x μ.length := by
  have hl := zFS_len hX.1 (by decide) (by decide)
  have hl : x + 6 ≤ μ.length := hl
  have hX1 : zMX (tld μ) x := zMX_app _ hX
  have hk : zK0 ≤ μ.length := by have := hX.1.1; omega
  refine ⟨zMX_sr hX1 (by decide) _, zFS_sr (tld_FS μ hk) _ _ _, fun k hk => ?_, Or.inl hl, ?_⟩
  · rw [mrdg, zgr_sr_ne (by omega)]
    exact tld_gr μ hk
  · refine zgr_sr_eq ?_
    have e : znr (tld μ) (x + 0) = 9 := by
      unfold znr tld
      rw [zen_appL (by omega)]
      exact h9
    rw [e]
    decide
theorem c_rread {μ : zM} {I : zFn} {x : Nat} {rz : zR} (hX : zMX μ x) (h9 : znr μ (x + 0) = 9) (h : zden1 10 (zden zcds 10) zc155 (11, [(0, .ref (x + 0))], [], 17, 1744, zwi (mrdg μ x) (zti I μ.length)) = some rz) : zden zcds 11 155 [.ref (x + 0)] (zwi μ I) = some rz := by
  have hl := zFS_len hX.1 (by decide) (by decide)
  have hl : x + 6 ≤ μ.length := hl
  have hK := hX.1.1
  have hX1 : zMX (tld μ) x := zMX_app _ hX
  refine (zd_in (d := 10) (cd := zc155) (nL := 3) (L := [(0, .ref (x + 0))]) rfl (Nat.le_of_ble_eq_true rfl) rfl).trans ?_
  refine (ys4 1 (v := .ref (x + 0)) rfl rfl rfl rfl).trans ?_
  refine (ys29 4 rfl rfl).trans ?_
  refine (ys14 5 rfl (Nat.le_of_ble_eq_true rfl) rfl).trans ?_
  have hc := c_told (I := I) (Nat.le_trans hK (by omega) : zK0 ≤ μ.length)
  rw [← zwi_len μ I] at hc
  refine (yc1 8 rfl rfl (Nat.le_of_ble_eq_true rfl) (Or.inr (by show ztg (zwi μ I ++ [rT0]) (zwi μ I).length = 9; unfold ztg; rw [zen_app_eq]; rfl)) rfl rfl hc).trans ?_
  rw [zwi_len]
  refine (ys24r 11 (x := some μ.length) rfl (zFS.tag hX1.1 (j := 0) (by decide) rfl) (zFS.k0 hX1.1 (j := 0)) ?_ ?_ rfl).trans ?_
  · have e : znr (tld μ) (x + 0) = 9 := by
      unfold znr tld
      rw [zen_appL (by omega)]
      exact h9
    rw [e]
    decide
  · show (if μ.length = zUK then none else some (some μ.length)) = _
    rw [if_neg (by unfold zUK; have : 82 ≤ x := hK; omega)]
  · exact h
/-- teach: up to what reading answered -/
theorem c_mtea0 {μ μ2 : zM} {I I5 : zFn} {x : Nat} {R : Int32} {c s : Nat} {rz : zR} (hX : zMX μ x) (hX2 : zMX μ2 x) (hr : zden zcds 11 155 [.ref (x + 0)] (zwi μ (zup (zup I (x + 0) 0 0) (x + 0) 2 (-1))) = some (0, some (.int R), c, s, zwi μ2 I5)) (h : zden1 11 (zden zcds 11) zc158 (21, [(1, .int R), (0, .ref (x + 0))], [.int R], 0 + c, 0 + s, zwi μ2 (zup I5 (x + 0) 1 0)) = some rz) : zden zcds 12 158 [.ref (x + 0)] (zwi μ I) = some rz := by
  refine (zd_in (d := 11) (cd := zc158) (nL := 2) (L := [(0, .ref (x + 0))]) rfl (Nat.le_of_ble_eq_true rfl) rfl).trans ?_
  refine (ys4 1 (v := .ref (x + 0)) rfl rfl rfl rfl).trans ?_
  refine (ys1 2 (x := 0) rfl rfl rfl).trans ?_
  refine (yq 5 rfl (zFS.tag hX.1 (j := 0) (by decide) rfl) (zFS.k0 hX.1 (j := 0)) (zFS.ni hX.1 (j := 0) (by decide) rfl) (by decide) rfl rfl).trans ?_
  refine (ys4 6 (v := .ref (x + 0)) rfl rfl rfl rfl).trans ?_
  refine (ys1 7 (x := -1) rfl rfl rfl).trans ?_
  refine (yq 10 rfl (zFS.tag hX.1 (j := 0) (by decide) rfl) (zFS.k0 hX.1 (j := 0)) (zFS.ni hX.1 (j := 0) (by decide) rfl) (by decide) rfl rfl).trans ?_
  refine (ys4 11 (v := .ref (x + 0)) rfl rfl rfl rfl).trans ?_
  refine (yc1 14 rfl rfl (Nat.le_of_ble_eq_true rfl) (Or.inr (by show ztg (zwi _ _) _ = _; rw [ztg_wi]; exact (zFS.tag hX.1 (j := 0) (by decide) rfl))) rfl rfl hr).trans ?_
  refine (ys5 15 (L2 := [(1, .int R), (0, .ref (x + 0))]) rfl rfl rfl rfl).trans ?_
  refine (ys4 16 (v := .ref (x + 0)) rfl rfl rfl rfl).trans ?_
  refine (ys1 17 (x := 0) rfl rfl rfl).trans ?_
  refine (yq 20 rfl (zFS.tag hX2.1 (j := 0) (by decide) rfl) (zFS.k0 hX2.1 (j := 0)) (zFS.ni hX2.1 (j := 0) (by decide) rfl) (by decide) rfl rfl).trans ?_
  refine (ys4 21 (v := .int R) rfl rfl rfl rfl).trans ?_
  exact h
theorem c_mteaF {μ μ2 : zM} {I I5 : zFn} {x : Nat} {R : Int32} {c s : Nat} (hX : zMX μ x) (hX2 : zMX μ2 x) (hr : zden zcds 11 155 [.ref (x + 0)] (zwi μ (zup (zup I (x + 0) 0 0) (x + 0) 2 (-1))) = some (0, some (.int R), c, s, zwi μ2 I5)) (hR : ¬ R ≤ 0) : zden zcds 12 158 [.ref (x + 0)] (zwi μ I) = some (0, some (.int R), c, s, zwi μ2 (zup I5 (x + 0) 1 0)) := by
  refine c_mtea0 hX hX2 hr ?_
  refine ys17_5 24 rfl rfl (fun h => absurd h hR) (fun _ => ?_)
  refine (ys4 25 (v := .int R) rfl rfl rfl rfl).trans ?_
  refine (ys36 rfl rfl).trans ?_
  rw [Nat.zero_add, Nat.zero_add]
theorem c_mteaT {μ μ2 : zM} {I I5 : zFn} {x s u nl np nh nk : Nat} {T : zFn} {c sl : Nat} (hX : zMX μ x) (hX2 : zMX μ2 x) (h9 : znr μ2 (x + 0) = 9) (hu : zgr μ2 (x + 0) 6 = some u) (hu0 : u ≠ 22) (hs : zgr μ2 (x + 0) 7 = some (s + 0)) (hC : zSC (zsr μ2 (x + 0) 5 (some u)) x u s (zup I5 (x + 0) 1 0) T) (hN : zTN T nl np nh nk) (hr : zden zcds 11 155 [.ref (x + 0)] (zwi μ (zup (zup I (x + 0) 0 0) (x + 0) 2 (-1))) = some (0, some (.int 0), c, sl, zwi μ2 I5)) : zden zcds 12 158 [.ref (x + 0)] (zwi μ I) = some (0, some (.int 0), c, sl, zwi (zsr μ2 (x + 0) 5 (some u)) (zfl (zup I5 (x + 0) 1 0) s 22 (rbeg (vf s (zup I5 (x + 0) 1 0)) T nl np))) := by
  refine c_mtea0 hX hX2 hr ?_
  generalize zup I5 (x + 0) 1 0 = I6 at hC ⊢
  refine ys17_5 24 rfl rfl (fun _ => ?_) (fun h => absurd (by decide) h)
  refine (ys4 27 (v := .ref (x + 0)) rfl rfl rfl rfl).trans ?_
  refine (ys4 28 (v := .ref (x + 0)) rfl rfl rfl rfl).trans ?_
  refine (ygr 31 rfl (zFS.tag hX2.1 (j := 0) (by decide) rfl) rfl hu).trans ?_
  refine (ys24r 34 (x := some u) rfl (zFS.tag hX2.1 (j := 0) (by decide) rfl) (zFS.k0 hX2.1 (j := 0)) (by rw [h9]; decide) ?_ rfl).trans ?_
  · show (if u = zUK then none else some (some u)) = _
    rw [if_neg (by unfold zUK; exact hu0)]
  have hX3 : zMX (zsr μ2 (x + 0) 5 (some u)) x := zMX_sr hX2 (by decide) _
  refine (ys4 35 (v := .ref (x + 0)) rfl rfl rfl rfl).trans ?_
  refine (ygr 38 rfl (zFS.tag hX3.1 (j := 0) (by decide) rfl) rfl (q := s + 0) (by rw [zgr_sr_ne (by omega)]; exact hs)).trans ?_
  have hb := c_beg (d := 9) (S := vf s I6) hC hN
  rw [zfl_vf] at hb
  refine (yc1 41 rfl rfl (Nat.le_of_ble_eq_true rfl) (Or.inr (by show ztg (zwi _ _) _ = _; rw [ztg_wi]; exact (zFS.tag hC.1 (j := 0) (by decide) rfl))) rfl rfl hb).trans ?_
  refine (ys1 42 (x := 0) rfl rfl rfl).trans ?_
  refine (ys36 rfl rfl).trans ?_
  rw [Nat.zero_add, Nat.zero_add]
  rfl
