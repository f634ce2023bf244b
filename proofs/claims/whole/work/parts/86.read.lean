/-! A TEXT READ: tokens, then lines -/
theorem zRR_kw {μ : zM} {r : Nat} {K : Nat → Nat} (h : zRR μ r) : zRR (zkm μ (r + 1) K) r := by
  obtain ⟨h1, h2, h3, h4, h5, h6⟩ := h
  have e : ∀ a, a ≠ r + 1 + 2 → zen (zkm μ (r + 1) K) a = zen μ a := fun a ha => zen_kw ha
  have h7 := zTP_kw (K := K) h6
  refine ⟨⟨h1.1, fun j hj => ?_⟩, ?_, ?_, ?_, ?_, h7⟩
  · by_cases h3 : j = 3
    · subst h3
      have ht := zFS.tag h7.1 (j := 2) (by decide) rfl
      have hn := zFS.ni h7.1 (j := 2) (by decide) rfl
      rw [show r + 1 + 2 = r + 3 by omega] at ht hn
      exact ⟨ht, hn⟩
    · unfold ztg zni
      rw [e _ (by omega)]
      exact h1.2 j hj
  · unfold zgr; rw [e _ (by omega)]; exact h2
  · unfold zgr; rw [e _ (by omega)]; exact h3
  · unfold zgr; rw [e _ (by omega)]; exact h4
  · unfold zgr; rw [e _ (by omega)]; exact h5
theorem zWS_kw {μ : zM} {b w : Nat} {K : Nat → Nat} (h : zWS μ w) (hD : b + 2 < w ∨ w + 85 ≤ b + 2) : zWS (zkm μ b K) w := by
  refine ⟨h.1, fun o ho => ?_⟩
  have e : zen (zkm μ b K) (w + o) = zen μ (w + o) := zen_kw (by omega)
  unfold ztg zni
  rw [e]
  exact h.2 o ho
/-- the sizes of tokens are no negative numbers -/
def zSQ (Q : zFn) : Prop := ∀ j, j < 401 → ∃ z, z < 2 ^ 31 ∧ Q 4 j = nI z
theorem zSQ.tz {Q : zFn} (h : zSQ Q) : zTZ Q := by
  intro x
  unfold vsiz
  split
  · exact ⟨0, by decide, rfl⟩
  · split
    · exact ⟨0, by decide, rfl⟩
    · obtain ⟨z, h1, h2⟩ := h (zsf x 401) (zsf_lt (by decide) (by decide))
      exact ⟨z, h1, h2⟩
theorem vkp_sq {Q : zFn} {K : zKn} {i q z : Nat} {x : Int32} (h : zSQ Q) (hz : z < 2 ^ 31) : zSQ (vkp Q K i q x (nI z)).1 := by
  intro j hj
  unfold vkp
  dsimp only
  rw [zup_ne (by omega)]
  by_cases e : j = i
  · subst e
    rw [zup_same]
    exact ⟨z, hz, rfl⟩
  · rw [zup_ne (by omega), zup_ne (by omega)]
    exact h j hj
theorem vkp_K {Q : zFn} {K : zKn} {i q : Nat} {x y : Int32} (hq : q < 20) (h : ∀ j, j < i → K j < 20) : ∀ j, j < i + 1 → (vkp Q K i q x y).2 j < 20 := by
  intro j hj
  show zku K i q j < 20
  unfold zku
  split
  · exact hq
  · exact h j (by omega)
/-- what the tokens are like behind a scan -/
def zTO (R : zFn × zKn) : Prop := (∃ t, t ≤ 401 ∧ R.1 0 1 = nI t ∧ ∀ j, j < t → R.2 j < 20) ∧ zSQ R.1
theorem vkp_TO {Q : zFn} {K : zKn} {i q z : Nat} {x : Int32} (hi : i ≤ 400) (hq : q < 20) (hK : ∀ j, j < i → K j < 20) (hs : zSQ Q) (hz : z < 2 ^ 31) : zTO ((vkp Q K i q x (nI z)).1, (vkp Q K i q x (nI z)).2) :=
  ⟨⟨i + 1, by omega, vkp_tok, vkp_K hq hK⟩, vkp_sq hs hz⟩
theorem vscn_TO {n : Nat} (hn : n ≤ 2000) : ∀ (m i a q : Nat) (Q : zFn) (K : zKn), Q 0 0 = nI n → i + m = 400 → a ≤ n → q < 20 → (q ≠ 0 → a < n) → (∀ j, j < i → K j < 20) → zSQ Q → zTO (vscn n m i a q Q K)
  | 0, i, a, q, Q, K, hl, hi, ha, hq, ha5, hK, hs => by
    rw [vscn]
    dsimp only
    split
    · exact vkp_TO (z := 0) (by omega) (by decide) hK hs (by decide)
    · exact vkp_TO (z := 0) (by omega) (by decide) hK hs (by decide)
  | m + 1, i, a, q, Q, K, hl, hi, ha, hq, ha5, hK, hs => by
    rw [vscn]
    dsimp only
    by_cases h0 : q = 0
    · rw [if_pos h0, if_pos h0]
      exact vkp_TO (z := 0) (by omega) (by decide) hK hs (by decide)
    · rw [if_neg h0, if_neg h0]
      by_cases h1 : q = 1
      · rw [if_pos h1]
        exact vkp_TO (z := 0) (by omega) (by decide) hK hs (by decide)
      · rw [if_neg h1]
        have h2 := vea_ge Q (ha5 h0)
        have hsz : (nI (vea Q n a)) - (nI a) = nI (vea Q n a - a) := pk_sub (by omega)
        rw [hsz]
        have hl1 : (vkp Q K i q (nI a) (nI (vea Q n a - a))).1 0 0 = nI n := vkp_len hl
        have h3 := vbb_ge (vkp Q K i q (nI a) (nI (vea Q n a - a))).1 (n - vea Q n a) (vea Q n a)
        exact vscn_TO hn m (i + 1) _ _ _ _ hl1 (by omega) (by omega) (vka_lt _ _ _) (fun h => vka_in hl1 hn (by omega) h) (vkp_K hq hK) (vkp_sq hs (by omega))
theorem vsc_TO {Q : zFn} {K : zKn} {n : Nat} (hl : Q 0 0 = nI n) (hn : n ≤ 2000) (hs : zSQ Q) : zTO (vsc Q K n) := by
  unfold vsc
  dsimp only
  have hl1 : zup Q 0 1 (nI 0) 0 0 = nI n := by rw [zup_ne (by decide)]; exact hl
  have h3 := vbb_ge (zup Q 0 1 (nI 0)) (n - 0) 0
  have hs1 : zSQ (zup Q 0 1 (nI 0)) := fun j hj => by rw [zup_ne (by omega)]; exact hs j hj
  exact vscn_TO hn 400 0 _ _ _ _ hl1 (by omega) (by omega) (vka_lt _ _ _) (fun h => vka_in hl1 hn (by omega) h) (fun j hj => absurd hj (by omega)) hs1
theorem zrd_sw {J P Q : zFn} {r w : Nat} {V : zV} (hD : r + 9 ≤ w ∨ w + 85 ≤ r) : zpc (zrl (zfl J (r + 1) 5 Q) r P) w V = zfl (zpc (zrl J r P) w V) (r + 1) 5 Q := by
  funext a k
  unfold zpc zrl zfl
  dsimp only
  by_cases h1 : w ≤ a ∧ a < w + 85
  · rw [if_pos h1, if_neg (by omega), if_pos h1]
  · rw [if_neg h1, if_neg h1]
    by_cases h2 : a = r
    · rw [if_pos h2, if_neg (by omega), if_pos h2]
    · rw [if_neg h2, if_neg h2]
      by_cases h3 : r + 6 ≤ a ∧ a < r + 9
      · rw [if_pos h3, if_neg (by omega), if_pos h3]
      · rw [if_neg h3, if_neg h3]
theorem c_read {d r w : Nat} {P Q J : zFn} {V : zV} {K : zKn} {μ : zM} (hR : zRR μ r) (hW : zWS μ w) (hD : r + 9 ≤ w ∨ w + 85 ≤ r) (hS : zKS μ J) {n : Nat} (hl : Q 0 0 = nI n) (hn : n ≤ 2000) (hSZ : zSZ V) (hs : zSQ Q) :
    zden zcds (d + 10) 30 [.ref (r + 0), .ref w] (zwi (zkm μ (r + 1) K) (zpc (zrl (zfl J (r + 1) 5 Q) r P) w V)) = some (0, some (.int (vrd P V (vsc Q K n).1 (vsc Q K n).2).1), 0, 0, zwi (zkm μ (r + 1) (vsc Q K n).2) (zpc (zrl (zfl J (r + 1) 5 (vsc Q K n).1) r (vrd P V (vsc Q K n).1 (vsc Q K n).2).2.1) w (vrd P V (vsc Q K n).1 (vsc Q K n).2).2.2)) := by
  have hb := hR.2.2.2.2.2
  have hR1 := zRR_kw (K := K) hR
  have hz0 : zK0 ≤ r := hR.1.1
  have hzw : zK0 ≤ w := hW.1
  have hz : zK0 = 82 := rfl
  have hSJ : zKS μ (zpc (zrl J r P) w V) := zKS_cg hS (fun _ _ => rfl) (fun a k ha => by rw [zpc_out (by omega), zrl_out (by omega)])
  have hTO := vsc_TO (K := K) hl hn hs
  refine (zd_in (d := d + 9) (cd := zc30) (nL := 4) (L := [(0, .ref (r + 0)), (1, .ref w)]) rfl (Nat.le_of_ble_eq_true rfl) rfl).trans ?_
  refine (ys4 1 (v := .ref (r + 0)) rfl rfl rfl rfl).trans ?_
  refine (ygr 4 rfl (zFS.tag hR1.1 (j := 0) (by decide) rfl) rfl hR1.2.1).trans ?_
  rw [zrd_sw hD]
  refine (yc1 7 rfl rfl (Nat.le_of_ble_eq_true rfl) (Or.inr (by show ztg (zwi _ _) _ = _; rw [ztg_wi]; exact (zFS.tag (zTP_kw hb).1 (j := 0) (by decide) rfl))) rfl rfl (c_scn hb hl hn hSJ)).trans ?_
  rw [← zrd_sw hD]
  generalize vsc Q K n = R at hTO ⊢
  obtain ⟨⟨t, ht, ht1, hk⟩, hs1⟩ := hTO
  have hC : zRC (zkm μ (r + 1) R.2) r w (zfl J (r + 1) 5 R.1) R.1 R.2 := by
    refine ⟨zRR_kw hR, zWS_kw hW (by omega), hD, fun j k hj => zfl_at hj, ⟨t, ht, ht1, fun j hj => ⟨hk j hj, ?_⟩⟩, hs1.tz⟩
    rw [zgr_kw hb (by omega)]
    unfold zkf
    rw [if_pos (hk j hj)]
  exact s_rd hC hSZ
