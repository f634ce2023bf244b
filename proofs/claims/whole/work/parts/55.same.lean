/-! WHAT AN HOUR LEAVES: counts, and the numbers of carriers. -/
def zSm (V U : zV) : Prop := (∀ f, f < 4 → U 0 0 f = V 0 0 f) ∧ (∀ k j, U 7 k j = V 7 k j)
theorem zSm.rf (V : zV) : zSm V V := ⟨fun _ _ => rfl, fun _ _ => rfl⟩
theorem zSm.tr {V U T : zV} (h1 : zSm V U) (h2 : zSm U T) : zSm V T := ⟨fun f hf => (h2.1 f hf).trans (h1.1 f hf), fun k j => (h2.2 k j).trans (h1.2 k j)⟩
theorem zSm.up {V U : zV} (h : zSm V U) {q i f : Nat} {x : Int32} (h0 : q ≠ 0 ∨ 4 ≤ f) (h7 : q ≠ 7) : zSm V (zvu U q i f x) := by
  refine ⟨fun g hg => ?_, fun k j => ?_⟩
  · rw [zvu_ne (by rintro ⟨rfl, -, rfl⟩; rcases h0 with h0 | h0; exact h0 rfl; omega)]
    exact h.1 g hg
  · rw [zvu_ne (by rintro ⟨rfl, -, -⟩; exact h7 rfl)]
    exact h.2 k j
theorem zSm_move (V : zV) (i : Nat) : zSm V (vmove V i) := by
  unfold vmove
  dsimp only
  repeat' split
  all_goals repeat (first | exact zSm.rf _ | refine zSm.up ?_ (by decide) (by decide))
theorem zSm_set (V : zV) (p f h : Nat) : zSm V (vset V p f h) := by
  unfold vset
  dsimp only
  repeat (first | exact zSm.rf _ | refine zSm.up ?_ (by decide) (by decide))
theorem zSm_go (V : zV) (k : Nat) (x y : Int32) : zSm V (vgo V k x y) := by
  unfold vgo
  dsimp only
  repeat' split
  all_goals repeat (first | exact zSm.rf _ | refine zSm.up ?_ (by decide) (by decide))
theorem zSm_home (V : zV) (p : Nat) : zSm V (vhome V p) := by
  unfold vhome
  dsimp only
  split
  · refine zSm.tr ?_ (zSm_go _ _ _ _)
    repeat (first | exact zSm.rf _ | refine zSm.up ?_ (by decide) (by decide))
  · repeat (first | exact zSm.rf _ | refine zSm.up ?_ (by decide) (by decide))
theorem zSm_fly3 (V : zV) (p : Nat) : zSm V (vfly3 V p) := by
  unfold vfly3
  dsimp only
  repeat' split
  all_goals repeat (first | exact zSm.rf _ | refine zSm.up ?_ (by decide) (by decide))
theorem zSm_fly2 (V : zV) (p h : Nat) : zSm V (vfly2 V p h) := by
  unfold vfly2
  dsimp only
  repeat' split
  all_goals first | refine zSm.tr ?_ (zSm_home _ _) | refine zSm.tr ?_ (zSm_fly3 _ _)
  all_goals repeat (first | exact zSm.rf _ | refine zSm.up ?_ (by decide) (by decide))
theorem zSm_fly (V : zV) (p : Nat) : zSm V (vfly V p) := by
  unfold vfly
  dsimp only
  split
  all_goals refine zSm.tr ?_ (zSm_fly2 _ _ _)
  all_goals repeat (first | exact zSm.rf _ | refine zSm.up ?_ (by decide) (by decide))
theorem zSm_sd1 (V : zV) (k : Nat) (x : Int32) (i : Nat) : zSm V (vsd1 V k x i) := by
  unfold vsd1
  dsimp only
  split
  · exact zSm.rf _
  · refine zSm.up (zSm.up (zSm.up (zSm.up (zSm_set _ _ _ _) (by decide) (by decide)) (by decide) (by decide)) (by decide) (by decide)) (by decide) (by decide)
theorem zSm_sdL (k : Nat) (x : Int32) : ∀ (m i : Nat) (V : zV), zSm V (vsdL k x m i V)
  | 0, _, V => zSm.rf V
  | m + 1, i, V => (zSm_sd1 V k x i).tr (zSm_sdL k x m (i + 1) _)
theorem zSm_prey (V : zV) (h : Nat) (b : Int32) : zSm V (vprey V h b) := by
  unfold vprey
  dsimp only
  split
  all_goals repeat (first | exact zSm.rf _ | refine zSm.up ?_ (by decide) (by decide))
theorem zSm_huntL (V : zV) (h : Nat) : ∀ (m i : Nat) (a b : Int32), zSm V (vhuntL V h m i a b)
  | 0, _, _, b => zSm_prey V h b
  | m + 1, i, a, b => by
    rw [vhuntL]
    repeat' split
    all_goals exact zSm_huntL V h m _ _ _
theorem zSm_hunt (V : zV) (h n : Nat) : zSm V (vhunt V h n) := by
  unfold vhunt
  split
  · exact zSm_huntL V h _ _ _ _
  · exact zSm.up (zSm.rf _) (by decide) (by decide)
/-- counts within bounds, numbers of carriers within bounds -/
def zWF (V : zV) (nl np nh nk : Nat) : Prop := V 0 0 0 = nI nl ∧ nl ≤ 6 ∧ V 0 0 1 = nI np ∧ np ≤ 20 ∧ V 0 0 2 = nI nh ∧ nh ≤ 6 ∧ V 0 0 3 = nI nk ∧ nk ≤ 12 ∧ ∀ k, k < nk → ∀ j, j < 6 → ∃ n, n ≤ 20 ∧ V 7 k j = nI n
theorem zWF.sm {V U : zV} {nl np nh nk : Nat} (h : zWF V nl np nh nk) (hs : zSm V U) : zWF U nl np nh nk := by
  obtain ⟨h1, h2, h3, h4, h5, h6, h7, h8, h9⟩ := h
  refine ⟨by rw [hs.1 0 (by decide), h1], h2, by rw [hs.1 1 (by decide), h3], h4, by rw [hs.1 2 (by decide), h5], h6, by rw [hs.1 3 (by decide), h7], h8, fun k hk j hj => ?_⟩
  obtain ⟨n, hn, e⟩ := h9 k hk j hj
  exact ⟨n, hn, by rw [hs.2, e]⟩
/-- the number of a letter's carriers in its stage -/
def vN (V : zV) (k : Nat) : Nat := (vsize V k (V 4 k 2)).toNatClampNeg
theorem zWF.size {V : zV} {nl np nh nk : Nat} (h : zWF V nl np nh nk) {k : Nat} (hk : k < nk) (x : Int32) : ∃ n, n ≤ 20 ∧ vsize V k x = nI n := by
  unfold vsize
  split
  · exact ⟨0, by decide, rfl⟩
  · split
    · exact ⟨0, by decide, rfl⟩
    · exact h.2.2.2.2.2.2.2.2 k hk _ (zsf_lt (by decide) (by decide))
theorem zWF_vN {V : zV} {nl np nh nk : Nat} (h : zWF V nl np nh nk) {k : Nat} (hk : k < nk) : vsize V k (V 4 k 2) = nI (vN V k) ∧ vN V k ≤ 20 := by
  obtain ⟨n, hn, e⟩ := h.size hk (V 4 k 2)
  unfold vN
  rw [e, nI_clamp (by omega)]
  exact ⟨rfl, hn⟩
