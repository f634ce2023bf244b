/-! CLASS AND REFERENCE SIDE BY SIDE: what no hour changes (zqT), the relation of what changes (zqR). g: a hawk that is left out (as the class takes it away, as the reference leaves it out). -/
theorem zq_sub : ∀ a, a < 64 → ∀ e, e < 21 → nI a - nI e < nI 64 := by decide +kernel
theorem zq_near {x y b : Int32} (hx : zix x 64) (hy : zix y 64) (hb : zix b 21) : zix (znear x y b) 64 := by
  obtain ⟨a, ha, rfl⟩ := hx.ex (by decide)
  obtain ⟨c, hc, rfl⟩ := hy.ex (by decide)
  obtain ⟨e, he, rfl⟩ := hb.ex (by decide)
  unfold znear
  split
  · unfold zmin
    rw [nI_add]
    split
    · exact hy
    · rename_i h1 h2
      exact ⟨nI_pos' (by omega), Int32.lt_of_le_of_lt (i_le h2) hy.2⟩
  · unfold zmax
    split
    · exact hy
    · rename_i h1 h2
      exact ⟨Int32.le_trans hy.1 (i_le h2), zq_sub a ha e he⟩
theorem rnr_near (a b e : Int32) : rnr a b e = znear a b e := by
  unfold rnr znear
  by_cases h : b ≤ a
  · rw [if_pos h, if_neg (i_nlt h), zmax_comm]
  · rw [if_neg h, if_pos (i_lt h), zmin_comm]
theorem zq_abs : ∀ a, a < 64 → ∀ b, b < 64 → 0 ≤ zabs (nI a - nI b) ∧ (zabs (nI a - nI b) = 0 ↔ a = b) := by decide +kernel
theorem zq_max0 {p q : Int32} (hp : 0 ≤ p) (hq : 0 ≤ q) : 0 ≤ zmax p q ∧ (zmax p q = 0 ↔ p = 0 ∧ q = 0) := by
  unfold zmax
  split
  · rename_i h
    refine ⟨hq, fun e => ?_, fun e => e.2⟩
    subst e
    exact absurd h (i_nlt hp)
  · rename_i h
    exact ⟨hp, fun e => ⟨e, by subst e; exact Int32.le_antisymm (i_le h) hq⟩, fun e => e.1⟩
theorem zq_dst {x y u v : Int32} (hx : zix x 64) (hy : zix y 64) (hu : zix u 64) (hv : zix v 64) : 0 ≤ zdst x y u v ∧ (zdst x y u v = 0 ↔ x = u ∧ y = v) := by
  obtain ⟨a, ha, rfl⟩ := hx.ex (by decide)
  obtain ⟨b, hb, rfl⟩ := hy.ex (by decide)
  obtain ⟨c, hc, rfl⟩ := hu.ex (by decide)
  obtain ⟨e, he, rfl⟩ := hv.ex (by decide)
  have h1 := zq_abs a ha c hc
  have h2 := zq_abs b hb e he
  have h3 := zq_max0 h1.1 h2.1
  unfold zdst
  refine ⟨h3.1, h3.2.trans ⟨fun h => ⟨by rw [h1.2.mp h.1], by rw [h2.2.mp h.2]⟩, fun h => ⟨h1.2.mpr ((nI_eq (by omega) (by omega)).mp h.1), h2.2.mpr ((nI_eq (by omega) (by omega)).mp h.2)⟩⟩⟩
/-- what no hour changes -/
def zqs (q f : Nat) : Bool := (q == 0 && decide (f < 4)) || (q == 1 && (f == 0 || f == 3)) || (q == 2 && (f == 1 || f == 3 || f == 4)) || (q == 3 && (f == 2 || f == 3)) || (q == 4 && f == 0) || decide (5 ≤ q)
def zqS (V U : zV) : Prop := ∀ q i f, zqs q f = true → U q i f = V q i f
theorem zqS.rf (V : zV) : zqS V V := fun _ _ _ _ => rfl
theorem zqS.tr {V U W : zV} (h1 : zqS V U) (h2 : zqS U W) : zqS V W := fun q i f h => (h2 q i f h).trans (h1 q i f h)
theorem zqS.up {V U : zV} (h : zqS V U) {q i f : Nat} {x : Int32} (h0 : zqs q f = false) : zqS V (zvu U q i f x) := by
  intro q' i' f' h'
  rw [zvu_ne (by rintro ⟨rfl, -, rfl⟩; rw [h0] at h'; cases h')]
  exact h q' i' f' h'
theorem zqS_move (V : zV) (i : Nat) : zqS V (vmove V i) := by
  unfold vmove
  dsimp only
  repeat' split
  all_goals repeat (first | exact zqS.rf _ | refine zqS.up ?_ rfl)
theorem zqS_set (V : zV) (p f h : Nat) : zqS V (vset V p f h) := by
  unfold vset
  dsimp only
  repeat (first | exact zqS.rf _ | refine zqS.up ?_ rfl)
theorem zqS_go (V : zV) (k : Nat) (x y : Int32) : zqS V (vgo V k x y) := by
  unfold vgo
  dsimp only
  repeat' split
  all_goals repeat (first | exact zqS.rf _ | refine zqS.up ?_ rfl)
theorem zqS_home (V : zV) (p : Nat) : zqS V (vhome V p) := by
  unfold vhome
  dsimp only
  split
  · refine zqS.tr ?_ (zqS_go _ _ _ _)
    repeat (first | exact zqS.rf _ | refine zqS.up ?_ rfl)
  · repeat (first | exact zqS.rf _ | refine zqS.up ?_ rfl)
theorem zqS_fly3 (V : zV) (p : Nat) : zqS V (vfly3 V p) := by
  unfold vfly3
  dsimp only
  repeat' split
  all_goals repeat (first | exact zqS.rf _ | refine zqS.up ?_ rfl)
theorem zqS_fly2 (V : zV) (p h : Nat) : zqS V (vfly2 V p h) := by
  unfold vfly2
  dsimp only
  repeat' split
  all_goals first | refine zqS.tr ?_ (zqS_home _ _) | refine zqS.tr ?_ (zqS_fly3 _ _)
  all_goals repeat (first | exact zqS.rf _ | refine zqS.up ?_ rfl)
theorem zqS_fly (V : zV) (p : Nat) : zqS V (vfly V p) := by
  unfold vfly
  dsimp only
  split
  all_goals refine zqS.tr ?_ (zqS_fly2 _ _ _)
  all_goals repeat (first | exact zqS.rf _ | refine zqS.up ?_ rfl)
theorem zqS_sd1 (V : zV) (k : Nat) (x : Int32) (i : Nat) : zqS V (vsd1 V k x i) := by
  unfold vsd1
  dsimp only
  split
  · exact zqS.rf _
  · exact zqS.up (zqS.up (zqS.up (zqS.up (zqS_set _ _ _ _) rfl) rfl) rfl) rfl
theorem zqS_prey (V : zV) (h : Nat) (b : Int32) : zqS V (vprey V h b) := by
  unfold vprey
  dsimp only
  split
  all_goals repeat (first | exact zqS.rf _ | refine zqS.up ?_ rfl)
/-- what a text tells, on both sides -/
def zqT (V : zV) (T : zFn) (nl np nh nk g : Nat) : Prop :=
  zTN T nl np nh nk ∧ (V 0 0 0 = nI nl ∧ V 0 0 1 = nI np ∧ V 0 0 2 = nI nh ∧ V 0 0 3 = nI nk)
  ∧ (∀ i, i < nl → ∃ n, 1 ≤ n ∧ n ≤ 6 ∧ T 1 i = nI n ∧ V 1 i 0 = nI n ∧ V 1 i 3 = T 4 i ∧ zix (T 4 i) 21 ∧ ∀ j, j < n → V 5 i j = T 2 (6 * i + j) ∧ V 6 i j = T 3 (6 * i + j) ∧ zix (T 2 (6 * i + j)) 64 ∧ zix (T 3 (6 * i + j)) 64)
  ∧ (∀ p, p < np → V 2 p 1 = T 5 p ∧ V 2 p 3 = T 7 p ∧ V 2 p 4 = T 8 p ∧ zix (T 5 p) nl ∧ zix (T 7 p) 21 ∧ zix (T 8 p) 21)
  ∧ (∀ h, h < nh → (h ≠ g → V 3 h 2 = T 11 h ∧ V 3 h 3 = T 12 h) ∧ (h = g → V 3 h 2 = -1))
  ∧ (∀ k, k < nk → ∃ n, n ≤ 6 ∧ T 14 k = nI n ∧ V 4 k 0 = nI n ∧ ∀ j, j < n → ∃ z, z ≤ 20 ∧ T 15 (6 * k + j) = nI z ∧ V 7 k j = nI z ∧ ∀ i, i < z → V 8 k (20 * j + i) = T 16 (120 * k + 20 * j + i) ∧ zix (T 16 (120 * k + 20 * j + i)) np)
theorem zqT.st {V U : zV} {T : zFn} {nl np nh nk g : Nat} (h : zqT V T nl np nh nk g) (hS : zqS V U) : zqT U T nl np nh nk g := by
  obtain ⟨h1, h2, h3, h4, h5, h6⟩ := h
  refine ⟨h1, ?_, fun i hi => ?_, fun p hp => ?_, fun k hk => ?_, fun k hk => ?_⟩
  · rw [hS 0 0 0 rfl, hS 0 0 1 rfl, hS 0 0 2 rfl, hS 0 0 3 rfl]; exact h2
  · obtain ⟨n, a, b, c, e, f, m, j⟩ := h3 i hi
    refine ⟨n, a, b, c, by rw [hS 1 i 0 rfl, e], by rw [hS 1 i 3 rfl, f], m, fun q hq => ?_⟩
    rw [hS 5 i q (by simp [zqs]), hS 6 i q (by simp [zqs])]; exact j q hq
  · rw [hS 2 p 1 rfl, hS 2 p 3 rfl, hS 2 p 4 rfl]; exact h4 p hp
  · rw [hS 3 k 2 rfl, hS 3 k 3 rfl]; exact h5 k hk
  · obtain ⟨n, a, b, c, e⟩ := h6 k hk
    refine ⟨n, a, b, by rw [hS 4 k 0 rfl, c], fun j hj => ?_⟩
    obtain ⟨z, u, v, w, t⟩ := e j hj
    refine ⟨z, u, v, by rw [hS 7 k j (by simp [zqs]), w], fun i hi => ?_⟩
    rw [hS 8 k (20 * j + i) (by simp [zqs])]; exact t i hi
def zqL (V : zV) (T S : zFn) (i : Nat) : Prop := V 1 i 1 = S 1 i ∧ V 1 i 2 = S 2 i ∧ V 1 i 4 = S 3 i ∧ zix (S 1 i) 64 ∧ zix (S 2 i) 64 ∧ 0 ≤ S 3 i ∧ S 3 i < T 1 i
def zqA (V : zV) (T S : zFn) (nk p : Nat) : Prop := V 2 p 7 = S 8 p ∧ V 2 p 8 = S 9 p ∧ zix (S 8 p) 64 ∧ zix (S 9 p) 64 ∧ V 2 p 9 = S 10 p ∧ zix (S 10 p) 25 ∧ V 2 p 10 = S 11 p ∧ V 2 p 11 = S 12 p ∧ zix (S 11 p) nk ∧ S 12 p < T 14 (zsf (S 11 p) 12)
def zqX (V : zV) (S : zFn) (p : Nat) : Prop := V 2 p 5 = S 6 p ∧ V 2 p 6 = S 7 p ∧ zix (S 6 p) 64 ∧ zix (S 7 p) 64
/-- g = 7: a world in which pigeons may be gone out of their cages (where they are gone is then nobody's matter) -/
def zqP (V : zV) (T S : zFn) (nl nk g p : Nat) : Prop := V 2 p 0 = S 4 p ∧ V 2 p 2 = S 5 p ∧ zix (S 5 p) nl ∧ (S 4 p = 1 ∨ (g ≠ 7 ∧ S 4 p ≠ 0) → zqX V S p) ∧ (S 4 p = 1 → zqA V T S nk p)
def zqH (V : zV) (S : zFn) (g h : Nat) : Prop := V 3 h 0 = S 13 h ∧ V 3 h 1 = S 14 h ∧ zix (S 13 h) 64 ∧ zix (S 14 h) 64 ∧ (h ≠ g → V 3 h 4 = S 15 h ∧ V 3 h 5 = S 16 h)
def zqK (V : zV) (T S : zFn) (nl k : Nat) : Prop := V 4 k 1 = S 17 k ∧ V 4 k 2 = S 18 k ∧ V 4 k 3 = S 21 k ∧ V 4 k 4 = S 19 k ∧ V 4 k 5 = S 20 k ∧ zix (S 17 k) nl ∧ 0 ≤ S 18 k ∧ S 18 k ≤ T 14 k
def zqO (V : zV) (S : zFn) (nh g : Nat) : Prop := V 0 0 4 = S 0 0 ∧ V 0 0 5 = S 0 1 ∧ ∀ h, h < nh → (nI h = S 0 2 ↔ h = g)
def zqR (V : zV) (T S : zFn) (nl np nh nk g : Nat) : Prop := zqT V T nl np nh nk g ∧ zqO V S nh g ∧ (∀ i, i < nl → zqL V T S i) ∧ (∀ p, p < np → zqP V T S nl nk g p) ∧ (∀ h, h < nh → zqH V S g h) ∧ ∀ k, k < nk → zqK V T S nl k
/-! ===== Int32 by its bits: bt x i ===== -/
def bt (x : Int32) (i : Nat) : Bool := x.toBitVec.getLsbD i
theorem b_ext {x y : Int32} (h : ∀ i, i < 32 → bt x i = bt y i) : x = y := Int32.toBitVec_inj.mp (BitVec.eq_of_getLsbD_eq (fun i hi => h i hi))
theorem b_or (x y : Int32) (i : Nat) : bt (x ||| y) i = (bt x i || bt y i) := by unfold bt; rw [Int32.toBitVec_or, BitVec.getLsbD_or]
theorem b_and (x y : Int32) (i : Nat) : bt (x &&& y) i = (bt x i && bt y i) := by unfold bt; rw [Int32.toBitVec_and, BitVec.getLsbD_and]
theorem b_xor (x y : Int32) (i : Nat) : bt (x ^^^ y) i = (bt x i ^^ bt y i) := by unfold bt; rw [Int32.toBitVec_xor, BitVec.getLsbD_xor]
theorem b_big {x : Int32} {i : Nat} (h : 32 ≤ i) : bt x i = false := BitVec.getLsbD_of_ge _ _ h
theorem b_255 (i : Nat) : bt 255 i = decide (i < 8) := by
  rcases Nat.lt_or_ge i 32 with h | h
  · exact (by decide +kernel : ∀ i, i < 32 → bt 255 i = decide (i < 8)) i h
  · rw [b_big h, decide_eq_false (by omega)]
theorem b_65535 (i : Nat) : bt 65535 i = decide (i < 16) := by
  rcases Nat.lt_or_ge i 32 with h | h
  · exact (by decide +kernel : ∀ i, i < 32 → bt 65535 i = decide (i < 16)) i h
  · rw [b_big h, decide_eq_false (by omega)]
theorem b_m1 : ∀ i, i < 32 → bt (-1) i = true := by decide +kernel
theorem b_0 (i : Nat) : bt 0 i = false := BitVec.getLsbD_zero
theorem s_l : ∀ n, n < 32 → ((nI n &&& 31).toBitVec.smod 32).toNat = n := by decide +kernel
theorem s_u : ∀ n, n < 32 → (((nI n).toUInt32 &&& Int32.toUInt32 31).toBitVec % 32).toNat = n := by decide +kernel
theorem b_shl (n : Nat) (hn : n < 32) (x : Int32) {i : Nat} (hi : i < 32) : bt (x <<< (nI n &&& 31)) i = (decide (n ≤ i) && bt x (i - n)) := by
  unfold bt
  rw [Int32.toBitVec_shiftLeft]
  show (x.toBitVec <<< ((nI n &&& 31).toBitVec.smod 32).toNat).getLsbD i = _
  rw [s_l n hn, BitVec.getLsbD_shiftLeft]
  rcases Nat.lt_or_ge i n with h | h
  · simp [h, Nat.not_le.mpr h]
  · simp [hi, h, Nat.not_lt.mpr h]
theorem b_ushr (n : Nat) (hn : n < 32) (x : Int32) (i : Nat) : bt ((x.toUInt32 >>> ((nI n).toUInt32 &&& Int32.toUInt32 31)).toInt32) i = bt x (n + i) := by
  show (x.toUInt32 >>> ((nI n).toUInt32 &&& Int32.toUInt32 31)).toBitVec.getLsbD i = x.toUInt32.toBitVec.getLsbD (n + i)
  rw [UInt32.toBitVec_shiftRight]
  show (x.toUInt32.toBitVec >>> (((nI n).toUInt32 &&& Int32.toUInt32 31).toBitVec % 32).toNat).getLsbD i = _
  rw [s_u n hn, BitVec.getLsbD_ushiftRight]
theorem b_sshr (n : Nat) (hn : n < 32) (x : Int32) {i : Nat} (hi : i < 32) : bt (x >>> (nI n &&& 31)) i = if n + i < 32 then bt x (n + i) else bt x 31 := by
  unfold bt
  rw [Int32.toBitVec_shiftRight]
  show (x.toBitVec.sshiftRight ((nI n &&& 31).toBitVec.smod 32).toNat).getLsbD i = _
  rw [s_l n hn, BitVec.getLsbD_sshiftRight, BitVec.msb_eq_getLsbD_last]
  simp [hi]

/-! a part of a world alone changes -/
def zqN (q0 i0 : Nat) (V U : zV) : Prop := ∀ q i f, ¬ (q = q0 ∧ i = i0) → U q i f = V q i f
theorem zqN.rf {q0 i0 : Nat} {V : zV} : zqN q0 i0 V V := fun _ _ _ _ => rfl
theorem zqN.tr {q0 i0 : Nat} {V U W : zV} (h1 : zqN q0 i0 V U) (h2 : zqN q0 i0 U W) : zqN q0 i0 V W := fun q i f h => (h2 q i f h).trans (h1 q i f h)
theorem zqN.up {q0 i0 : Nat} {V U : zV} (h : zqN q0 i0 V U) {f : Nat} {x : Int32} : zqN q0 i0 V (zvu U q0 i0 f x) := by
  intro q' i' f' h'
  rw [zvu_ne (by rintro ⟨rfl, rfl, -⟩; exact h' ⟨rfl, rfl⟩)]
  exact h q' i' f' h'
def zqM (lo hi i0 : Nat) (S Z : zFn) : Prop := ∀ j i, ¬ (lo ≤ j ∧ j ≤ hi ∧ i = i0) → Z j i = S j i
theorem zqM.rf {lo hi i0 : Nat} {S : zFn} : zqM lo hi i0 S S := fun _ _ _ => rfl
theorem zqM.tr {lo hi i0 : Nat} {S Z Y : zFn} (h1 : zqM lo hi i0 S Z) (h2 : zqM lo hi i0 Z Y) : zqM lo hi i0 S Y := fun j i h => (h2 j i h).trans (h1 j i h)
theorem zqM.up {lo hi i0 : Nat} {S Z : zFn} (h : zqM lo hi i0 S Z) {j : Nat} {x : Int32} (h1 : lo ≤ j) (h2 : j ≤ hi) : zqM lo hi i0 S (zup Z j i0 x) := by
  intro j' i' h'
  rw [zup_ne' (by omega)]
  exact h j' i' h'
section ZQR
variable {V U : zV} {T S Z : zFn} {nl np nh nk g : Nat}
theorem zqR.lof (hR : zqR V T S nl np nh nk g) {i : Nat} (hS : zqS V U) (hV : zqN 1 i V U) (hZ : zqM 1 3 i S Z) (h : zqL U T Z i) : zqR U T Z nl np nh nk g := by
  obtain ⟨hT, hO, hL, hP, hH, hK⟩ := hR
  refine ⟨hT.st hS, ?_, fun q hq => ?_, fun q hq => ?_, fun q hq => ?_, fun q hq => ?_⟩
  · unfold zqO
    rw [hV 0 0 4 (by omega), hV 0 0 5 (by omega), hZ 0 0 (by omega), hZ 0 1 (by omega), hZ 0 2 (by omega)]; exact hO
  · by_cases e : q = i
    · subst e; exact h
    · unfold zqL
      rw [hV 1 q 1 (by omega), hV 1 q 2 (by omega), hV 1 q 4 (by omega), hZ 1 q (by omega), hZ 2 q (by omega), hZ 3 q (by omega)]; exact hL q hq
  · unfold zqP zqX zqA
    rw [hV 2 q 0 (by omega), hV 2 q 2 (by omega), hV 2 q 5 (by omega), hV 2 q 6 (by omega), hV 2 q 7 (by omega), hV 2 q 8 (by omega), hV 2 q 9 (by omega), hV 2 q 10 (by omega), hV 2 q 11 (by omega), hZ 4 q (by omega), hZ 5 q (by omega), hZ 6 q (by omega), hZ 7 q (by omega), hZ 8 q (by omega), hZ 9 q (by omega), hZ 10 q (by omega), hZ 11 q (by omega), hZ 12 q (by omega)]; exact hP q hq
  · unfold zqH
    rw [hV 3 q 0 (by omega), hV 3 q 1 (by omega), hV 3 q 4 (by omega), hV 3 q 5 (by omega), hZ 13 q (by omega), hZ 14 q (by omega), hZ 15 q (by omega), hZ 16 q (by omega)]; exact hH q hq
  · unfold zqK
    rw [hV 4 q 1 (by omega), hV 4 q 2 (by omega), hV 4 q 3 (by omega), hV 4 q 4 (by omega), hV 4 q 5 (by omega), hZ 17 q (by omega), hZ 18 q (by omega), hZ 19 q (by omega), hZ 20 q (by omega), hZ 21 q (by omega)]; exact hK q hq
theorem zqR.pig (hR : zqR V T S nl np nh nk g) {i : Nat} (hS : zqS V U) (hV : zqN 2 i V U) (hZ : zqM 4 12 i S Z) (h : zqP U T Z nl nk g i) : zqR U T Z nl np nh nk g := by
  obtain ⟨hT, hO, hL, hP, hH, hK⟩ := hR
  refine ⟨hT.st hS, ?_, fun q hq => ?_, fun q hq => ?_, fun q hq => ?_, fun q hq => ?_⟩
  · unfold zqO
    rw [hV 0 0 4 (by omega), hV 0 0 5 (by omega), hZ 0 0 (by omega), hZ 0 1 (by omega), hZ 0 2 (by omega)]; exact hO
  · unfold zqL
    rw [hV 1 q 1 (by omega), hV 1 q 2 (by omega), hV 1 q 4 (by omega), hZ 1 q (by omega), hZ 2 q (by omega), hZ 3 q (by omega)]; exact hL q hq
  · by_cases e : q = i
    · subst e; exact h
    · unfold zqP zqX zqA
      rw [hV 2 q 0 (by omega), hV 2 q 2 (by omega), hV 2 q 5 (by omega), hV 2 q 6 (by omega), hV 2 q 7 (by omega), hV 2 q 8 (by omega), hV 2 q 9 (by omega), hV 2 q 10 (by omega), hV 2 q 11 (by omega), hZ 4 q (by omega), hZ 5 q (by omega), hZ 6 q (by omega), hZ 7 q (by omega), hZ 8 q (by omega), hZ 9 q (by omega), hZ 10 q (by omega), hZ 11 q (by omega), hZ 12 q (by omega)]; exact hP q hq
  · unfold zqH
    rw [hV 3 q 0 (by omega), hV 3 q 1 (by omega), hV 3 q 4 (by omega), hV 3 q 5 (by omega), hZ 13 q (by omega), hZ 14 q (by omega), hZ 15 q (by omega), hZ 16 q (by omega)]; exact hH q hq
  · unfold zqK
    rw [hV 4 q 1 (by omega), hV 4 q 2 (by omega), hV 4 q 3 (by omega), hV 4 q 4 (by omega), hV 4 q 5 (by omega), hZ 17 q (by omega), hZ 18 q (by omega), hZ 19 q (by omega), hZ 20 q (by omega), hZ 21 q (by omega)]; exact hK q hq
theorem zqR.hwk (hR : zqR V T S nl np nh nk g) {i : Nat} (hS : zqS V U) (hV : zqN 3 i V U) (hZ : zqM 13 16 i S Z) (h : zqH U Z g i) : zqR U T Z nl np nh nk g := by
  obtain ⟨hT, hO, hL, hP, hH, hK⟩ := hR
  refine ⟨hT.st hS, ?_, fun q hq => ?_, fun q hq => ?_, fun q hq => ?_, fun q hq => ?_⟩
  · unfold zqO
    rw [hV 0 0 4 (by omega), hV 0 0 5 (by omega), hZ 0 0 (by omega), hZ 0 1 (by omega), hZ 0 2 (by omega)]; exact hO
  · unfold zqL
    rw [hV 1 q 1 (by omega), hV 1 q 2 (by omega), hV 1 q 4 (by omega), hZ 1 q (by omega), hZ 2 q (by omega), hZ 3 q (by omega)]; exact hL q hq
  · unfold zqP zqX zqA
    rw [hV 2 q 0 (by omega), hV 2 q 2 (by omega), hV 2 q 5 (by omega), hV 2 q 6 (by omega), hV 2 q 7 (by omega), hV 2 q 8 (by omega), hV 2 q 9 (by omega), hV 2 q 10 (by omega), hV 2 q 11 (by omega), hZ 4 q (by omega), hZ 5 q (by omega), hZ 6 q (by omega), hZ 7 q (by omega), hZ 8 q (by omega), hZ 9 q (by omega), hZ 10 q (by omega), hZ 11 q (by omega), hZ 12 q (by omega)]; exact hP q hq
  · by_cases e : q = i
    · subst e; exact h
    · unfold zqH
      rw [hV 3 q 0 (by omega), hV 3 q 1 (by omega), hV 3 q 4 (by omega), hV 3 q 5 (by omega), hZ 13 q (by omega), hZ 14 q (by omega), hZ 15 q (by omega), hZ 16 q (by omega)]; exact hH q hq
  · unfold zqK
    rw [hV 4 q 1 (by omega), hV 4 q 2 (by omega), hV 4 q 3 (by omega), hV 4 q 4 (by omega), hV 4 q 5 (by omega), hZ 17 q (by omega), hZ 18 q (by omega), hZ 19 q (by omega), hZ 20 q (by omega), hZ 21 q (by omega)]; exact hK q hq
theorem zqR.lett (hR : zqR V T S nl np nh nk g) {i : Nat} (hS : zqS V U) (hV : zqN 4 i V U) (hZ : zqM 17 21 i S Z) (h : zqK U T Z nl i) : zqR U T Z nl np nh nk g := by
  obtain ⟨hT, hO, hL, hP, hH, hK⟩ := hR
  refine ⟨hT.st hS, ?_, fun q hq => ?_, fun q hq => ?_, fun q hq => ?_, fun q hq => ?_⟩
  · unfold zqO
    rw [hV 0 0 4 (by omega), hV 0 0 5 (by omega), hZ 0 0 (by omega), hZ 0 1 (by omega), hZ 0 2 (by omega)]; exact hO
  · unfold zqL
    rw [hV 1 q 1 (by omega), hV 1 q 2 (by omega), hV 1 q 4 (by omega), hZ 1 q (by omega), hZ 2 q (by omega), hZ 3 q (by omega)]; exact hL q hq
  · unfold zqP zqX zqA
    rw [hV 2 q 0 (by omega), hV 2 q 2 (by omega), hV 2 q 5 (by omega), hV 2 q 6 (by omega), hV 2 q 7 (by omega), hV 2 q 8 (by omega), hV 2 q 9 (by omega), hV 2 q 10 (by omega), hV 2 q 11 (by omega), hZ 4 q (by omega), hZ 5 q (by omega), hZ 6 q (by omega), hZ 7 q (by omega), hZ 8 q (by omega), hZ 9 q (by omega), hZ 10 q (by omega), hZ 11 q (by omega), hZ 12 q (by omega)]; exact hP q hq
  · unfold zqH
    rw [hV 3 q 0 (by omega), hV 3 q 1 (by omega), hV 3 q 4 (by omega), hV 3 q 5 (by omega), hZ 13 q (by omega), hZ 14 q (by omega), hZ 15 q (by omega), hZ 16 q (by omega)]; exact hH q hq
  · by_cases e : q = i
    · subst e; exact h
    · unfold zqK
      rw [hV 4 q 1 (by omega), hV 4 q 2 (by omega), hV 4 q 3 (by omega), hV 4 q 4 (by omega), hV 4 q 5 (by omega), hZ 17 q (by omega), hZ 18 q (by omega), hZ 19 q (by omega), hZ 20 q (by omega), hZ 21 q (by omega)]; exact hK q hq
/-- the world's own ints -/
theorem zqR.own (hR : zqR V T S nl np nh nk g) {f c : Nat} {x y : Int32} (hf : f = 4 ∧ c = 0 ∨ f = 5 ∧ c = 1) (h : x = y) : zqR (zvu V 0 0 f x) T (zup S 0 c y) nl np nh nk g := by
  obtain ⟨hT, hO, hL, hP, hH, hK⟩ := hR
  subst h
  refine ⟨hT.st (zqS.up (zqS.rf _) (by rcases hf with h | h <;> (obtain ⟨rfl, -⟩ := h; rfl))), ?_, fun q hq => by simpa [zqL, zvu, zup] using hL q hq, fun q hq => by simpa [zqP, zqX, zqA, zvu, zup] using hP q hq, fun q hq => by simpa [zqH, zvu, zup] using hH q hq, fun q hq => by simpa [zqK, zvu, zup] using hK q hq⟩
  rcases hf with h | h
  · obtain ⟨rfl, rfl⟩ := h
    exact ⟨by simp [zvu, zup], by simpa [zvu, zup] using hO.2.1, by simpa [zup] using hO.2.2⟩
  · obtain ⟨rfl, rfl⟩ := h
    exact ⟨by simpa [zvu, zup] using hO.1, by simp [zvu, zup], by simpa [zup] using hO.2.2⟩
end ZQR
/-! a loft -/
theorem zq_next : ∀ n, n < 7 → 2 ≤ n → ∀ j, j < n → (if nI n ≤ nI j + 1 then (0 : Int32) else nI j + 1) = nI (j + 1) - nI (j + 1) / nI n * nI n ∧ 0 ≤ nI (j + 1) - nI (j + 1) / nI n * nI n ∧ nI (j + 1) - nI (j + 1) / nI n * nI n < nI n := by decide +kernel
def zqD (V : zV) (T : zFn) (i : Nat) : Prop := ∃ n, 1 ≤ n ∧ n ≤ 6 ∧ T 1 i = nI n ∧ V 1 i 0 = nI n ∧ V 1 i 3 = T 4 i ∧ zix (T 4 i) 21 ∧ ∀ j, j < n → V 5 i j = T 2 (6 * i + j) ∧ V 6 i j = T 3 (6 * i + j) ∧ zix (T 2 (6 * i + j)) 64 ∧ zix (T 3 (6 * i + j)) 64
theorem zq_mv1 {V : zV} {T S : zFn} {i : Nat} (hD : zqD V T i) (hL : zqL V T S i) : zqL (vmove V i) T (rgl S T i) i := by
  obtain ⟨n, n1, n6, eT, eV, e3, e4, hsp⟩ := hD
  have hL' := hL
  obtain ⟨l1, l2, l3, l4, l5, l6, l7⟩ := hL
  rw [eT] at l7
  obtain ⟨j, hj, ej⟩ := zix.ex ⟨l6, l7⟩ (show n < 2 ^ 31 by omega)
  have hz6 : zsf (nI j) 6 = j := zsf_nI (by omega) (by decide)
  obtain ⟨p1, p2, p3, p4⟩ := hsp j hj
  unfold vmove rgl
  rw [eT, eV]
  by_cases h2 : (2 : Int32) ≤ nI n
  · rw [if_pos h2, if_pos h2]
    have hn2 : 2 ≤ n := by
      rcases Nat.lt_or_ge n 2 with h | h
      · exact absurd h2 (nI_ge (b := 2) h (by decide))
      · exact h
    obtain ⟨m1, m2, m3⟩ := zq_next n (by omega) hn2 j hj
    dsimp only
    have b1 := zq_near l4 p3 e4
    have b2 := zq_near l5 p4 e4
    simp only [rnr_near]
    rw [l3, ej, hz6, p1, p2, l1, e3]
    generalize znear (S 1 i) (T 2 (6 * i + j)) (T 4 i) = x at b1 ⊢
    have c1 : zvu V 1 i 1 x 1 i 2 = S 2 i := by simp [zvu, l2]
    have c2 : zvu V 1 i 1 x 1 i 3 = T 4 i := by simp [zvu, e3]
    have c3 : zup S 1 i x 2 i = S 2 i := by simp [zup]
    rw [c1, c2, c3]
    generalize znear (S 2 i) (T 3 (6 * i + j)) (T 4 i) = y at b2 ⊢
    have d1 : zvu (zvu V 1 i 1 x) 1 i 2 y 1 i 1 = x := by simp [zvu]
    have d2 : zvu (zvu V 1 i 1 x) 1 i 2 y 1 i 2 = y := by simp [zvu]
    have d3 : zvu (zvu V 1 i 1 x) 1 i 2 y 1 i 0 = nI n := by simp [zvu, eV]
    have d4 : zvu (zvu V 1 i 1 x) 1 i 2 y 1 i 4 = nI j := by simp [zvu, l3, ej]
    have d5 : zup (zup S 1 i x) 2 i y 1 i = x := by simp [zup]
    have d6 : zup (zup S 1 i x) 2 i y 2 i = y := by simp [zup]
    have d7 : zup (zup S 1 i x) 2 i y 3 i = nI j := by simp [zup, ej]
    rw [d1, d2, d3, d4, d5, d6, d7, hz6]
    have h0 : zqL (zvu (zvu V 1 i 1 x) 1 i 2 y) T (zup (zup S 1 i x) 2 i y) i := by
      refine ⟨d1.trans d5.symm, d2.trans d6.symm, d4.trans d7.symm, by rw [d5]; exact b1, by rw [d6]; exact b2, by rw [d7]; exact nI_pos' (by omega), by rw [d7, eT]; exact nI_lt hj (by omega)⟩
    by_cases h3 : x = T 2 (6 * i + j)
    · rw [if_pos h3, if_pos h3]
      by_cases h4 : y = T 3 (6 * i + j)
      · rw [if_pos h4, if_pos h4]
        have hf : (if nI n ≤ nI j + 1 then zvu (zvu (zvu V 1 i 1 x) 1 i 2 y) 1 i 4 0 else zvu (zvu (zvu V 1 i 1 x) 1 i 2 y) 1 i 4 (nI j + 1)) = zvu (zvu (zvu V 1 i 1 x) 1 i 2 y) 1 i 4 (if nI n ≤ nI j + 1 then (0 : Int32) else nI j + 1) := by split <;> rfl
        rw [hf, m1]
        generalize nI (j + 1) - nI (j + 1) / nI n * nI n = s at m2 m3 ⊢
        have f1 : zvu (zvu (zvu V 1 i 1 x) 1 i 2 y) 1 i 4 s 1 i 1 = x := by simp [zvu]
        have f2 : zvu (zvu (zvu V 1 i 1 x) 1 i 2 y) 1 i 4 s 1 i 2 = y := by simp [zvu]
        have f3 : zvu (zvu (zvu V 1 i 1 x) 1 i 2 y) 1 i 4 s 1 i 4 = s := by simp [zvu]
        have f4 : zup (zup (zup S 1 i x) 2 i y) 3 i s 1 i = x := by simp [zup]
        have f5 : zup (zup (zup S 1 i x) 2 i y) 3 i s 2 i = y := by simp [zup]
        have f6 : zup (zup (zup S 1 i x) 2 i y) 3 i s 3 i = s := by simp [zup]
        exact ⟨f1.trans f4.symm, f2.trans f5.symm, f3.trans f6.symm, by rw [f4]; exact b1, by rw [f5]; exact b2, by rw [f6]; exact m2, by rw [f6, eT]; exact m3⟩
      · rw [if_neg h4, if_neg h4]
        exact h0
    · rw [if_neg h3, if_neg h3]
      exact h0
  · rw [if_neg h2, if_neg h2]
    exact hL'
theorem zq_move {V : zV} {T S : zFn} {nl np nh nk g i : Nat} (hR : zqR V T S nl np nh nk g) (hi : i < nl) : zqR (vmove V i) T (rgl S T i) nl np nh nk g := by
  have hN : zqN 1 i V (vmove V i) := by
    unfold vmove
    dsimp only
    repeat' split
    all_goals repeat (first | exact zqN.rf | refine zqN.up ?_)
  have hM : zqM 1 3 i S (rgl S T i) := by
    unfold rgl
    dsimp only
    repeat' split
    all_goals repeat (first | exact zqM.rf | refine zqM.up ?_ (by decide) (by decide))
  exact hR.lof (zqS_move V i) hN hM (zq_mv1 (hR.1.2.2.1 i hi) (hR.2.2.1 i hi))
/-! bits -/
theorem b_1 : ∀ i, i < 32 → bt 1 i = decide (i = 0) := by decide +kernel
theorem zq_bit (m : Int32) {l : Nat} (hl : l < 32) : (zbin 7 m (nI l) &&& 1) = 0 ↔ (m &&& zbin 6 1 (nI l)) = 0 := by
  have A : (zbin 7 m (nI l) &&& 1) = 0 ↔ bt m l = false := by
    show (m >>> (nI l &&& 31)) &&& 1 = 0 ↔ _
    constructor
    · intro h
      have h1 := congrArg (fun z => bt z 0) h
      simp only [b_and, b_0, b_sshr l hl m (show 0 < 32 by decide), b_1 0 (by decide)] at h1
      simpa [hl] using h1
    · intro h
      refine b_ext fun i hi => ?_
      rw [b_and, b_0, b_1 i hi]
      by_cases e : i = 0
      · subst e
        rw [b_sshr l hl m (by decide)]
        simp [hl, h]
      · simp [e]
  have B : (m &&& zbin 6 1 (nI l)) = 0 ↔ bt m l = false := by
    show m &&& (1 <<< (nI l &&& 31)) = 0 ↔ _
    constructor
    · intro h
      have h1 := congrArg (fun z => bt z l) h
      simp only [b_and, b_0, b_shl l hl 1 hl] at h1
      simpa [b_1 0 (by decide)] using h1
    · intro h
      refine b_ext fun i hi => ?_
      rw [b_and, b_0, b_shl l hl 1 hi]
      by_cases e : i = l
      · subst e
        simp [h]
      · by_cases e2 : l ≤ i
        · rw [b_1 (i - l) (by omega)]
          simp [show ¬ i - l = 0 by omega]
        · simp [e2]
  exact A.trans B.symm

/-! a letter's carriers -/
theorem zq_let {V : zV} {T S : zFn} {nl np nh nk g k : Nat} (hR : zqR V T S nl np nh nk g) (hk : k < nk) : ∃ n s, n ≤ 6 ∧ s ≤ n ∧ T 14 k = nI n ∧ V 4 k 0 = nI n ∧ S 18 k = nI s ∧ V 4 k 2 = nI s ∧ (s < n → ∃ z, z ≤ 20 ∧ T 15 (6 * k + s) = nI z ∧ V 7 k s = nI z ∧ ∀ i, i < z → ∃ c, c < np ∧ V 8 k (20 * s + i) = nI c ∧ T 16 (120 * k + 20 * s + i) = nI c) := by
  obtain ⟨n, hn, e1, e2, e3⟩ := hR.1.2.2.2.2.2 k hk
  obtain ⟨k1, k2, k3, k4, k5, k6, k7, k8⟩ := hR.2.2.2.2.2 k hk
  obtain ⟨s, hs, es⟩ := nI_of (i_nlt k7)
  rw [e1, es] at k8
  have hsn : s ≤ n := (nI_leI hs (by omega)).mp k8
  refine ⟨n, s, hn, hsn, e1, e2, es, by rw [k2, es], fun h => ?_⟩
  obtain ⟨z, hz, z1, z2, z3⟩ := e3 s h
  refine ⟨z, hz, z1, z2, fun i hi => ?_⟩
  obtain ⟨c1, c2⟩ := z3 i hi
  have hnp := hR.1.1.2.2.2.1
  obtain ⟨c, hc, ec⟩ := c2.ex (show np < 2 ^ 31 by omega)
  exact ⟨c, hc, by rw [c1, ec], ec⟩
section ZQL
variable {V : zV} {T S : zFn} {nl np nh nk g : Nat}
theorem zq_np (hR : zqR V T S nl np nh nk g) : nl ≤ 6 ∧ np ≤ 20 ∧ nh ≤ 6 ∧ nk ≤ 12 := by
  have h := hR.1.1
  exact ⟨h.2.1, h.2.2.2.1, h.2.2.2.2.2.1, h.2.2.2.2.2.2.2⟩
theorem zq_arr (hR : zqR V T S nl np nh nk g) {k : Nat} (hk : k < nk) : varr V k = ria S T k := by
  obtain ⟨n, s, hn, hs, e1, e2, e3, e4, -⟩ := zq_let hR hk
  unfold varr ria
  rw [e1, e2, e3, e4]
  by_cases h : s < n
  · rw [if_pos (nI_lt h (by omega)), if_neg (fun e => by have := (nI_eq (by omega) (by omega)).mp e; omega)]
  · have e : s = n := by omega
    subst e
    rw [if_neg (Int32.lt_irrefl), if_pos rfl]
theorem zq_N (hR : zqR V T S nl np nh nk g) {k : Nat} (hk : k < nk) (h : ria S T k = 0) : vN V k = rN S T k ∧ rN S T k ≤ 20 ∧ ∀ i, i < rN S T k → ∃ c, c < np ∧ vcar V k (V 4 k 2) (nI i) = nI c ∧ rca S T k i = nI c := by
  obtain ⟨n, s, hn, hs, e1, e2, e3, e4, e5⟩ := zq_let hR hk
  have hsn : s < n := by
    rcases Nat.lt_or_ge s n with q | q
    · exact q
    · have e : s = n := by omega
      subst e
      unfold ria at h
      rw [e1, e3, if_pos rfl] at h
      exact absurd h (by decide)
  obtain ⟨z, hz, z1, z2, z3⟩ := e5 hsn
  have h7 : zsf (nI s) 7 = s := zsf_nI (by omega) (by decide)
  have hr : rN S T k = z := by
    unfold rN rcs
    rw [if_pos h, e3, h7, z1, nI_clamp (by omega)]
  have hv : vN V k = z := by
    unfold vN
    rw [e4, vsize_nI (by omega) z2, nI_clamp (by omega)]
  rw [hr, hv]
  refine ⟨rfl, hz, fun i hi => ?_⟩
  obtain ⟨c, hc, c1, c2⟩ := z3 i hi
  refine ⟨c, hc, ?_, ?_⟩
  · unfold vcar
    rw [e4, show nI s * 20 = nI (s * 20) from pk_mul s 20, nI_add, zsf_nI (by omega) (by decide), show s * 20 + i = 20 * s + i by omega, c1]
  · unfold rca
    rw [e3, h7, c2]
theorem zq_cso (hR : zqR V T S nl np nh nk g) {k c : Nat} (hk : k < nk) (hc : c < np) : vcso V k (nI c) = rcso S k c := by
  have hnp := (zq_np hR).2.1
  obtain ⟨k1, k2, k3, k4, k5, k6, k7, k8⟩ := hR.2.2.2.2.2 k hk
  obtain ⟨p1, p2, p3, p4, p5⟩ := hR.2.2.2.1 c hc
  unfold vcso vcag rcso
  have hb : vbit (nI c) = zbin 6 1 (nI c) := by
    unfold vbit
    rw [if_neg (nI_pos (by omega)), if_neg (show ¬ (20 : Int32) ≤ nI c from nI_ge (b := 20) (by omega) (by decide))]
  rw [zsf_nI (by omega) (by decide), hb, p1, p2, k1, k3]
  by_cases h1 : S 4 c = 0
  · rw [if_pos h1, if_pos h1]
    by_cases h2 : S 5 c = S 17 k
    · rw [if_pos h2, if_pos h2, if_neg (by decide)]
      by_cases h3 : (zbin 7 (S 21 k) (nI c) &&& 1) = 0
      · rw [if_pos h3, if_pos ((zq_bit _ (by omega)).mp h3)]
      · rw [if_neg h3, if_neg (fun q => h3 ((zq_bit _ (by omega)).mpr q))]
    · rw [if_neg h2, if_neg h2, if_pos rfl]
  · rw [if_neg h1, if_neg h1, if_pos rfl]
theorem zq_rcso {k c : Nat} (h : ¬ rcso S k c = 0) : S 4 c = 0 ∧ S 5 c = S 17 k := by
  unfold rcso at h
  by_cases h1 : S 4 c = 0
  · rw [if_pos h1] at h
    by_cases h2 : S 5 c = S 17 k
    · exact ⟨h1, h2⟩
    · rw [if_neg h2] at h
      exact absurd rfl h
  · rw [if_neg h1] at h
    exact absurd rfl h
/-- a double sets out -/
theorem zq_su (hR : zqR V T S nl np nh nk g) {k c i : Nat} (hk : k < nk) (hc : c < np) (ha : ria S T k = 0) (hv : vcar V k (V 4 k 2) (nI i) = nI c) (hs : ¬ rcso S k c = 0) : zqR (vsd1 V k (nI k) i) T (rsu S T k c) nl np nh nk g := by
  obtain ⟨n1, n2, n3, n4⟩ := zq_np hR
  obtain ⟨n, s, hn, hsn, e1, e2, e3, e4, -⟩ := zq_let hR hk
  obtain ⟨k1, k2, k3, k4, k5, k6, k7, k8⟩ := hR.2.2.2.2.2 k hk
  obtain ⟨p1, p2, p3, p4, p5⟩ := hR.2.2.2.1 c hc
  obtain ⟨t1, t2, t3, t4, t5, t6⟩ := hR.1.2.2.2.1 c hc
  obtain ⟨q1, q2⟩ := zq_rcso hs
  obtain ⟨f, hf, ef⟩ := k6.ex (show nl < 2 ^ 31 by omega)
  obtain ⟨h, hh, eh⟩ := t4.ex (show nl < 2 ^ 31 by omega)
  obtain ⟨f1, f2, f3, f4, f5, -⟩ := hR.2.2.1 f hf
  obtain ⟨g1, g2, g3, g4, g5, -⟩ := hR.2.2.1 h hh
  have z1 : zsf (nI f) 6 = f := zsf_nI (by omega) (by decide)
  have z2 : zsf (nI h) 6 = h := zsf_nI (by omega) (by decide)
  have z3 : zsf (nI c) 20 = c := zsf_nI (by omega) (by decide)
  have z4 : zsf (nI k) 12 = k := zsf_nI (by omega) (by decide)
  have hb : vbit (nI c) = zbin 6 1 (nI c) := by
    unfold vbit
    rw [if_neg (nI_pos (by omega)), if_neg (show ¬ (20 : Int32) ≤ nI c from nI_ge (b := 20) (by omega) (by decide))]
  have hlt : nI s < nI n := by
    unfold ria at ha
    rw [e3, e1] at ha
    by_cases e : nI s = nI n
    · rw [if_pos e] at ha; exact absurd ha (by decide)
    · exact nI_lt (by rcases Nat.lt_or_ge s n with q | q; exact q; exact absurd (by rw [show s = n by omega]) e) (by omega)
  have hc0 : ¬ vcso V k (nI c) = 0 := by rw [zq_cso hR hk hc]; exact hs
  unfold vsd1
  rw [hv]
  dsimp only
  rw [if_neg hc0, z3, hb, k1, ef, z1, t1, eh, z2]
  unfold rsu raim
  dsimp only
  rw [eh, z2]
  refine zqR.lett (i := k) (V := zvu (zvu (vset V c f h) 2 c 10 (nI k)) 2 c 11 (zvu (vset V c f h) 2 c 10 (nI k) 4 k 2)) (zqR.pig (i := c) hR ?_ ?_ ?_ ?_) (zqS.up (zqS.up (zqS.rf _) rfl) rfl) (zqN.up (zqN.up zqN.rf)) (zqM.up (zqM.up zqM.rf (by decide) (by decide)) (by decide) (by decide)) ?_
  · exact zqS.up (zqS.up (zqS_set _ _ _ _) rfl) rfl
  · unfold vset
    dsimp only
    repeat (first | exact zqN.rf | refine zqN.up ?_)
  · repeat (first | exact zqM.rf | refine zqM.up ?_ (by decide) (by decide))
  · simp [zqP, zqX, zqA, vset, zvu, zup]
    rw [q2, ef, z1, z4, e1, e3]
    exact ⟨by rw [p2, q2, ef], by rw [← ef]; exact k6, ⟨f1, f2, f4, f5⟩, g1, g2, g4, g5, ⟨by decide, by decide⟩, e4, zin_nI hk (by omega), hlt⟩
  · simp [zqK, vset, zvu, zup]
    rw [k1, k2, k3, k4, k5]
    exact ⟨rfl, rfl, rfl, rfl, rfl, k6, k7, k8⟩
theorem zq_sd1 (hR : zqR V T S nl np nh nk g) {k i : Nat} (hk : k < nk) (ha : ria S T k = 0) (hi : i < rN S T k) : zqR (vsd1 V k (nI k) i) T (if rcso S k (zsf (rca S T k i) 20) = 0 then S else rsu S T k (zsf (rca S T k i) 20)) nl np nh nk g := by
  obtain ⟨-, -, h3⟩ := zq_N hR hk ha
  obtain ⟨c, hc, c1, c2⟩ := h3 i hi
  have hnp := (zq_np hR).2.1
  rw [c2, zsf_nI (show c < 20 by omega) (by decide)]
  by_cases h : rcso S k c = 0
  · rw [if_pos h]
    unfold vsd1
    rw [c1]
    dsimp only
    rw [if_pos (by rw [zq_cso hR hk hc]; exact h)]
    exact hR
  · rw [if_neg h]
    exact zq_su hR hk hc ha c1 h
end ZQL
theorem rN_cg {S S' T : zFn} {k : Nat} (h : S' 18 k = S 18 k) : rN S' T k = rN S T k := by unfold rN; rw [rcs_cg h]
theorem zq_sdL {T : zFn} {nl np nh nk g k : Nat} (hk : k < nk) : ∀ (m i : Nat) (V : zV) (S : zFn), zqR V T S nl np nh nk g → ria S T k = 0 → i + m ≤ rN S T k → zqR (vsdL k (nI k) m i V) T (rso2 T k m i S) nl np nh nk g
  | 0, _, _, _, hR, _, _ => hR
  | m + 1, i, V, S, hR, ha, hi => by
    have h := zq_sd1 hR hk ha (i := i) (by omega)
    rw [vsdL, rso2]
    by_cases hc : rcso S k (zsf (rca S T k i) 20) = 0
    · rw [if_pos hc] at h ⊢
      exact zq_sdL hk m (i + 1) _ _ h ha (by omega)
    · rw [if_neg hc] at h ⊢
      exact zq_sdL hk m (i + 1) _ _ h (by rw [ria_cg (rsu_18 _ _ _ _ _)]; exact ha) (by rw [rN_cg (rsu_18 _ _ _ _ _)]; omega)
theorem zq_slL {T : zFn} {nl np nh nk g : Nat} : ∀ (m i : Nat) (V : zV) (S : zFn), zqR V T S nl np nh nk g → i + m = nk → zqR (vslL m i V) T (rso T m i S) nl np nh nk g
  | 0, _, _, _, hR, _ => hR
  | m + 1, i, V, S, hR, hi => by
    have e := zq_arr hR (k := i) (by omega)
    rw [vslL, rso]
    by_cases ha : ria S T i = 0
    · rw [if_pos (by rw [e]; exact ha), (zq_N hR (k := i) (by omega) ha).1]
      exact zq_slL m (i + 1) _ _ (zq_sdL (by omega) _ _ _ _ hR ha (by omega)) (by omega)
    · rw [if_neg (by rw [e]; exact ha)]
      have h0 : rN S T i = 0 := by
        unfold rN rcs
        rw [if_neg ha]
        rfl
      rw [h0]
      exact zq_slL m (i + 1) V S hR (by omega)
theorem zq_mvL {T : zFn} {nl np nh nk g : Nat} : ∀ (m i : Nat) (V : zV) (S : zFn), zqR V T S nl np nh nk g → i + m = nl → zqR (vmvL m i V) T (rpl1 T m i S) nl np nh nk g
  | 0, _, _, _, hR, _ => hR
  | m + 1, i, V, S, hR, hi => by
    rw [vmvL, rpl1]
    exact zq_mvL m (i + 1) _ _ (zq_move hR (by omega)) (by omega)
