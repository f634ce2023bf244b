/-! FLAT REGIONS: places b, b + 1, .. that hold F: place, index. -/
abbrev zFn : Type := Nat → Nat → Int32
def zfl (I : zFn) (b n : Nat) (F : zFn) : zFn := fun a k => if b ≤ a ∧ a < b + n then F (a - b) k else I a k
def vf (b : Nat) (I : zFn) : zFn := fun j k => I (b + j) k
theorem zfl_at {I : zFn} {b n : Nat} {F : zFn} {j k : Nat} (hj : j < n) : zfl I b n F (b + j) k = F j k := by
  unfold zfl
  rw [if_pos ⟨Nat.le_add_right _ _, by omega⟩, Nat.add_sub_cancel_left]
theorem zfl_out {I : zFn} {b n : Nat} {F : zFn} {a k : Nat} (h : a < b ∨ b + n ≤ a) : zfl I b n F a k = I a k := by
  unfold zfl
  rw [if_neg (by omega)]
theorem zfl_up {I : zFn} {b n : Nat} {F : zFn} {j k : Nat} {x : Int32} (hj : j < n) : zup (zfl I b n F) (b + j) k x = zfl I b n (zup F j k x) := by
  funext a i
  unfold zup zfl
  dsimp only
  by_cases ha : b ≤ a ∧ a < b + n
  · rw [if_pos ha, if_pos ha]
    by_cases h : a = b + j ∧ i = k
    · obtain ⟨rfl, rfl⟩ := h
      rw [if_pos ⟨rfl, rfl⟩, if_pos ⟨by omega, rfl⟩]
    · rw [if_neg h, if_neg (by rintro ⟨h1, h2⟩; exact h ⟨by omega, h2⟩)]
  · rw [if_neg ha, if_neg ha, if_neg (by omega)]
theorem zfl_vf (I : zFn) (b n : Nat) : zfl I b n (vf b I) = I := by
  funext a k
  unfold zfl vf
  split
  · rw [show b + (a - b) = a by omega]
  · rfl
theorem zfl_zfl (I : zFn) (b n : Nat) (F G : zFn) : zfl (zfl I b n F) b n G = zfl I b n G := by
  funext a k
  unfold zfl
  split <;> rfl
theorem zfl_swap {I : zFn} {b n c m : Nat} {F G : zFn} (h : b + n ≤ c ∨ c + m ≤ b) : zfl (zfl I b n F) c m G = zfl (zfl I c m G) b n F := by
  funext a k
  unfold zfl
  by_cases h1 : c ≤ a ∧ a < c + m
  · rw [if_pos h1, if_neg (by omega), if_pos h1]
  · rw [if_neg h1, if_neg h1]
theorem zfc_swap {I : zFn} {b n w : Nat} {F : zFn} {V : zV} (h : b + n ≤ w ∨ w + 85 ≤ b) : zfl (zpc I w V) b n F = zpc (zfl I b n F) w V := by
  funext a k
  unfold zfl zpc
  dsimp only
  by_cases h1 : b ≤ a ∧ a < b + n
  · rw [if_pos h1, if_neg (by omega), if_pos h1]
  · rw [if_neg h1, if_neg h1]
/-- what a world's place and number of field hold -/
def zoff (q i : Nat) : Nat := match q with
  | 0 => 0
  | 1 => 5 + 3 * i
  | 2 => 23 + i
  | 3 => 43 + i
  | 4 => 49 + 3 * i
  | 5 => 6 + 3 * i
  | 6 => 7 + 3 * i
  | 7 => 50 + 3 * i
  | 8 => 51 + 3 * i
  | _ => i
def vw (w : Nat) (I : zFn) : zV := fun q i k => I (w + zoff q i) k
theorem zoff_pk : ∀ o, o < 85 → zoff (zpk o).1 (zpk o).2 = o := by decide +kernel
theorem zpc_vw (I : zFn) (w : Nat) : zpc I w (vw w I) = I := by
  funext a k
  unfold zpc vw
  split
  · rename_i h
    rw [zoff_pk (a - w) (by omega), show w + (a - w) = a by omega]
  · rfl
theorem zpc_zpc (I : zFn) (w : Nat) (V U : zV) : zpc (zpc I w V) w U = zpc I w U := by
  funext a k
  unfold zpc
  split <;> rfl
theorem zup_same' {F : zFn} {j k : Nat} {x : Int32} : zup F j k x j k = x := zup_same F j k x
/-- a region whose place is another's -/
theorem zfl_at2 {I : zFn} {b n c m : Nat} {F G : zFn} {j k : Nat} (hD : b + n ≤ c ∨ c + m ≤ b) (hj : j < n) : zfl (zfl I b n F) c m G (b + j) k = F j k := by
  rw [zfl_out (by omega)]
  exact zfl_at hj
theorem zfl_up2 {I : zFn} {b n c m : Nat} {F G : zFn} {j k : Nat} {x : Int32} (hD : b + n ≤ c ∨ c + m ≤ b) (hj : j < n) : zup (zfl (zfl I b n F) c m G) (b + j) k x = zfl (zfl I b n (zup F j k x)) c m G := by
  rw [zfl_swap hD, zfl_up hj, zfl_swap hD]
theorem zfw_at2 {I : zFn} {b n w : Nat} {F : zFn} {V : zV} {j k : Nat} (hD : b + n ≤ w ∨ w + 85 ≤ b) (hj : j < n) : zpc (zfl I b n F) w V (b + j) k = F j k := by
  rw [zpc_out (by omega)]
  exact zfl_at hj
theorem zfw_up2 {I : zFn} {b n w : Nat} {F : zFn} {V : zV} {j k : Nat} {x : Int32} (hD : b + n ≤ w ∨ w + 85 ≤ b) (hj : j < n) : zup (zpc (zfl I b n F) w V) (b + j) k x = zpc (zfl I b n (zup F j k x)) w V := by
  rw [← zfc_swap hD, zfl_up hj, zfc_swap hD]
/-- a flat region's shape: tags and numbers of ints -/
def zFS (μ : zM) (b : Nat) (T N : List Nat) : Prop := zK0 ≤ b ∧ ∀ j, j < T.length → ztg μ (b + j) = T.getD j 0 ∧ zni μ (b + j) = N.getD j 0
theorem zFS.tag {μ : zM} {b : Nat} {T N : List Nat} (h : zFS μ b T N) {j t : Nat} (hj : j < T.length) (ht : T.getD j 0 = t) : ztg μ (b + j) = t := ht ▸ (h.2 j hj).1
theorem zFS.ni {μ : zM} {b : Nat} {T N : List Nat} (h : zFS μ b T N) {j t : Nat} (hj : j < T.length) (ht : N.getD j 0 = t) : zni μ (b + j) = t := ht ▸ (h.2 j hj).2
theorem zFS.k0 {μ : zM} {b : Nat} {T N : List Nat} (h : zFS μ b T N) {j : Nat} : zK0 ≤ b + j := Nat.le_trans h.1 (Nat.le_add_right _ _)
/-! an index within bounds -/
def zix (x : Int32) (n : Nat) : Prop := 0 ≤ x ∧ x < nI n
theorem zix.eq {x : Int32} {n : Nat} (h : zix x n) (hn : n < 2 ^ 31) : x = nI (zsf x n) := zsf_i hn h.1 h.2
theorem zin_nI {j n : Nat} (h : j < n) (hn : n < 2 ^ 31) : zix (nI j) n := ⟨nI_pos' (by omega), nI_lt h hn⟩
theorem zix.ex {x : Int32} {n : Nat} (h : zix x n) (hn : n < 2 ^ 31) : ∃ j, j < n ∧ x = nI j := ⟨zsf x n, zsf_lt (by
  rcases Nat.eq_zero_or_pos n with h0 | h0
  · subst h0
    exact absurd (Int32.lt_of_le_of_lt h.1 h.2) (Int32.lt_irrefl)
  · exact h0) hn, h.eq hn⟩
section ZSX2
variable {d : Nat} {call : Nat → List Value → zM → Option zR} {cd : List zRI} {pc : Nat} {L : zL} {st : List Value} {c sl len a b : Nat} {k : Int} {ext : List Nat} {μ : zM} {I : Nat → Nat → Int32} {R : Option zR}
/-- a row written at an index known to be nI of a number -/
theorem ywx {d : Nat} {call : Nat → List Value → zM → Option zR} {cd : List zRI} {pc : Nat} {L : zL} {st : List Value} {c sl len a : Nat} {k : Int} {ext : List Nat} {μ : zM} {I : Nat → Nat → Int32} (pc' : Nat) {r N j : Nat} {x y : Int32} {I2 : Nat → Nat → Int32} (hy : y = nI j) (hf : zfetch cd pc = (27, len, a, 0, k, ext)) (ht : ztg μ r = 20) (hz : zK0 ≤ r) (hn : zni μ r = N) (hj : j < N) (hN : N < 2 ^ 31) (hp : pc + 1 = pc') (hI : zup I r j x = I2) : zden1 d call cd (pc, L, .int x :: .int y :: .ref r :: st, c, sl, zwi μ I) = zden1 d call cd (pc', L, st, c, sl, zwi μ I2) := by
  subst hy
  exact yw pc' hf ht hz hn hj hN hp hI
/-- rows of bytes -/
theorem ylb (pc' : Nat) {r N j : Nat} {x y : Int32} (hy : y = nI j) (hf : zfetch cd pc = (26, len, a, 1, k, ext)) (ht : ztg μ r = 21 ∨ ztg μ r = 31) (hn : zni μ r = N) (hj : j < N) (hN : N < 2 ^ 31) (hp : pc + 1 = pc') (hx : I r j = x) : zden1 d call cd (pc, L, .int y :: .ref r :: st, c, sl, zwi μ I) = zden1 d call cd (pc', L, .int x :: st, c, sl, zwi μ I) := by
  subst hx
  subst hy
  have hc := nI_clamp (n := j) (by omega)
  have h := ys26b (d := d) (call := call) (L := L) (st := st) (c := c) (sl := sl) (I := I) (j := nI j) pc' hf ht (nI_pos (by omega)) (by rw [hc, hn]; exact hj) hp
  rw [hc] at h
  exact h
theorem ywb (pc' : Nat) {r N j : Nat} {x y : Int32} {I2 : Nat → Nat → Int32} (hy : y = nI j) (hf : zfetch cd pc = (27, len, a, 1, k, ext)) (ht : ztg μ r = 21) (hz : zK0 ≤ r) (hn : zni μ r = N) (hj : j < N) (hN : N < 2 ^ 31) (hp : pc + 1 = pc') (hI : zup I r j x.toInt8.toInt32 = I2) : zden1 d call cd (pc, L, .int x :: .int y :: .ref r :: st, c, sl, zwi μ I) = zden1 d call cd (pc', L, st, c, sl, zwi μ I2) := by
  subst hI
  subst hy
  have hc := nI_clamp (n := j) (by omega)
  have h := ys27b (d := d) (call := call) (L := L) (st := st) (c := c) (sl := sl) (I := I) (j := nI j) (x := x) pc' hf ht hz (nI_pos (by omega)) (by rw [hc, hn]; exact hj) hp
  rw [hc] at h
  exact h
theorem yalb (pc' : Nat) {r N : Nat} (hf : zfetch cd pc = (28, len, a, b, k, ext)) (ht : ztg μ r = 21) (hn : zni μ r = N) (hp : pc + 1 = pc') : zden1 d call cd (pc, L, .ref r :: st, c, sl, zwi μ I) = zden1 d call cd (pc', L, .int (nI N) :: st, c, sl, zwi μ I) :=
  ys28 (n := N) pc' hf (by unfold zal; rw [ht, hn]; rfl) rfl hp
/-- a switch whose number is known -/
theorem ys21k {x : Int32} (pc' : Nat) (hf : zfetch cd pc = (21, len, a, b, k, ext)) (hx : (if x.toInt < a ∨ (a : Int) + ext.length ≤ x.toInt then b else ext.getD (x.toInt - a).toNat 0) = pc') : zden1 d call cd (pc, L, .int x :: st, c, sl, μ) = zden1 d call cd (pc', L, st, c, sl, μ) := by
  rw [← hx]
  exact ys21 hf
end ZSX2
