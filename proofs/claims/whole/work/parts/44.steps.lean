/-! STEPS OVER FIELDS AND ROWS, in the form that the scripts use: what is read is named, an index is nI of a number. -/
section ZSX
variable {d : Nat} {call : Nat → List Value → zM → Option zR} {cd : List zRI} {pc : Nat} {L : zL} {st : List Value} {c sl len a b : Nat} {k : Int} {ext : List Nat} {μ : zM} {I : Nat → Nat → Int32} {R : Option zR}
theorem yg (pc' : Nat) {r N : Nat} {x : Int32} (hf : zfetch cd pc = (23, len, a, b, 0, ext)) (ht : ztg μ r = a) (hn : zni μ r = N) (hb : b < N) (hp : pc + 3 = pc') (hx : I r b = x) : zden1 d call cd (pc, L, .ref r :: st, c, sl, zwi μ I) = zden1 d call cd (pc', L, .int x :: st, c, sl, zwi μ I) := by
  subst hx
  exact ys23i pc' hf ht (hn ▸ hb) hp
theorem ygr (pc' : Nat) {r q : Nat} (hf : zfetch cd pc = (23, len, a, b, 1, ext)) (ht : ztg μ r = a) (hp : pc + 3 = pc') (hq : zgr μ r b = some q) : zden1 d call cd (pc, L, .ref r :: st, c, sl, zwi μ I) = zden1 d call cd (pc', L, .ref q :: st, c, sl, zwi μ I) :=
  ys23r pc' hf ht hq hp
theorem yq (pc' : Nat) {r N : Nat} {x : Int32} {I2 : Nat → Nat → Int32} (hf : zfetch cd pc = (24, len, a, b, 0, ext)) (ht : ztg μ r = a) (hz : zK0 ≤ r) (hn : zni μ r = N) (hb : b < N) (hp : pc + 3 = pc') (hI : zup I r b x = I2) : zden1 d call cd (pc, L, .int x :: .ref r :: st, c, sl, zwi μ I) = zden1 d call cd (pc', L, st, c, sl, zwi μ I2) := by
  subst hI
  exact ys24i pc' hf ht hz (hn ▸ hb) hp
theorem yl (pc' : Nat) {r N j : Nat} {x : Int32} (hf : zfetch cd pc = (26, len, a, 0, k, ext)) (ht : ztg μ r = 20 ∨ ztg μ r = 30) (hn : zni μ r = N) (hj : j < N) (hN : N < 2 ^ 31) (hp : pc + 1 = pc') (hx : I r j = x) : zden1 d call cd (pc, L, .int (nI j) :: .ref r :: st, c, sl, zwi μ I) = zden1 d call cd (pc', L, .int x :: st, c, sl, zwi μ I) := by
  subst hx
  have hc := nI_clamp (n := j) (by omega)
  have h := ys26i (d := d) (call := call) (L := L) (st := st) (c := c) (sl := sl) (I := I) (j := nI j) pc' hf ht (nI_pos (by omega)) (by rw [hc, hn]; exact hj) hp
  rw [hc] at h
  exact h
theorem yw (pc' : Nat) {r N j : Nat} {x : Int32} {I2 : Nat → Nat → Int32} (hf : zfetch cd pc = (27, len, a, 0, k, ext)) (ht : ztg μ r = 20) (hz : zK0 ≤ r) (hn : zni μ r = N) (hj : j < N) (hN : N < 2 ^ 31) (hp : pc + 1 = pc') (hI : zup I r j x = I2) : zden1 d call cd (pc, L, .int x :: .int (nI j) :: .ref r :: st, c, sl, zwi μ I) = zden1 d call cd (pc', L, st, c, sl, zwi μ I2) := by
  subst hI
  have hc := nI_clamp (n := j) (by omega)
  have h := ys27i (d := d) (call := call) (L := L) (st := st) (c := c) (sl := sl) (I := I) (j := nI j) (x := x) pc' hf ht hz (nI_pos (by omega)) (by rw [hc, hn]; exact hj) hp
  rw [hc] at h
  exact h
theorem yr (pc' : Nat) {r N j q T : Nat} (hf : zfetch cd pc = (26, len, a, 3, k, ext)) (ht : ztg μ r = T) (hT : (23 ≤ T ∧ T < 28) ∨ T = 32 ∨ T = 35) (hn : znr μ r = N) (hj : j < N) (hN : N < 2 ^ 31) (hp : pc + 1 = pc') (hq : zgr μ r j = some q) : zden1 d call cd (pc, L, .int (nI j) :: .ref r :: st, c, sl, zwi μ I) = zden1 d call cd (pc', L, .ref q :: st, c, sl, zwi μ I) := by
  have hc := nI_clamp (n := j) (by omega)
  exact ys26r (d := d) (call := call) (L := L) (st := st) (c := c) (sl := sl) (I := I) (j := nI j) (q := some q) pc' hf (by rw [ht]; exact hT) (nI_pos (by omega)) (by rw [hc, hn]; exact hj) (by rw [hc]; exact hq) hp
theorem yal (pc' : Nat) {r N : Nat} (hf : zfetch cd pc = (28, len, a, b, k, ext)) (ht : ztg μ r = 20) (hn : zni μ r = N) (hp : pc + 1 = pc') : zden1 d call cd (pc, L, .ref r :: st, c, sl, zwi μ I) = zden1 d call cd (pc', L, .int (nI N) :: st, c, sl, zwi μ I) :=
  ys28 (n := N) pc' hf (by unfold zal; rw [ht, hn]; rfl) rfl hp
theorem yar (pc' : Nat) {r N T : Nat} (hf : zfetch cd pc = (28, len, a, b, k, ext)) (ht : ztg μ r = T) (hT : 23 ≤ T ∧ T < 28) (hn : znr μ r = N) (hp : pc + 1 = pc') : zden1 d call cd (pc, L, .ref r :: st, c, sl, zwi μ I) = zden1 d call cd (pc', L, .int (nI N) :: st, c, sl, zwi μ I) :=
  ys28 (n := N) pc' hf (by unfold zal; rw [ht, hn]; dsimp only; rw [if_neg (by omega), if_neg (by omega), if_pos (Or.inl hT)]) rfl hp
end ZSX
/-- LoftPost.safe: an index made safe -/
def zsf (i : Int32) (n : Nat) : Nat := if 0 ≤ i ∧ i < nI n then i.toNatClampNeg else 0
theorem zsf_lt {i : Int32} {n : Nat} (h0 : 0 < n) (hn : n < 2 ^ 31) : zsf i n < n := by
  unfold zsf
  split
  · rename_i h
    obtain ⟨j, hj, rfl⟩ := nI_of (x := i) (fun h2 => Int32.lt_irrefl (Int32.lt_of_lt_of_le h2 h.1))
    rw [nI_clamp hj]
    exact (nI_ltI hj hn).mp h.2
  · exact h0
theorem zsf_nI {j n : Nat} (hj : j < n) (hn : n < 2 ^ 31) : zsf (nI j) n = j := by
  unfold zsf
  rw [if_pos ⟨nI_pos' (by omega), nI_lt hj hn⟩, nI_clamp (by omega)]
theorem zsf_i {i : Int32} {n : Nat} (hn : n < 2 ^ 31) (h0 : 0 ≤ i) (h1 : i < nI n) : i = nI (zsf i n) := by
  unfold zsf
  rw [if_pos ⟨h0, h1⟩]
  obtain ⟨j, hj, rfl⟩ := nI_of (x := i) (fun h2 => Int32.lt_irrefl (Int32.lt_of_lt_of_le h2 h0))
  rw [nI_clamp hj]
theorem i_nlt {x y : Int32} (h : y ≤ x) : ¬ x < y := fun h2 => Int32.lt_irrefl (Int32.lt_of_lt_of_le h2 h)
theorem i_nle {x y : Int32} (h : x < y) : ¬ y ≤ x := fun h2 => Int32.lt_irrefl (Int32.lt_of_lt_of_le h h2)
theorem i_lt {x y : Int32} (h : ¬ y ≤ x) : x < y := by
  rw [Int32.lt_iff_toInt_lt]
  rw [Int32.le_iff_toInt_le] at h
  omega
theorem i_le {x y : Int32} (h : ¬ x < y) : y ≤ x := by
  rw [Int32.le_iff_toInt_le]
  rw [Int32.lt_iff_toInt_lt] at h
  omega
