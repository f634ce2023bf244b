/-! FURTHER STEPS: Math, things made, calls by their number of operands. -/
section ZSU
variable {d : Nat} {call : Nat → List Value → zM → Option zR} {cd : List zRI} {pc : Nat} {L : zL} {st : List Value} {c sl len a b : Nat} {k : Int} {ext : List Nat} {μ : zM} {I : Nat → Nat → Int32} {R : Option zR}
def zabs (y : Int32) : Int32 := if 0 ≤ y then y else 0 - y
def zmax (x y : Int32) : Int32 := if x < y then y else x
def zmin (x y : Int32) : Int32 := if y < x then y else x
theorem ys41_0 (pc' : Nat) {y : Int32} (hf : zfetch cd pc = (41, len, a, 0, k, ext)) (hs : (st.map fun v => v.category).sum ≤ 9) (hp : pc + 3 = pc') : zden1 d call cd (pc, L, .int y :: st, c, sl, μ) = zden1 d call cd (pc', L, .int (zabs y) :: st, c, sl, μ) := by
  subst hp
  refine ys_of hf ?_
  show zo41 0 (pc, L, .int y :: st, c, sl, μ) = _
  unfold zo41
  dsimp only
  rw [if_pos hs, if_pos rfl]
  rfl
theorem ys41_1 (pc' : Nat) {x y : Int32} (hf : zfetch cd pc = (41, len, a, 1, k, ext)) (hs : ((Value.int x :: st).map fun v => v.category).sum ≤ 9) (hp : pc + 3 = pc') : zden1 d call cd (pc, L, .int y :: .int x :: st, c, sl, μ) = zden1 d call cd (pc', L, .int (zmax x y) :: st, c, sl, μ) := by
  subst hp
  refine ys_of hf ?_
  show zo41 1 (pc, L, .int y :: .int x :: st, c, sl, μ) = _
  unfold zo41
  dsimp only
  rw [if_pos hs, if_neg (by decide), if_pos rfl]
  rfl
theorem ys41_2 (pc' : Nat) {x y : Int32} (hf : zfetch cd pc = (41, len, a, 2, k, ext)) (hs : ((Value.int x :: st).map fun v => v.category).sum ≤ 9) (hp : pc + 3 = pc') : zden1 d call cd (pc, L, .int y :: .int x :: st, c, sl, μ) = zden1 d call cd (pc', L, .int (zmin x y) :: st, c, sl, μ) := by
  subst hp
  refine ys_of hf ?_
  show zo41 2 (pc, L, .int y :: .int x :: st, c, sl, μ) = _
  unfold zo41
  dsimp only
  rw [if_pos hs, if_neg (by decide), if_neg (by decide)]
  rfl
theorem ys33 (pc' : Nat) {r : Nat} (hf : zfetch cd pc = (33, len, a, b, k, ext)) (hs : (st.map fun v => v.category).sum ≤ 8) (hr : r ≠ zUK) (hp : pc + 3 = pc') : zden1 d call cd (pc, L, .ref r :: st, c, sl, μ) = zden1 d call cd (pc', L, st, c, sl, μ) := by
  subst hp
  refine ys_of hf ?_
  show zo33 (pc, L, .ref r :: st, c, sl, μ) = _
  unfold zo33
  dsimp only
  rw [if_pos ⟨hs, hr⟩]
theorem ys13 (pc' : Nat) (hf : zfetch cd pc = (13, len, a, b, k, ext)) (hp : pc + 1 = pc') : zden1 d call cd (pc, L, st, c, sl, μ) = zden1 d call cd (pc', L, .double FP.dconst0 :: st, c, sl, μ) := by
  subst hp
  exact ys_of hf rfl
theorem ys12_0 (pc' : Nat) {x y : UInt64} (hf : zfetch cd pc = (12, len, a, 0, k, ext)) (hn : FP.ddiv x y &&& 0x7fffffffffffffff ≤ 0x7ff0000000000000) (hp : pc + 1 = pc') : zden1 d call cd (pc, L, .double y :: .double x :: st, c, sl, μ) = zden1 d call cd (pc', L, .double (FP.ddiv x y) :: st, c, sl, μ) := by
  subst hp
  refine ys_of hf ?_
  show zo12 0 (pc, L, .double y :: .double x :: st, c, sl, μ) = _
  unfold zo12
  dsimp only
  rw [if_pos rfl, if_pos hn]
theorem ys12_1 (pc' : Nat) {x y : UInt64} (hf : zfetch cd pc = (12, len, a, 1, k, ext)) (hp : pc + 1 = pc') : zden1 d call cd (pc, L, .double y :: .double x :: st, c, sl, μ) = zden1 d call cd (pc', L, .int (Op.cmpValue (FP.dcmp x y) .l) :: st, c, sl, μ) := by
  subst hp
  exact ys_of hf rfl
/-- a new row of ints: its place is the shape's length -/
theorem ys30 (pc' : Nat) {n : Int32} {m : Nat} (hf : zfetch cd pc = (30, len, a, 20, k, ext)) (h0 : ¬ n < 0) (hm : n.toNatClampNeg = m) (h1 : m ≤ 10000) (hp : pc + 2 = pc') : zden1 d call cd (pc, L, .int n :: st, c, sl, zwi μ I) = zden1 d call cd (pc', L, .ref μ.length :: st, c + 1, sl + m, zwi (μ ++ [(20, List.replicate m 0, [], [])]) (fun b => if b = μ.length then (fun k => (List.replicate m (0 : Int32)).getD k 0) else I b)) := by
  subst hp
  subst hm
  refine ys_of hf ?_
  show zo30 20 (pc, L, .int n :: st, c, sl, zwi μ I) = _
  unfold zo30
  dsimp only
  rw [if_pos ⟨h0, h1⟩, if_neg (by decide), zwi_app, zwi_len]

theorem yc0 (pc' : Nat) {v : Option Value} {c1 s1 : Nat} {μ1 : zM} {st2 : List Value} (hf : zfetch cd pc = (32, len, a, b, k, ext)) (hk : 0 = k.toNat) (hs : (st.map fun v => v.category).sum ≤ 8) (ht : ext.getD 5 99 = 99 ∨ zhd μ [] = ext.getD 5 99) (hp : pc + 3 = pc') (hst : v.toList ++ st = st2) (h : call a [] μ = some (0, v, c1, s1, μ1)) : zden1 d call cd (pc, L, st, c, sl, μ) = zden1 d call cd (pc', L, st2, c + c1, sl + s1, μ1) :=
  ys32 pc' (vs := []) (args := []) (st := st) hf hk rfl hs ht hp hst h
theorem yc1 (pc' : Nat) {v1 : Value} {v : Option Value} {c1 s1 : Nat} {μ1 : zM} {st2 : List Value} (hf : zfetch cd pc = (32, len, a, b, k, ext)) (hk : 1 = k.toNat) (hs : (st.map fun v => v.category).sum ≤ 8) (ht : ext.getD 5 99 = 99 ∨ zhd μ [v1] = ext.getD 5 99) (hp : pc + 3 = pc') (hst : v.toList ++ st = st2) (h : call a [v1] μ = some (0, v, c1, s1, μ1)) : zden1 d call cd (pc, L, v1 :: st, c, sl, μ) = zden1 d call cd (pc', L, st2, c + c1, sl + s1, μ1) :=
  ys32 pc' (vs := [v1]) (args := [v1]) (st := st) hf hk rfl hs ht hp hst h
theorem yc2 (pc' : Nat) {v1 v2 : Value} {v : Option Value} {c1 s1 : Nat} {μ1 : zM} {st2 : List Value} (hf : zfetch cd pc = (32, len, a, b, k, ext)) (hk : 2 = k.toNat) (hs : (st.map fun v => v.category).sum ≤ 8) (ht : ext.getD 5 99 = 99 ∨ zhd μ [v1, v2] = ext.getD 5 99) (hp : pc + 3 = pc') (hst : v.toList ++ st = st2) (h : call a [v1, v2] μ = some (0, v, c1, s1, μ1)) : zden1 d call cd (pc, L, v2 :: v1 :: st, c, sl, μ) = zden1 d call cd (pc', L, st2, c + c1, sl + s1, μ1) :=
  ys32 pc' (vs := [v2, v1]) (args := [v1, v2]) (st := st) hf hk rfl hs ht hp hst h
theorem yc3 (pc' : Nat) {v1 v2 v3 : Value} {v : Option Value} {c1 s1 : Nat} {μ1 : zM} {st2 : List Value} (hf : zfetch cd pc = (32, len, a, b, k, ext)) (hk : 3 = k.toNat) (hs : (st.map fun v => v.category).sum ≤ 8) (ht : ext.getD 5 99 = 99 ∨ zhd μ [v1, v2, v3] = ext.getD 5 99) (hp : pc + 3 = pc') (hst : v.toList ++ st = st2) (h : call a [v1, v2, v3] μ = some (0, v, c1, s1, μ1)) : zden1 d call cd (pc, L, v3 :: v2 :: v1 :: st, c, sl, μ) = zden1 d call cd (pc', L, st2, c + c1, sl + s1, μ1) :=
  ys32 pc' (vs := [v3, v2, v1]) (args := [v1, v2, v3]) (st := st) hf hk rfl hs ht hp hst h
theorem yc4 (pc' : Nat) {v1 v2 v3 v4 : Value} {v : Option Value} {c1 s1 : Nat} {μ1 : zM} {st2 : List Value} (hf : zfetch cd pc = (32, len, a, b, k, ext)) (hk : 4 = k.toNat) (hs : (st.map fun v => v.category).sum ≤ 8) (ht : ext.getD 5 99 = 99 ∨ zhd μ [v1, v2, v3, v4] = ext.getD 5 99) (hp : pc + 3 = pc') (hst : v.toList ++ st = st2) (h : call a [v1, v2, v3, v4] μ = some (0, v, c1, s1, μ1)) : zden1 d call cd (pc, L, v4 :: v3 :: v2 :: v1 :: st, c, sl, μ) = zden1 d call cd (pc', L, st2, c + c1, sl + s1, μ1) :=
  ys32 pc' (vs := [v4, v3, v2, v1]) (args := [v1, v2, v3, v4]) (st := st) hf hk rfl hs ht hp hst h
theorem yc5 (pc' : Nat) {v1 v2 v3 v4 v5 : Value} {v : Option Value} {c1 s1 : Nat} {μ1 : zM} {st2 : List Value} (hf : zfetch cd pc = (32, len, a, b, k, ext)) (hk : 5 = k.toNat) (hs : (st.map fun v => v.category).sum ≤ 8) (ht : ext.getD 5 99 = 99 ∨ zhd μ [v1, v2, v3, v4, v5] = ext.getD 5 99) (hp : pc + 3 = pc') (hst : v.toList ++ st = st2) (h : call a [v1, v2, v3, v4, v5] μ = some (0, v, c1, s1, μ1)) : zden1 d call cd (pc, L, v5 :: v4 :: v3 :: v2 :: v1 :: st, c, sl, μ) = zden1 d call cd (pc', L, st2, c + c1, sl + s1, μ1) :=
  ys32 pc' (vs := [v5, v4, v3, v2, v1]) (args := [v1, v2, v3, v4, v5]) (st := st) hf hk rfl hs ht hp hst h
theorem yc6 (pc' : Nat) {v1 v2 v3 v4 v5 v6 : Value} {v : Option Value} {c1 s1 : Nat} {μ1 : zM} {st2 : List Value} (hf : zfetch cd pc = (32, len, a, b, k, ext)) (hk : 6 = k.toNat) (hs : (st.map fun v => v.category).sum ≤ 8) (ht : ext.getD 5 99 = 99 ∨ zhd μ [v1, v2, v3, v4, v5, v6] = ext.getD 5 99) (hp : pc + 3 = pc') (hst : v.toList ++ st = st2) (h : call a [v1, v2, v3, v4, v5, v6] μ = some (0, v, c1, s1, μ1)) : zden1 d call cd (pc, L, v6 :: v5 :: v4 :: v3 :: v2 :: v1 :: st, c, sl, μ) = zden1 d call cd (pc', L, st2, c + c1, sl + s1, μ1) :=
  ys32 pc' (vs := [v6, v5, v4, v3, v2, v1]) (args := [v1, v2, v3, v4, v5, v6]) (st := st) hf hk rfl hs ht hp hst h
theorem yc7 (pc' : Nat) {v1 v2 v3 v4 v5 v6 v7 : Value} {v : Option Value} {c1 s1 : Nat} {μ1 : zM} {st2 : List Value} (hf : zfetch cd pc = (32, len, a, b, k, ext)) (hk : 7 = k.toNat) (hs : (st.map fun v => v.category).sum ≤ 8) (ht : ext.getD 5 99 = 99 ∨ zhd μ [v1, v2, v3, v4, v5, v6, v7] = ext.getD 5 99) (hp : pc + 3 = pc') (hst : v.toList ++ st = st2) (h : call a [v1, v2, v3, v4, v5, v6, v7] μ = some (0, v, c1, s1, μ1)) : zden1 d call cd (pc, L, v7 :: v6 :: v5 :: v4 :: v3 :: v2 :: v1 :: st, c, sl, μ) = zden1 d call cd (pc', L, st2, c + c1, sl + s1, μ1) :=
  ys32 pc' (vs := [v7, v6, v5, v4, v3, v2, v1]) (args := [v1, v2, v3, v4, v5, v6, v7]) (st := st) hf hk rfl hs ht hp hst h
end ZSU
