/-! ONE STEP, AS AN EQUATION: an instruction's fetch is the first premise; pc' is where it goes on. -/
section ZST
variable {d : Nat} {call : Nat → List Value → zM → Option zR} {cd : List zRI} {pc : Nat} {L : zL} {st : List Value} {c sl len a b : Nat} {k : Int} {ext : List Nat} {μ : zM} {I : Nat → Nat → Int32} {R : Option zR}
theorem ys_of {q : zRI} {S' : zS} (hf : zfetch cd pc = q) (h : zx d call q (pc, L, st, c, sl, μ) = some (.inl S')) : zden1 d call cd (pc, L, st, c, sl, μ) = zden1 d call cd S' := by
  refine zden1_step ?_
  show zx d call (zfetch cd pc) _ = _
  rw [hf]
  exact h
theorem ys_end {q : zRI} {r : zR} (hf : zfetch cd pc = q) (h : zx d call q (pc, L, st, c, sl, μ) = some (.inr r)) : zden1 d call cd (pc, L, st, c, sl, μ) = some r := by
  refine zden1_end ?_
  show zx d call (zfetch cd pc) _ = _
  rw [hf]
  exact h
theorem ys1 (pc' : Nat) (hf : zfetch cd pc = (1, len, a, b, k, ext)) {x : Int32} (hx : Int32.ofInt k = x) (hp : pc + len = pc') : zden1 d call cd (pc, L, st, c, sl, μ) = zden1 d call cd (pc', L, .int x :: st, c, sl, μ) := by
  subst hp
  refine ys_of hf ?_
  subst hx
  rfl

theorem ys2 (pc' : Nat) (hf : zfetch cd pc = (2, len, a, b, k, ext)) {x : Int32} (hx : Int32.ofInt k = x) (hp : pc + len = pc') : zden1 d call cd (pc, L, st, c, sl, μ) = zden1 d call cd (pc', L, .int x :: st, c, sl, μ) := by
  subst hp
  refine ys_of hf ?_
  subst hx
  rfl

theorem ys3 (pc' : Nat) (hf : zfetch cd pc = (3, len, a, b, k, ext)) {x : Int64} (hx : Int64.ofInt k = x) (hp : pc + len = pc') : zden1 d call cd (pc, L, st, c, sl, μ) = zden1 d call cd (pc', L, .long x :: st, c, sl, μ) := by
  subst hp
  refine ys_of hf ?_
  subst hx
  rfl

theorem ys4 (pc' : Nat) (hf : zfetch cd pc = (4, len, a, b, k, ext)) {v : Value} (hl : L.lookup a = some v) (hk : zkind v = b) (hp : pc + len = pc') : zden1 d call cd (pc, L, st, c, sl, μ) = zden1 d call cd (pc', L, v :: st, c, sl, μ) := by
  subst hp
  refine ys_of hf ?_
  show zo4 len a b (pc, L, st, c, sl, μ) = _
  unfold zo4
  dsimp only
  rw [hl]
  dsimp only
  rw [if_pos hk]

theorem ys5 (pc' : Nat) {v : Value} (hf : zfetch cd pc = (5, len, a, b, k, ext)) {L2 : zL} (hk : zkind v = b) (hL : zst b L a v = L2) (hp : pc + len = pc') : zden1 d call cd (pc, L, v :: st, c, sl, μ) = zden1 d call cd (pc', L2, st, c, sl, μ) := by
  subst hp
  refine ys_of hf ?_
  subst hL
  show zo5 len a b (pc, L, v :: st, c, sl, μ) = _
  unfold zo5
  dsimp only
  rw [if_pos hk]

theorem ys6 (pc' : Nat) (hf : zfetch cd pc = (6, len, a, b, k, ext)) {x y : Int32} {L2 : zL} (hl : L.lookup a = some (.int x)) (hy : x + Int32.ofInt k = y) (hL : zst 0 L a (.int y) = L2) (hp : pc + len = pc') : zden1 d call cd (pc, L, st, c, sl, μ) = zden1 d call cd (pc', L2, st, c, sl, μ) := by
  subst hp
  refine ys_of hf ?_
  subst hL
  subst hy
  show zo6 len a k (pc, L, st, c, sl, μ) = _
  unfold zo6
  dsimp only
  rw [hl]

theorem ys7_0 (pc' : Nat) {x y : Int32} (hf : zfetch cd pc = (7, len, a, 0, k, ext))  (hp : pc + 1 = pc') : zden1 d call cd (pc, L, .int y :: .int x :: st, c, sl, μ) = zden1 d call cd (pc', L, .int (x + y) :: st, c, sl, μ) := by
  subst hp
  refine ys_of hf ?_
  rfl

theorem ys7_1 (pc' : Nat) {x y : Int32} (hf : zfetch cd pc = (7, len, a, 1, k, ext))  (hp : pc + 1 = pc') : zden1 d call cd (pc, L, .int y :: .int x :: st, c, sl, μ) = zden1 d call cd (pc', L, .int (x - y) :: st, c, sl, μ) := by
  subst hp
  refine ys_of hf ?_
  rfl

theorem ys7_2 (pc' : Nat) {x y : Int32} (hf : zfetch cd pc = (7, len, a, 2, k, ext))  (hp : pc + 1 = pc') : zden1 d call cd (pc, L, .int y :: .int x :: st, c, sl, μ) = zden1 d call cd (pc', L, .int (x * y) :: st, c, sl, μ) := by
  subst hp
  refine ys_of hf ?_
  rfl

theorem ys7_3 (pc' : Nat) {x y : Int32} (hf : zfetch cd pc = (7, len, a, 3, k, ext))  (hp : pc + 1 = pc') : zden1 d call cd (pc, L, .int y :: .int x :: st, c, sl, μ) = zden1 d call cd (pc', L, .int (x &&& y) :: st, c, sl, μ) := by
  subst hp
  refine ys_of hf ?_
  rfl

theorem ys7_4 (pc' : Nat) {x y : Int32} (hf : zfetch cd pc = (7, len, a, 4, k, ext))  (hp : pc + 1 = pc') : zden1 d call cd (pc, L, .int y :: .int x :: st, c, sl, μ) = zden1 d call cd (pc', L, .int (x ||| y) :: st, c, sl, μ) := by
  subst hp
  refine ys_of hf ?_
  rfl

theorem ys7_5 (pc' : Nat) {x y : Int32} (hf : zfetch cd pc = (7, len, a, 5, k, ext))  (hp : pc + 1 = pc') : zden1 d call cd (pc, L, .int y :: .int x :: st, c, sl, μ) = zden1 d call cd (pc', L, .int (x ^^^ y) :: st, c, sl, μ) := by
  subst hp
  refine ys_of hf ?_
  rfl

theorem ys7 (pc' : Nat) {x y : Int32} (hf : zfetch cd pc = (7, len, a, b, k, ext))  (hp : pc + 1 = pc') : zden1 d call cd (pc, L, .int y :: .int x :: st, c, sl, μ) = zden1 d call cd (pc', L, .int (zbin b x y) :: st, c, sl, μ) := by
  subst hp
  refine ys_of hf ?_
  rfl

theorem ys8 (pc' : Nat) {x y : Int32} (hf : zfetch cd pc = (8, len, a, b, k, ext)) (h0 : y ≠ 0)  (hp : pc + 1 = pc') : zden1 d call cd (pc, L, .int y :: .int x :: st, c, sl, μ) = zden1 d call cd (pc', L, .int (x / y) :: st, c, sl, μ) := by
  subst hp
  refine ys_of hf ?_
  show zo8 (pc, L, .int y :: .int x :: st, c, sl, μ) = _
  unfold zo8
  dsimp only
  rw [if_neg h0]

theorem ys9 (pc' : Nat) {x y : Int32} (hf : zfetch cd pc = (9, len, a, b, k, ext)) (h0 : y ≠ 0)  (hp : pc + 1 = pc') : zden1 d call cd (pc, L, .int y :: .int x :: st, c, sl, μ) = zden1 d call cd (pc', L, .int (x - x / y * y) :: st, c, sl, μ) := by
  subst hp
  refine ys_of hf ?_
  show zo9 (pc, L, .int y :: .int x :: st, c, sl, μ) = _
  unfold zo9
  dsimp only
  rw [if_neg h0]

theorem ys10 (pc' : Nat) {x : Int32} (hf : zfetch cd pc = (10, len, a, b, k, ext))  (hp : pc + 1 = pc') : zden1 d call cd (pc, L, .int x :: st, c, sl, μ) = zden1 d call cd (pc', L, zun b x :: st, c, sl, μ) := by
  subst hp
  refine ys_of hf ?_
  rfl

theorem ys11 (pc' : Nat) {x y : Int64} (hf : zfetch cd pc = (11, len, a, b, k, ext))  (hp : pc + 1 = pc') : zden1 d call cd (pc, L, .long y :: .long x :: st, c, sl, μ) = zden1 d call cd (pc', L, zlon b x y :: st, c, sl, μ) := by
  subst hp
  refine ys_of hf ?_
  rfl

theorem ys14 (pc' : Nat) {v : Value} (hf : zfetch cd pc = (14, len, a, b, k, ext)) (hk : zkind v < 2)  (hp : pc + 1 = pc') : zden1 d call cd (pc, L, v :: st, c, sl, μ) = zden1 d call cd (pc', L, v :: v :: st, c, sl, μ) := by
  subst hp
  refine ys_of hf ?_
  show zo14 (pc, L, v :: st, c, sl, μ) = _
  unfold zo14
  dsimp only
  rw [if_pos hk]

theorem ys15 (pc' : Nat) {v u : Value} (hf : zfetch cd pc = (15, len, a, b, k, ext)) (hk : zkind v < 2) (hu : zkind u < 2)  (hp : pc + 1 = pc') : zden1 d call cd (pc, L, v :: u :: st, c, sl, μ) = zden1 d call cd (pc', L, v :: u :: v :: u :: st, c, sl, μ) := by
  subst hp
  refine ys_of hf ?_
  show zo15 (pc, L, v :: u :: st, c, sl, μ) = _
  unfold zo15
  dsimp only
  rw [if_pos ⟨hk, hu⟩]

theorem ys16 (pc' : Nat) {v : Value} (hf : zfetch cd pc = (16, len, a, b, k, ext)) (hk : zkind v < 2)  (hp : pc + 1 = pc') : zden1 d call cd (pc, L, v :: st, c, sl, μ) = zden1 d call cd (pc', L, st, c, sl, μ) := by
  subst hp
  refine ys_of hf ?_
  show zo16 (pc, L, v :: st, c, sl, μ) = _
  unfold zo16
  dsimp only
  rw [if_pos hk]

theorem ys17_0 (pc' : Nat) {x : Int32} (hf : zfetch cd pc = (17, len, a, 0, k, ext)) (hp : pc + 3 = pc') (h1 : x = 0 → zden1 d call cd (a, L, st, c, sl, μ) = R) (h2 : ¬ (x = 0) → zden1 d call cd (pc', L, st, c, sl, μ) = R) : zden1 d call cd (pc, L, .int x :: st, c, sl, μ) = R := by
  subst hp
  have h := ys_of (d := d) (call := call) (L := L) (st := .int x :: st) (c := c) (sl := sl) (μ := μ) (S' := (if x = 0 then a else pc + 3, L, st, c, sl, μ)) hf rfl
  rw [h]
  by_cases hc : x = 0
  · rw [if_pos hc]
    exact h1 hc
  · rw [if_neg hc]
    exact h2 hc

theorem ys17_1 (pc' : Nat) {x : Int32} (hf : zfetch cd pc = (17, len, a, 1, k, ext)) (hp : pc + 3 = pc') (h1 : x = 0 → zden1 d call cd (pc', L, st, c, sl, μ) = R) (h2 : ¬ (x = 0) → zden1 d call cd (a, L, st, c, sl, μ) = R) : zden1 d call cd (pc, L, .int x :: st, c, sl, μ) = R := by
  subst hp
  have h := ys_of (d := d) (call := call) (L := L) (st := .int x :: st) (c := c) (sl := sl) (μ := μ) (S' := (if x = 0 then pc + 3 else a, L, st, c, sl, μ)) hf rfl
  rw [h]
  by_cases hc : x = 0
  · rw [if_pos hc]
    exact h1 hc
  · rw [if_neg hc]
    exact h2 hc

theorem ys17_2 (pc' : Nat) {x : Int32} (hf : zfetch cd pc = (17, len, a, 2, k, ext)) (hp : pc + 3 = pc') (h1 : x < 0 → zden1 d call cd (a, L, st, c, sl, μ) = R) (h2 : ¬ (x < 0) → zden1 d call cd (pc', L, st, c, sl, μ) = R) : zden1 d call cd (pc, L, .int x :: st, c, sl, μ) = R := by
  subst hp
  have h := ys_of (d := d) (call := call) (L := L) (st := .int x :: st) (c := c) (sl := sl) (μ := μ) (S' := (if x < 0 then a else pc + 3, L, st, c, sl, μ)) hf rfl
  rw [h]
  by_cases hc : x < 0
  · rw [if_pos hc]
    exact h1 hc
  · rw [if_neg hc]
    exact h2 hc

theorem ys17_3 (pc' : Nat) {x : Int32} (hf : zfetch cd pc = (17, len, a, 3, k, ext)) (hp : pc + 3 = pc') (h1 : 0 ≤ x → zden1 d call cd (a, L, st, c, sl, μ) = R) (h2 : ¬ (0 ≤ x) → zden1 d call cd (pc', L, st, c, sl, μ) = R) : zden1 d call cd (pc, L, .int x :: st, c, sl, μ) = R := by
  subst hp
  have h := ys_of (d := d) (call := call) (L := L) (st := .int x :: st) (c := c) (sl := sl) (μ := μ) (S' := (if 0 ≤ x then a else pc + 3, L, st, c, sl, μ)) hf rfl
  rw [h]
  by_cases hc : 0 ≤ x
  · rw [if_pos hc]
    exact h1 hc
  · rw [if_neg hc]
    exact h2 hc

theorem ys17_4 (pc' : Nat) {x : Int32} (hf : zfetch cd pc = (17, len, a, 4, k, ext)) (hp : pc + 3 = pc') (h1 : 0 < x → zden1 d call cd (a, L, st, c, sl, μ) = R) (h2 : ¬ (0 < x) → zden1 d call cd (pc', L, st, c, sl, μ) = R) : zden1 d call cd (pc, L, .int x :: st, c, sl, μ) = R := by
  subst hp
  have h := ys_of (d := d) (call := call) (L := L) (st := .int x :: st) (c := c) (sl := sl) (μ := μ) (S' := (if 0 < x then a else pc + 3, L, st, c, sl, μ)) hf rfl
  rw [h]
  by_cases hc : 0 < x
  · rw [if_pos hc]
    exact h1 hc
  · rw [if_neg hc]
    exact h2 hc

theorem ys17_5 (pc' : Nat) {x : Int32} (hf : zfetch cd pc = (17, len, a, 5, k, ext)) (hp : pc + 3 = pc') (h1 : x ≤ 0 → zden1 d call cd (a, L, st, c, sl, μ) = R) (h2 : ¬ (x ≤ 0) → zden1 d call cd (pc', L, st, c, sl, μ) = R) : zden1 d call cd (pc, L, .int x :: st, c, sl, μ) = R := by
  subst hp
  have h := ys_of (d := d) (call := call) (L := L) (st := .int x :: st) (c := c) (sl := sl) (μ := μ) (S' := (if x ≤ 0 then a else pc + 3, L, st, c, sl, μ)) hf rfl
  rw [h]
  by_cases hc : x ≤ 0
  · rw [if_pos hc]
    exact h1 hc
  · rw [if_neg hc]
    exact h2 hc

theorem ys18_0 (pc' : Nat) {x y : Int32} (hf : zfetch cd pc = (18, len, a, 0, k, ext)) (hp : pc + 3 = pc') (h1 : x = y → zden1 d call cd (a, L, st, c, sl, μ) = R) (h2 : ¬ (x = y) → zden1 d call cd (pc', L, st, c, sl, μ) = R) : zden1 d call cd (pc, L, .int y :: .int x :: st, c, sl, μ) = R := by
  subst hp
  have h := ys_of (d := d) (call := call) (L := L) (st := .int y :: .int x :: st) (c := c) (sl := sl) (μ := μ) (S' := (if x = y then a else pc + 3, L, st, c, sl, μ)) hf rfl
  rw [h]
  by_cases hc : x = y
  · rw [if_pos hc]
    exact h1 hc
  · rw [if_neg hc]
    exact h2 hc

theorem ys18_1 (pc' : Nat) {x y : Int32} (hf : zfetch cd pc = (18, len, a, 1, k, ext)) (hp : pc + 3 = pc') (h1 : x = y → zden1 d call cd (pc', L, st, c, sl, μ) = R) (h2 : ¬ (x = y) → zden1 d call cd (a, L, st, c, sl, μ) = R) : zden1 d call cd (pc, L, .int y :: .int x :: st, c, sl, μ) = R := by
  subst hp
  have h := ys_of (d := d) (call := call) (L := L) (st := .int y :: .int x :: st) (c := c) (sl := sl) (μ := μ) (S' := (if x = y then pc + 3 else a, L, st, c, sl, μ)) hf rfl
  rw [h]
  by_cases hc : x = y
  · rw [if_pos hc]
    exact h1 hc
  · rw [if_neg hc]
    exact h2 hc

theorem ys18_2 (pc' : Nat) {x y : Int32} (hf : zfetch cd pc = (18, len, a, 2, k, ext)) (hp : pc + 3 = pc') (h1 : x < y → zden1 d call cd (a, L, st, c, sl, μ) = R) (h2 : ¬ (x < y) → zden1 d call cd (pc', L, st, c, sl, μ) = R) : zden1 d call cd (pc, L, .int y :: .int x :: st, c, sl, μ) = R := by
  subst hp
  have h := ys_of (d := d) (call := call) (L := L) (st := .int y :: .int x :: st) (c := c) (sl := sl) (μ := μ) (S' := (if x < y then a else pc + 3, L, st, c, sl, μ)) hf rfl
  rw [h]
  by_cases hc : x < y
  · rw [if_pos hc]
    exact h1 hc
  · rw [if_neg hc]
    exact h2 hc

theorem ys18_3 (pc' : Nat) {x y : Int32} (hf : zfetch cd pc = (18, len, a, 3, k, ext)) (hp : pc + 3 = pc') (h1 : y ≤ x → zden1 d call cd (a, L, st, c, sl, μ) = R) (h2 : ¬ (y ≤ x) → zden1 d call cd (pc', L, st, c, sl, μ) = R) : zden1 d call cd (pc, L, .int y :: .int x :: st, c, sl, μ) = R := by
  subst hp
  have h := ys_of (d := d) (call := call) (L := L) (st := .int y :: .int x :: st) (c := c) (sl := sl) (μ := μ) (S' := (if y ≤ x then a else pc + 3, L, st, c, sl, μ)) hf rfl
  rw [h]
  by_cases hc : y ≤ x
  · rw [if_pos hc]
    exact h1 hc
  · rw [if_neg hc]
    exact h2 hc

theorem ys18_4 (pc' : Nat) {x y : Int32} (hf : zfetch cd pc = (18, len, a, 4, k, ext)) (hp : pc + 3 = pc') (h1 : y < x → zden1 d call cd (a, L, st, c, sl, μ) = R) (h2 : ¬ (y < x) → zden1 d call cd (pc', L, st, c, sl, μ) = R) : zden1 d call cd (pc, L, .int y :: .int x :: st, c, sl, μ) = R := by
  subst hp
  have h := ys_of (d := d) (call := call) (L := L) (st := .int y :: .int x :: st) (c := c) (sl := sl) (μ := μ) (S' := (if y < x then a else pc + 3, L, st, c, sl, μ)) hf rfl
  rw [h]
  by_cases hc : y < x
  · rw [if_pos hc]
    exact h1 hc
  · rw [if_neg hc]
    exact h2 hc

theorem ys18_5 (pc' : Nat) {x y : Int32} (hf : zfetch cd pc = (18, len, a, 5, k, ext)) (hp : pc + 3 = pc') (h1 : x ≤ y → zden1 d call cd (a, L, st, c, sl, μ) = R) (h2 : ¬ (x ≤ y) → zden1 d call cd (pc', L, st, c, sl, μ) = R) : zden1 d call cd (pc, L, .int y :: .int x :: st, c, sl, μ) = R := by
  subst hp
  have h := ys_of (d := d) (call := call) (L := L) (st := .int y :: .int x :: st) (c := c) (sl := sl) (μ := μ) (S' := (if x ≤ y then a else pc + 3, L, st, c, sl, μ)) hf rfl
  rw [h]
  by_cases hc : x ≤ y
  · rw [if_pos hc]
    exact h1 hc
  · rw [if_neg hc]
    exact h2 hc

theorem ys19 (hf : zfetch cd pc = (19, len, a, b, k, ext)) : zden1 d call cd (pc, L, st, c, sl, μ) = zden1 d call cd (a, L, st, c, sl, μ) := ys_of hf rfl
theorem ys20_0 (pc' : Nat) {x y : Nat} (hf : zfetch cd pc = (20, len, a, 0, k, ext)) (hx : x < 20) (hy : y < 20) (hp : pc + 3 = pc') (h1 : x = y → zden1 d call cd (a, L, st, c, sl, μ) = R) (h2 : ¬ x = y → zden1 d call cd (pc', L, st, c, sl, μ) = R) : zden1 d call cd (pc, L, .ref y :: .ref x :: st, c, sl, μ) = R := by
  subst hp
  have h := ys_of (d := d) (call := call) (L := L) (st := .ref y :: .ref x :: st) (c := c) (sl := sl) (μ := μ) (S' := (if x = y then a else pc + 3, L, st, c, sl, μ)) hf (by show zo20 a 0 (pc, L, .ref y :: .ref x :: st, c, sl, μ) = _; unfold zo20; dsimp only; rw [if_pos ⟨hx, hy⟩, if_pos rfl])
  rw [h]
  by_cases hc : x = y
  · rw [if_pos hc]
    exact h1 hc
  · rw [if_neg hc]
    exact h2 hc
theorem ys20_1 (pc' : Nat) {x y : Nat} (hf : zfetch cd pc = (20, len, a, 1, k, ext)) (hx : x < 20) (hy : y < 20) (hp : pc + 3 = pc') (h1 : x = y → zden1 d call cd (pc', L, st, c, sl, μ) = R) (h2 : ¬ x = y → zden1 d call cd (a, L, st, c, sl, μ) = R) : zden1 d call cd (pc, L, .ref y :: .ref x :: st, c, sl, μ) = R := by
  subst hp
  have h := ys_of (d := d) (call := call) (L := L) (st := .ref y :: .ref x :: st) (c := c) (sl := sl) (μ := μ) (S' := (if x = y then pc + 3 else a, L, st, c, sl, μ)) hf (by show zo20 a 1 (pc, L, .ref y :: .ref x :: st, c, sl, μ) = _; unfold zo20; dsimp only; rw [if_pos ⟨hx, hy⟩, if_neg (by decide)])
  rw [h]
  by_cases hc : x = y
  · rw [if_pos hc]
    exact h1 hc
  · rw [if_neg hc]
    exact h2 hc
theorem ys21 {x : Int32} (hf : zfetch cd pc = (21, len, a, b, k, ext)) : zden1 d call cd (pc, L, .int x :: st, c, sl, μ) = zden1 d call cd (if x.toInt < a ∨ (a : Int) + ext.length ≤ x.toInt then b else ext.getD (x.toInt - a).toNat 0, L, st, c, sl, μ) := ys_of hf rfl
theorem ys22 {x : Int32} (hf : zfetch cd pc = (22, len, a, b, k, ext)) : zden1 d call cd (pc, L, .int x :: st, c, sl, μ) = zden1 d call cd (zlk ext x b, L, st, c, sl, μ) := ys_of hf rfl
theorem ys23i (pc' : Nat) {r : Nat} (hf : zfetch cd pc = (23, len, a, b, 0, ext)) (ht : ztg μ r = a) (hn : b < zni μ r)  (hp : pc + 3 = pc') : zden1 d call cd (pc, L, .ref r :: st, c, sl, zwi μ I) = zden1 d call cd (pc', L, .int (I r b) :: st, c, sl, zwi μ I) := by
  subst hp
  refine ys_of hf ?_
  show zo23 a b 0 (pc, L, .ref r :: st, c, sl, zwi μ I) = _
  unfold zo23
  dsimp only
  rw [if_pos (by rw [ztg_wi]; exact ht), if_pos rfl, zgi_wi hn]

theorem ys23r (pc' : Nat) {r : Nat} (hf : zfetch cd pc = (23, len, a, b, 1, ext)) {q : Option Nat} (ht : ztg μ r = a) (hq : zgr μ r b = q)  (hp : pc + 3 = pc') : zden1 d call cd (pc, L, .ref r :: st, c, sl, zwi μ I) = zden1 d call cd (pc', L, va_rf q :: st, c, sl, zwi μ I) := by
  subst hp
  refine ys_of hf ?_
  subst hq
  show zo23 a b 1 (pc, L, .ref r :: st, c, sl, zwi μ I) = _
  unfold zo23
  dsimp only
  rw [if_pos (by rw [ztg_wi]; exact ht), if_neg (by decide), zgr_wi]

theorem ys24i (pc' : Nat) {r : Nat} {x : Int32} (hf : zfetch cd pc = (24, len, a, b, 0, ext)) (ht : ztg μ r = a) (hz : zK0 ≤ r) (hn : b < zni μ r)  (hp : pc + 3 = pc') : zden1 d call cd (pc, L, .int x :: .ref r :: st, c, sl, zwi μ I) = zden1 d call cd (pc', L, st, c, sl, zwi μ (zup I r b x)) := by
  subst hp
  refine ys_of hf ?_
  show zo24 a b 0 (pc, L, .int x :: .ref r :: st, c, sl, zwi μ I) = _
  unfold zo24
  dsimp only
  rw [if_pos (by rw [ztg_wi]; exact ⟨ht, hz⟩), if_pos rfl, if_pos (by rw [zni_wi]; exact hn), zsi_wi]

theorem ys24r (pc' : Nat) {r : Nat} {v : Value} (hf : zfetch cd pc = (24, len, a, b, 1, ext)) {x : Option Nat} (ht : ztg μ r = a) (hz : zK0 ≤ r) (hn : b < znr μ r) (hv : zmr v = some x)  (hp : pc + 3 = pc') : zden1 d call cd (pc, L, v :: .ref r :: st, c, sl, zwi μ I) = zden1 d call cd (pc', L, st, c, sl, zwi (zsr μ r b x) I) := by
  subst hp
  refine ys_of hf ?_
  show zo24 a b 1 (pc, L, v :: .ref r :: st, c, sl, zwi μ I) = _
  unfold zo24
  dsimp only
  rw [if_pos (by rw [ztg_wi]; exact ⟨ht, hz⟩), if_neg (by decide), hv]
  dsimp only
  rw [if_pos (by rw [znr_wi]; exact hn), zsr_wi]

theorem ys25 (pc' : Nat) (hf : zfetch cd pc = (25, len, a, b, k, ext)) {v : Value} (hv : zsv a = v)  (hp : pc + 3 = pc') : zden1 d call cd (pc, L, st, c, sl, μ) = zden1 d call cd (pc', L, v :: st, c, sl, μ) := by
  subst hp
  refine ys_of hf ?_
  subst hv
  rfl

theorem ys26i (pc' : Nat) {r : Nat} {j : Int32} (hf : zfetch cd pc = (26, len, a, 0, k, ext)) (ht : ztg μ r = 20 ∨ ztg μ r = 30) (h0 : ¬ j < 0) (hj : j.toNatClampNeg < zni μ r)  (hp : pc + 1 = pc') : zden1 d call cd (pc, L, .int j :: .ref r :: st, c, sl, zwi μ I) = zden1 d call cd (pc', L, .int (I r j.toNatClampNeg) :: st, c, sl, zwi μ I) := by
  subst hp
  refine ys_of hf ?_
  show zo26 0 (pc, L, .int j :: .ref r :: st, c, sl, zwi μ I) = _
  unfold zo26
  dsimp only
  rw [if_pos rfl, if_pos (by rw [ztg_wi, zni_wi]; exact ⟨ht, by intro h; rcases h with h | h; exact h0 h; omega⟩), zgi_wi hj]

theorem ys26b (pc' : Nat) {r : Nat} {j : Int32} (hf : zfetch cd pc = (26, len, a, 1, k, ext)) (ht : ztg μ r = 21 ∨ ztg μ r = 31) (h0 : ¬ j < 0) (hj : j.toNatClampNeg < zni μ r)  (hp : pc + 1 = pc') : zden1 d call cd (pc, L, .int j :: .ref r :: st, c, sl, zwi μ I) = zden1 d call cd (pc', L, .int (I r j.toNatClampNeg) :: st, c, sl, zwi μ I) := by
  subst hp
  refine ys_of hf ?_
  show zo26 1 (pc, L, .int j :: .ref r :: st, c, sl, zwi μ I) = _
  unfold zo26
  dsimp only
  rw [if_neg (by decide), if_pos rfl, if_pos (by rw [ztg_wi, zni_wi]; exact ⟨ht, by intro h; rcases h with h | h; exact h0 h; omega⟩), zgi_wi hj]

theorem ys26l (pc' : Nat) {r : Nat} {j : Int32} (hf : zfetch cd pc = (26, len, a, 2, k, ext)) (ht : ztg μ r = 22) (h0 : ¬ j < 0) (hj : j.toNatClampNeg < znl μ r)  (hp : pc + 1 = pc') : zden1 d call cd (pc, L, .int j :: .ref r :: st, c, sl, zwi μ I) = zden1 d call cd (pc', L, .long (zgl μ r j.toNatClampNeg) :: st, c, sl, zwi μ I) := by
  subst hp
  refine ys_of hf ?_
  show zo26 2 (pc, L, .int j :: .ref r :: st, c, sl, zwi μ I) = _
  unfold zo26
  dsimp only
  rw [if_neg (by decide), if_neg (by decide), if_pos rfl, if_pos (by rw [ztg_wi, znl_wi]; exact ⟨ht, by intro h; rcases h with h | h; exact h0 h; omega⟩), zgl_wi]

theorem ys26r (pc' : Nat) {r : Nat} {j : Int32} (hf : zfetch cd pc = (26, len, a, 3, k, ext)) {q : Option Nat} (ht : (23 ≤ ztg μ r ∧ ztg μ r < 28) ∨ ztg μ r = 32 ∨ ztg μ r = 35) (h0 : ¬ j < 0) (hj : j.toNatClampNeg < znr μ r) (hq : zgr μ r j.toNatClampNeg = q)  (hp : pc + 1 = pc') : zden1 d call cd (pc, L, .int j :: .ref r :: st, c, sl, zwi μ I) = zden1 d call cd (pc', L, va_rf q :: st, c, sl, zwi μ I) := by
  subst hp
  refine ys_of hf ?_
  subst hq
  show zo26 3 (pc, L, .int j :: .ref r :: st, c, sl, zwi μ I) = _
  unfold zo26
  dsimp only
  rw [if_neg (by decide), if_neg (by decide), if_neg (by decide), if_pos (by rw [ztg_wi, znr_wi]; exact ⟨ht, by intro h; rcases h with h | h; exact h0 h; omega⟩), zgr_wi]

theorem ys27i (pc' : Nat) {r : Nat} {j x : Int32} (hf : zfetch cd pc = (27, len, a, 0, k, ext)) (ht : ztg μ r = 20) (hz : zK0 ≤ r) (h0 : ¬ j < 0) (hj : j.toNatClampNeg < zni μ r)  (hp : pc + 1 = pc') : zden1 d call cd (pc, L, .int x :: .int j :: .ref r :: st, c, sl, zwi μ I) = zden1 d call cd (pc', L, st, c, sl, zwi μ (zup I r j.toNatClampNeg x)) := by
  subst hp
  refine ys_of hf ?_
  show zo27 0 (pc, L, .int x :: .int j :: .ref r :: st, c, sl, zwi μ I) = _
  unfold zo27
  dsimp only
  rw [if_pos ⟨hz, h0⟩]
  show (if ztg (zwi μ I) r = 20 ∧ j.toNatClampNeg < zni (zwi μ I) r then (some (.inl (pc + 1, L, st, c, sl, zsi (zwi μ I) r j.toNatClampNeg x)) : zO) else none) = _
  rw [if_pos (by rw [ztg_wi, zni_wi]; exact ⟨ht, hj⟩), zsi_wi]

theorem ys27b (pc' : Nat) {r : Nat} {j x : Int32} (hf : zfetch cd pc = (27, len, a, 1, k, ext)) (ht : ztg μ r = 21) (hz : zK0 ≤ r) (h0 : ¬ j < 0) (hj : j.toNatClampNeg < zni μ r)  (hp : pc + 1 = pc') : zden1 d call cd (pc, L, .int x :: .int j :: .ref r :: st, c, sl, zwi μ I) = zden1 d call cd (pc', L, st, c, sl, zwi μ (zup I r j.toNatClampNeg x.toInt8.toInt32)) := by
  subst hp
  refine ys_of hf ?_
  show zo27 1 (pc, L, .int x :: .int j :: .ref r :: st, c, sl, zwi μ I) = _
  unfold zo27
  dsimp only
  rw [if_pos ⟨hz, h0⟩]
  show (if ztg (zwi μ I) r = 21 ∧ j.toNatClampNeg < zni (zwi μ I) r then (some (.inl (pc + 1, L, st, c, sl, zsi (zwi μ I) r j.toNatClampNeg x.toInt8.toInt32)) : zO) else none) = _
  rw [if_pos (by rw [ztg_wi, zni_wi]; exact ⟨ht, hj⟩), zsi_wi]

theorem ys27l (pc' : Nat) {r : Nat} {j : Int32} {x : Int64} (hf : zfetch cd pc = (27, len, a, 2, k, ext)) (ht : ztg μ r = 22) (hz : zK0 ≤ r) (h0 : ¬ j < 0) (hj : j.toNatClampNeg < znl μ r)  (hp : pc + 1 = pc') : zden1 d call cd (pc, L, .long x :: .int j :: .ref r :: st, c, sl, zwi μ I) = zden1 d call cd (pc', L, st, c, sl, zwi (zsl μ r j.toNatClampNeg x) I) := by
  subst hp
  refine ys_of hf ?_
  show zo27 2 (pc, L, .long x :: .int j :: .ref r :: st, c, sl, zwi μ I) = _
  unfold zo27
  dsimp only
  rw [if_pos ⟨hz, h0⟩]
  show (if ztg (zwi μ I) r = 22 ∧ j.toNatClampNeg < znl (zwi μ I) r then (some (.inl (pc + 1, L, st, c, sl, zsl (zwi μ I) r j.toNatClampNeg x)) : zO) else none) = _
  rw [if_pos (by rw [ztg_wi, znl_wi]; exact ⟨ht, hj⟩), zsl_wi]

theorem ys27r (pc' : Nat) {r q : Nat} {j : Int32} (hf : zfetch cd pc = (27, len, a, 3, k, ext)) (ht : ((4 ≤ ztg μ q ∧ ztg μ q < 8) ∨ ztg μ q = 33) ∧ 23 ≤ ztg μ r ∧ ztg μ r < 28 ∧ ztg μ r = zel (ztg μ q) ∧ q ≠ zUK) (hz : zK0 ≤ r) (h0 : ¬ j < 0) (hj : j.toNatClampNeg < znr μ r)  (hp : pc + 1 = pc') : zden1 d call cd (pc, L, .ref q :: .int j :: .ref r :: st, c, sl, zwi μ I) = zden1 d call cd (pc', L, st, c, sl, zwi (zsr μ r j.toNatClampNeg (some q)) I) := by
  subst hp
  refine ys_of hf ?_
  obtain ⟨t1, t2, t3, t4, t5⟩ := ht
  show zo27 3 (pc, L, .ref q :: .int j :: .ref r :: st, c, sl, zwi μ I) = _
  unfold zo27
  dsimp only
  rw [if_pos ⟨hz, h0⟩]
  show (if ((4 ≤ ztg (zwi μ I) q ∧ ztg (zwi μ I) q < 8) ∨ ztg (zwi μ I) q = 33) ∧ 23 ≤ ztg (zwi μ I) r ∧ ztg (zwi μ I) r < 28 ∧ ztg (zwi μ I) r = zel (ztg (zwi μ I) q) ∧ q ≠ zUK ∧ j.toNatClampNeg < znr (zwi μ I) r then (some (.inl (pc + 1, L, st, c, sl, zsr (zwi μ I) r j.toNatClampNeg (some q))) : zO) else none) = _
  rw [if_pos (by rw [ztg_wi, ztg_wi, znr_wi]; exact ⟨t1, t2, t3, t4, t5, hj⟩), zsr_wi]

theorem ys28 (pc' : Nat) {r : Nat} (hf : zfetch cd pc = (28, len, a, b, k, ext)) {n : Nat} {x : Int32} (hl : zal μ r = some n) (hx : Int32.ofNat n = x)  (hp : pc + 1 = pc') : zden1 d call cd (pc, L, .ref r :: st, c, sl, zwi μ I) = zden1 d call cd (pc', L, .int x :: st, c, sl, zwi μ I) := by
  subst hp
  refine ys_of hf ?_
  subst hx
  show zo28 (pc, L, .ref r :: st, c, sl, zwi μ I) = _
  unfold zo28
  dsimp only
  rw [zal_wi, hl]

theorem ys36 {v : Value} (hf : zfetch cd pc = (36, len, a, b, k, ext)) (hd : zdig b (some v) = true) : zden1 d call cd (pc, L, [v], c, sl, μ) = some (0, some v, c, sl, μ) := by
  refine ys_end hf ?_
  show zo36 b (pc, L, [v], c, sl, μ) = _
  unfold zo36
  dsimp only
  rw [if_pos hd]
theorem ys36v (hf : zfetch cd pc = (36, len, a, b, k, ext)) (hd : zdig b none = true) : zden1 d call cd (pc, L, [], c, sl, μ) = some (0, none, c, sl, μ) := by
  refine ys_end hf ?_
  show zo36 b (pc, L, [], c, sl, μ) = _
  unfold zo36
  dsimp only
  rw [if_pos hd]
theorem ys35 (hf : zfetch cd pc = (35, len, a, b, k, ext)) (h7 : 7 ≤ d) (hs : (st.map fun v => v.category).sum ≤ 8) : zden1 d call cd (pc, L, st, c, sl, μ) = some (a + 1, none, c + 1, sl + 6, μ) := by
  refine ys_end hf ?_
  show zo35 d a (pc, L, st, c, sl, μ) = _
  unfold zo35
  dsimp only
  rw [if_pos ⟨h7, hs⟩]
/-- a call: args the receiver and operands in their order, vs the same as they lie on the stack -/
theorem ys32 (pc' : Nat) {vs args : List Value} {v : Option Value} {c1 s1 : Nat} {μ1 : zM} {st2 : List Value} (hf : zfetch cd pc = (32, len, a, b, k, ext)) (hk : vs.length = k.toNat) (ha : vs.reverse = args) (hs : (st.map fun v => v.category).sum ≤ 8) (ht : ext.getD 5 99 = 99 ∨ zhd μ args = ext.getD 5 99) (hp : pc + 3 = pc') (hst : v.toList ++ st = st2) (h : call a args μ = some (0, v, c1, s1, μ1)) :
    zden1 d call cd (pc, L, vs ++ st, c, sl, μ) = zden1 d call cd (pc', L, st2, c + c1, sl + s1, μ1) := by
  subst hp
  subst hst
  refine ys_of hf ?_
  show zo32 call a k.toNat (ext.getD 5 99) (pc, L, vs ++ st, c, sl, μ) = _
  unfold zo32
  dsimp only
  rw [← hk, List.drop_left, List.take_left, ha, if_pos ⟨by simp, hs, ht⟩, h]
  rfl
end ZST
/-- a method's entry -/
theorem zd_in {d m nL : Nat} {cd : List zRI} {args : List Value} {μ : zM} {L : zL} (hm : zcds m = (nL, cd)) (hc : (args.map fun v => v.category).sum ≤ nL) (hL : lv_args 0 args = L) : zden zcds (d + 1) m args μ = zden1 d (zden zcds d) cd (0, L, [], 0, 0, μ) := by
  show (if (args.map fun v => v.category).sum ≤ (zcds m).1 then zden1 d (zden zcds d) (zcds m).2 (0, lv_args 0 args, [], 0, 0, μ) else none) = _
  rw [hm, if_pos hc, hL]
