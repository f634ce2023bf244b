/-! A STATE THAT BECOMES ANOTHER ONE; A STATE AS A TEXT TELLS IT -/
theorem zwi_cg {μ : zM} {I J : zFn} (h : ∀ a k, a < μ.length → k < zni μ a → I a k = J a k) : zwi μ I = zwi μ J := by
  apply zm_ext
  · rw [zwi_len, zwi_len]
  · intro a ha
    rw [zwi_len] at ha
    rw [zen_wi, zen_wi]
    have e : (List.range (zen μ a).2.1.length).map (I a) = (List.range (zen μ a).2.1.length).map (J a) := by
      apply List.map_congr_left
      intro k hk
      exact h a k ha (List.mem_range.mp hk)
    unfold zwe1
    rw [e]
theorem zFS_cg {μ : zM} {b : Nat} {T N : List Nat} (hS : zFS μ b T N) (hl : N.length ≤ T.length) {J F G : zFn} (h : ∀ j k, j < N.length → k < N.getD j 0 → F j k = G j k) : zwi μ (zfl J b N.length F) = zwi μ (zfl J b N.length G) := by
  apply zwi_cg
  intro a k ha hk
  unfold zfl
  split
  · rename_i h1
    have h2 := (hS.2 (a - b) (by omega)).2
    rw [show b + (a - b) = a by omega] at h2
    exact h _ _ (by omega) (h2 ▸ hk)
  · rfl
theorem ys34 {d : Nat} {call : Nat → List Value → zM → Option zR} {cd : List zRI} {pc : Nat} {L : zL} {st : List Value} {c sl len a b : Nat} {k : Int} {ext : List Nat} {μ : zM} {I : zFn} (pc' : Nat) {n r0 r1 : Nat} {f : Nat → Int32} (hf : zfetch cd pc = (34, len, a, b, k, ext)) (hs : (st.map fun v => v.category).sum ≤ 8) (h0 : zK0 ≤ r0) (h1 : zK0 ≤ r1) (t0 : ztg μ r0 = 20) (t1 : ztg μ r1 = 20) (n0 : zni μ r0 = n) (n1 : zni μ r1 = n) (hn : n < 2 ^ 31) (hx : ∀ k, k < n → I r0 k = f k) (hp : pc + 3 = pc') : zden1 d call cd (pc, L, .int (nI n) :: .int 0 :: .ref r1 :: .int 0 :: .ref r0 :: st, c, sl, zwi μ I) = zden1 d call cd (pc', L, st, c, sl, zwi μ (fun b => if b = r1 then f else I b)) := by
  subst hp
  refine ys_of hf ?_
  show zo34 (pc, L, .int (nI n) :: .int 0 :: .ref r1 :: .int 0 :: .ref r0 :: st, c, sl, zwi μ I) = _
  have hz : ¬ (0 : Int32) < 0 := by decide
  have hc : (nI n).toNatClampNeg = n := nI_clamp hn
  have hc0 : (0 : Int32).toNatClampNeg = 0 := by decide
  unfold zo34
  dsimp only
  rw [if_pos ⟨hs, h0, h1, by rw [ztg_wi]; exact t0, by rw [ztg_wi]; exact t1, hz, hz, nI_pos hn, by rw [hc, hc0, zni_wi, n0]; omega, by rw [hc, hc0, zni_wi, n1]; omega⟩]
  have hlen1 : (zen (zwi μ I) r1).2.1.length = n := by
    have := zni_wi μ I r1
    unfold zni at this n1
    rw [this, n1]
  rw [zsI_wi (by unfold zcpy; rw [List.length_map, List.length_range, hlen1, n1])]
  rw [zwi_cg (J := fun b => if b = r1 then f else I b)]
  intro a k ha hk
  (try dsimp only)
  by_cases e : a = r1
  · subst e
    rw [if_pos rfl, if_pos rfl]
    rw [n1] at hk
    unfold zcpy
    rw [List.getD_eq_getElem?_getD, List.getElem?_map, hlen1, List.getElem?_range hk, hc, hc0]
    show (if 0 ≤ k ∧ k < 0 + n then (zen (zwi μ I) r0).2.1.getD (0 + (k - 0)) 0 else _) = _
    rw [if_pos ⟨Nat.zero_le _, by omega⟩]
    have h := zgi_wi (μ := μ) (I := I) (a := r0) (k := k) (by rw [n0]; exact hk)
    unfold zgi at h
    rw [show 0 + (k - 0) = k by omega, h, hx k hk]
  · rw [if_neg e, if_neg e]
/-- a row of a region replaced -/
def zrow (S : zFn) (j : Nat) (f : Nat → Int32) : zFn := fun a k => if a = j then f k else S a k
theorem zfl_row {I : zFn} {b n : Nat} {S : zFn} {j : Nat} {f : Nat → Int32} (hj : j < n) : (fun a => if a = b + j then f else zfl I b n S a) = zfl I b n (zrow S j f) := by
  funext a k
  unfold zfl zrow
  by_cases h : a = b + j
  · subst h
    rw [if_pos rfl, if_pos ⟨by omega, by omega⟩, if_pos (by omega)]
  · rw [if_neg h]
    split
    · rw [if_neg (by omega)]
    · rfl
theorem c_cpy {d : Nat} {x t s : Nat} {S T J : zFn} {μ : zM} (hC : zSC μ x t s J T) {src j n : Nat} {f : Nat → Int32} (hj : j < 22) (ht : [10, 20, 20, 20, 20, 20, 20, 20, 20, 20, 20, 20, 20, 20, 20, 20, 20, 20, 20, 20, 20, 20].getD j 0 = 20) (hn : [3, 6, 6, 6, 20, 20, 20, 20, 20, 20, 20, 20, 20, 6, 6, 6, 6, 12, 12, 12, 12, 12].getD j 0 = n) (hs : ztg μ src = 20) (hsn : zni μ src = n) (hk : zK0 ≤ src) (hf : ∀ k, k < n → zfl J s 22 S src k = f k) : zden zcds (d + 1) 185 [.ref (s + 0), .ref src, .ref (s + j)] (zwi μ (zfl J s 22 S)) = some (0, none, 0, 0, zwi μ (zfl J s 22 (zrow S j f))) := by
  have ht1 : ztg μ (s + j) = 20 := zFS.tag hC.1 hj ht
  have hn1 : zni μ (s + j) = n := zFS.ni hC.1 hj hn
  have hb : n < 2 ^ 31 := by
    have h : ∀ j, j < 22 → [3, 6, 6, 6, 20, 20, 20, 20, 20, 20, 20, 20, 20, 6, 6, 6, 6, 12, 12, 12, 12, 12].getD j 0 < 2 ^ 31 := by decide
    rw [← hn]
    exact h j hj
  refine (zd_in (d := d + 0) (cd := zc185) (nL := 3) (L := [(0, .ref (s + 0)), (1, .ref src), (2, .ref (s + j))]) rfl (Nat.le_of_ble_eq_true rfl) rfl).trans ?_
  refine (ys4 1 (v := .ref src) rfl rfl rfl rfl).trans ?_
  refine (ys1 2 (x := 0) rfl rfl rfl).trans ?_
  refine (ys4 3 (v := .ref (s + j)) rfl rfl rfl rfl).trans ?_
  refine (ys1 4 (x := 0) rfl rfl rfl).trans ?_
  refine (ys4 5 (v := .ref src) rfl rfl rfl rfl).trans ?_
  refine (yal 6 (N := n) rfl hs hsn rfl).trans ?_
  refine (ys34 9 (f := f) rfl (Nat.le_of_ble_eq_true rfl) hk (zFS.k0 hC.1) hs ht1 hsn hn1 hb hf rfl).trans ?_
  rw [zfl_row hj]
  exact ys36v rfl rfl

/-- another state, at q -/
def zSO (μ : zM) (s q : Nat) (I O : zFn) : Prop := zFS μ q [10, 20, 20, 20, 20, 20, 20, 20, 20, 20, 20, 20, 20, 20, 20, 20, 20, 20, 20, 20, 20, 20] [3, 6, 6, 6, 20, 20, 20, 20, 20, 20, 20, 20, 20, 6, 6, 6, 6, 12, 12, 12, 12, 12] ∧ (∀ k, k < 21 → zgr μ (q + 0) k = some (q + (k + 1))) ∧ (q + 22 ≤ s ∨ s + 22 ≤ q) ∧ ∀ j k, j < 22 → I (q + j) k = O j k
theorem zso_rd {μ : zM} {s q : Nat} {J O S : zFn} (hO : zSO μ s q J O) {j k : Nat} (hj : j < 22) : zfl J s 22 S (q + j) k = O j k := by
  have hD := hO.2.2.1
  rw [zfl_out (by omega)]
  exact hO.2.2.2 j k hj
def rbc (O : zFn) : zFn := fun j k => if j = 0 ∧ k = 2 then (-1) else O j k

def rbcW (S O : zFn) : zFn := zup (zrow (zrow (zrow (zrow (zrow (zrow (zrow (zrow (zrow (zrow (zrow (zrow (zrow (zrow (zrow (zrow (zrow (zrow (zrow (zrow (zrow (zup (zup S 0 0 ((O 0 0))) 0 1 ((O 0 1))) 1 (O 1)) 2 (O 2)) 3 (O 3)) 4 (O 4)) 5 (O 5)) 6 (O 6)) 7 (O 7)) 8 (O 8)) 9 (O 9)) 10 (O 10)) 11 (O 11)) 12 (O 12)) 13 (O 13)) 14 (O 14)) 15 (O 15)) 16 (O 16)) 17 (O 17)) 18 (O 18)) 19 (O 19)) 20 (O 20)) 21 (O 21)) 0 2 ((-1))
theorem rbcW_eq (S O : zFn) {j k : Nat} (hj : j < 22) (hk : k < [3, 6, 6, 6, 20, 20, 20, 20, 20, 20, 20, 20, 20, 6, 6, 6, 6, 12, 12, 12, 12, 12].getD j 0) : rbcW S O j k = rbc O j k := by
  unfold rbcW rbc
  rcases Nat.eq_zero_or_pos j with h0 | h0
  · subst h0
    have hk : k < 3 := hk
    have h3 : k = 0 ∨ k = 1 ∨ k = 2 := by omega
    rcases h3 with rfl | rfl | rfl <;> simp [zup, zrow]
  · rw [zup_ne' (by omega), if_neg (by omega)]
    have h : j = 1 ∨ j = 2 ∨ j = 3 ∨ j = 4 ∨ j = 5 ∨ j = 6 ∨ j = 7 ∨ j = 8 ∨ j = 9 ∨ j = 10 ∨ j = 11 ∨ j = 12 ∨ j = 13 ∨ j = 14 ∨ j = 15 ∨ j = 16 ∨ j = 17 ∨ j = 18 ∨ j = 19 ∨ j = 20 ∨ j = 21 := by omega
    rcases h with rfl | rfl | rfl | rfl | rfl | rfl | rfl | rfl | rfl | rfl | rfl | rfl | rfl | rfl | rfl | rfl | rfl | rfl | rfl | rfl | rfl <;> simp [zrow]
theorem zbc_end {c sl : Nat} {x t s : Nat} {S T J O S' : zFn} {μ : zM} (hC : zSC μ x t s J T) (e : rbcW S O = S') : some ((0, none, c, sl, zwi μ (zfl J s 22 S')) : zR) = some (0, none, c, sl, zwi μ (zfl J s 22 (rbc O))) := by
  subst e
  have h := zFS_cg hC.1 (by decide) (J := J) (F := rbcW S O) (G := rbc O) (fun j k hj hk => rbcW_eq S O hj hk)
  exact congrArg (fun m => some ((0, none, c, sl, m) : zR)) h

theorem c_bec {d : Nat} {x t s : Nat} {S T J : zFn} {μ : zM} (hC : zSC μ x t s J T) {q : Nat} {O : zFn} (hO : zSO μ s q J O) : zden zcds (d + 2) 186 [.ref (s + 0), .ref (q + 0)] (zwi μ (zfl J s 22 S)) = some (0, none, 0, 0, zwi μ (zfl J s 22 (rbc O))) := by
  refine (zd_in (d := d + 1) (cd := zc186) (nL := 2) (L := [(0, .ref (s + 0)), (1, .ref (q + 0))]) rfl (Nat.le_of_ble_eq_true rfl) rfl).trans ?_
  refine (ys4 1 (v := .ref (s + 0)) rfl rfl rfl rfl).trans ?_
  refine (ys4 2 (v := .ref (q + 0)) rfl rfl rfl rfl).trans ?_
  refine (yg 5 rfl (zFS.tag hO.1 (j := 0) (by decide) rfl) (zFS.ni hO.1 (j := 0) (by decide) rfl) (by decide) rfl (zso_rd hO (j := 0) (by decide))).trans ?_
  refine (yq 8 rfl (zFS.tag hC.1 (j := 0) (by decide) rfl) (zFS.k0 hC.1 (j := 0)) (zFS.ni hC.1 (j := 0) (by decide) rfl) (by decide) rfl (zfl_up (j := 0) (by decide))).trans ?_
  generalize hS1 : zup S 0 0 ((O 0 0)) = S1
  refine (ys4 9 (v := .ref (s + 0)) rfl rfl rfl rfl).trans ?_
  refine (ys4 10 (v := .ref (q + 0)) rfl rfl rfl rfl).trans ?_
  refine (yg 13 rfl (zFS.tag hO.1 (j := 0) (by decide) rfl) (zFS.ni hO.1 (j := 0) (by decide) rfl) (by decide) rfl (zso_rd hO (j := 0) (by decide))).trans ?_
  refine (yq 16 rfl (zFS.tag hC.1 (j := 0) (by decide) rfl) (zFS.k0 hC.1 (j := 0)) (zFS.ni hC.1 (j := 0) (by decide) rfl) (by decide) rfl (zfl_up (j := 0) (by decide))).trans ?_
  generalize hS2 : zup S1 0 1 ((O 0 1)) = S2
  refine (ys4 17 (v := .ref (s + 0)) rfl rfl rfl rfl).trans ?_
  refine (ys4 18 (v := .ref (q + 0)) rfl rfl rfl rfl).trans ?_
  refine (ygr 21 rfl (zFS.tag hO.1 (j := 0) (by decide) rfl) rfl (hO.2.1 0 (by decide))).trans ?_
  refine (ys4 22 (v := .ref (s + 0)) rfl rfl rfl rfl).trans ?_
  refine (ygr 25 rfl (zFS.tag hC.1 (j := 0) (by decide) rfl) rfl (hC.2.1 0 (by decide))).trans ?_
  refine (yc3 28 rfl rfl (Nat.le_of_ble_eq_true rfl) (Or.inr (by show ztg (zwi _ _) _ = _; rw [ztg_wi]; exact (zFS.tag hC.1 (j := 0) (by decide) rfl))) rfl rfl (c_cpy hC (j := 1) (by decide) rfl rfl (zFS.tag hO.1 (j := 1) (by decide) rfl) (zFS.ni hO.1 (j := 1) (by decide) rfl) (zFS.k0 hO.1 (j := 1)) (fun k _ => (zso_rd hO (j := 1) (by decide))))).trans ?_
  generalize hS3 : zrow S2 1 (O 1) = S3
  refine (ys4 29 (v := .ref (s + 0)) rfl rfl rfl rfl).trans ?_
  refine (ys4 30 (v := .ref (q + 0)) rfl rfl rfl rfl).trans ?_
  refine (ygr 33 rfl (zFS.tag hO.1 (j := 0) (by decide) rfl) rfl (hO.2.1 1 (by decide))).trans ?_
  refine (ys4 34 (v := .ref (s + 0)) rfl rfl rfl rfl).trans ?_
  refine (ygr 37 rfl (zFS.tag hC.1 (j := 0) (by decide) rfl) rfl (hC.2.1 1 (by decide))).trans ?_
  refine (yc3 40 rfl rfl (Nat.le_of_ble_eq_true rfl) (Or.inr (by show ztg (zwi _ _) _ = _; rw [ztg_wi]; exact (zFS.tag hC.1 (j := 0) (by decide) rfl))) rfl rfl (c_cpy hC (j := 2) (by decide) rfl rfl (zFS.tag hO.1 (j := 2) (by decide) rfl) (zFS.ni hO.1 (j := 2) (by decide) rfl) (zFS.k0 hO.1 (j := 2)) (fun k _ => (zso_rd hO (j := 2) (by decide))))).trans ?_
  generalize hS4 : zrow S3 2 (O 2) = S4
  refine (ys4 41 (v := .ref (s + 0)) rfl rfl rfl rfl).trans ?_
  refine (ys4 42 (v := .ref (q + 0)) rfl rfl rfl rfl).trans ?_
  refine (ygr 45 rfl (zFS.tag hO.1 (j := 0) (by decide) rfl) rfl (hO.2.1 2 (by decide))).trans ?_
  refine (ys4 46 (v := .ref (s + 0)) rfl rfl rfl rfl).trans ?_
  refine (ygr 49 rfl (zFS.tag hC.1 (j := 0) (by decide) rfl) rfl (hC.2.1 2 (by decide))).trans ?_
  refine (yc3 52 rfl rfl (Nat.le_of_ble_eq_true rfl) (Or.inr (by show ztg (zwi _ _) _ = _; rw [ztg_wi]; exact (zFS.tag hC.1 (j := 0) (by decide) rfl))) rfl rfl (c_cpy hC (j := 3) (by decide) rfl rfl (zFS.tag hO.1 (j := 3) (by decide) rfl) (zFS.ni hO.1 (j := 3) (by decide) rfl) (zFS.k0 hO.1 (j := 3)) (fun k _ => (zso_rd hO (j := 3) (by decide))))).trans ?_
  generalize hS5 : zrow S4 3 (O 3) = S5
  refine (ys4 53 (v := .ref (s + 0)) rfl rfl rfl rfl).trans ?_
  refine (ys4 54 (v := .ref (q + 0)) rfl rfl rfl rfl).trans ?_
  refine (ygr 57 rfl (zFS.tag hO.1 (j := 0) (by decide) rfl) rfl (hO.2.1 3 (by decide))).trans ?_
  refine (ys4 58 (v := .ref (s + 0)) rfl rfl rfl rfl).trans ?_
  refine (ygr 61 rfl (zFS.tag hC.1 (j := 0) (by decide) rfl) rfl (hC.2.1 3 (by decide))).trans ?_
  refine (yc3 64 rfl rfl (Nat.le_of_ble_eq_true rfl) (Or.inr (by show ztg (zwi _ _) _ = _; rw [ztg_wi]; exact (zFS.tag hC.1 (j := 0) (by decide) rfl))) rfl rfl (c_cpy hC (j := 4) (by decide) rfl rfl (zFS.tag hO.1 (j := 4) (by decide) rfl) (zFS.ni hO.1 (j := 4) (by decide) rfl) (zFS.k0 hO.1 (j := 4)) (fun k _ => (zso_rd hO (j := 4) (by decide))))).trans ?_
  generalize hS6 : zrow S5 4 (O 4) = S6
  refine (ys4 65 (v := .ref (s + 0)) rfl rfl rfl rfl).trans ?_
  refine (ys4 66 (v := .ref (q + 0)) rfl rfl rfl rfl).trans ?_
  refine (ygr 69 rfl (zFS.tag hO.1 (j := 0) (by decide) rfl) rfl (hO.2.1 4 (by decide))).trans ?_
  refine (ys4 70 (v := .ref (s + 0)) rfl rfl rfl rfl).trans ?_
  refine (ygr 73 rfl (zFS.tag hC.1 (j := 0) (by decide) rfl) rfl (hC.2.1 4 (by decide))).trans ?_
  refine (yc3 76 rfl rfl (Nat.le_of_ble_eq_true rfl) (Or.inr (by show ztg (zwi _ _) _ = _; rw [ztg_wi]; exact (zFS.tag hC.1 (j := 0) (by decide) rfl))) rfl rfl (c_cpy hC (j := 5) (by decide) rfl rfl (zFS.tag hO.1 (j := 5) (by decide) rfl) (zFS.ni hO.1 (j := 5) (by decide) rfl) (zFS.k0 hO.1 (j := 5)) (fun k _ => (zso_rd hO (j := 5) (by decide))))).trans ?_
  generalize hS7 : zrow S6 5 (O 5) = S7
  refine (ys4 77 (v := .ref (s + 0)) rfl rfl rfl rfl).trans ?_
  refine (ys4 78 (v := .ref (q + 0)) rfl rfl rfl rfl).trans ?_
  refine (ygr 81 rfl (zFS.tag hO.1 (j := 0) (by decide) rfl) rfl (hO.2.1 5 (by decide))).trans ?_
  refine (ys4 82 (v := .ref (s + 0)) rfl rfl rfl rfl).trans ?_
  refine (ygr 85 rfl (zFS.tag hC.1 (j := 0) (by decide) rfl) rfl (hC.2.1 5 (by decide))).trans ?_
  refine (yc3 88 rfl rfl (Nat.le_of_ble_eq_true rfl) (Or.inr (by show ztg (zwi _ _) _ = _; rw [ztg_wi]; exact (zFS.tag hC.1 (j := 0) (by decide) rfl))) rfl rfl (c_cpy hC (j := 6) (by decide) rfl rfl (zFS.tag hO.1 (j := 6) (by decide) rfl) (zFS.ni hO.1 (j := 6) (by decide) rfl) (zFS.k0 hO.1 (j := 6)) (fun k _ => (zso_rd hO (j := 6) (by decide))))).trans ?_
  generalize hS8 : zrow S7 6 (O 6) = S8
  refine (ys4 89 (v := .ref (s + 0)) rfl rfl rfl rfl).trans ?_
  refine (ys4 90 (v := .ref (q + 0)) rfl rfl rfl rfl).trans ?_
  refine (ygr 93 rfl (zFS.tag hO.1 (j := 0) (by decide) rfl) rfl (hO.2.1 6 (by decide))).trans ?_
  refine (ys4 94 (v := .ref (s + 0)) rfl rfl rfl rfl).trans ?_
  refine (ygr 97 rfl (zFS.tag hC.1 (j := 0) (by decide) rfl) rfl (hC.2.1 6 (by decide))).trans ?_
  refine (yc3 100 rfl rfl (Nat.le_of_ble_eq_true rfl) (Or.inr (by show ztg (zwi _ _) _ = _; rw [ztg_wi]; exact (zFS.tag hC.1 (j := 0) (by decide) rfl))) rfl rfl (c_cpy hC (j := 7) (by decide) rfl rfl (zFS.tag hO.1 (j := 7) (by decide) rfl) (zFS.ni hO.1 (j := 7) (by decide) rfl) (zFS.k0 hO.1 (j := 7)) (fun k _ => (zso_rd hO (j := 7) (by decide))))).trans ?_
  generalize hS9 : zrow S8 7 (O 7) = S9
  refine (ys4 101 (v := .ref (s + 0)) rfl rfl rfl rfl).trans ?_
  refine (ys4 102 (v := .ref (q + 0)) rfl rfl rfl rfl).trans ?_
  refine (ygr 105 rfl (zFS.tag hO.1 (j := 0) (by decide) rfl) rfl (hO.2.1 7 (by decide))).trans ?_
  refine (ys4 106 (v := .ref (s + 0)) rfl rfl rfl rfl).trans ?_
  refine (ygr 109 rfl (zFS.tag hC.1 (j := 0) (by decide) rfl) rfl (hC.2.1 7 (by decide))).trans ?_
  refine (yc3 112 rfl rfl (Nat.le_of_ble_eq_true rfl) (Or.inr (by show ztg (zwi _ _) _ = _; rw [ztg_wi]; exact (zFS.tag hC.1 (j := 0) (by decide) rfl))) rfl rfl (c_cpy hC (j := 8) (by decide) rfl rfl (zFS.tag hO.1 (j := 8) (by decide) rfl) (zFS.ni hO.1 (j := 8) (by decide) rfl) (zFS.k0 hO.1 (j := 8)) (fun k _ => (zso_rd hO (j := 8) (by decide))))).trans ?_
  generalize hS10 : zrow S9 8 (O 8) = S10
  refine (ys4 113 (v := .ref (s + 0)) rfl rfl rfl rfl).trans ?_
  refine (ys4 114 (v := .ref (q + 0)) rfl rfl rfl rfl).trans ?_
  refine (ygr 117 rfl (zFS.tag hO.1 (j := 0) (by decide) rfl) rfl (hO.2.1 8 (by decide))).trans ?_
  refine (ys4 118 (v := .ref (s + 0)) rfl rfl rfl rfl).trans ?_
  refine (ygr 121 rfl (zFS.tag hC.1 (j := 0) (by decide) rfl) rfl (hC.2.1 8 (by decide))).trans ?_
  refine (yc3 124 rfl rfl (Nat.le_of_ble_eq_true rfl) (Or.inr (by show ztg (zwi _ _) _ = _; rw [ztg_wi]; exact (zFS.tag hC.1 (j := 0) (by decide) rfl))) rfl rfl (c_cpy hC (j := 9) (by decide) rfl rfl (zFS.tag hO.1 (j := 9) (by decide) rfl) (zFS.ni hO.1 (j := 9) (by decide) rfl) (zFS.k0 hO.1 (j := 9)) (fun k _ => (zso_rd hO (j := 9) (by decide))))).trans ?_
  generalize hS11 : zrow S10 9 (O 9) = S11
  refine (ys4 125 (v := .ref (s + 0)) rfl rfl rfl rfl).trans ?_
  refine (ys4 126 (v := .ref (q + 0)) rfl rfl rfl rfl).trans ?_
  refine (ygr 129 rfl (zFS.tag hO.1 (j := 0) (by decide) rfl) rfl (hO.2.1 9 (by decide))).trans ?_
  refine (ys4 130 (v := .ref (s + 0)) rfl rfl rfl rfl).trans ?_
  refine (ygr 133 rfl (zFS.tag hC.1 (j := 0) (by decide) rfl) rfl (hC.2.1 9 (by decide))).trans ?_
  refine (yc3 136 rfl rfl (Nat.le_of_ble_eq_true rfl) (Or.inr (by show ztg (zwi _ _) _ = _; rw [ztg_wi]; exact (zFS.tag hC.1 (j := 0) (by decide) rfl))) rfl rfl (c_cpy hC (j := 10) (by decide) rfl rfl (zFS.tag hO.1 (j := 10) (by decide) rfl) (zFS.ni hO.1 (j := 10) (by decide) rfl) (zFS.k0 hO.1 (j := 10)) (fun k _ => (zso_rd hO (j := 10) (by decide))))).trans ?_
  generalize hS12 : zrow S11 10 (O 10) = S12
  refine (ys4 137 (v := .ref (s + 0)) rfl rfl rfl rfl).trans ?_
  refine (ys4 138 (v := .ref (q + 0)) rfl rfl rfl rfl).trans ?_
  refine (ygr 141 rfl (zFS.tag hO.1 (j := 0) (by decide) rfl) rfl (hO.2.1 10 (by decide))).trans ?_
  refine (ys4 142 (v := .ref (s + 0)) rfl rfl rfl rfl).trans ?_
  refine (ygr 145 rfl (zFS.tag hC.1 (j := 0) (by decide) rfl) rfl (hC.2.1 10 (by decide))).trans ?_
  refine (yc3 148 rfl rfl (Nat.le_of_ble_eq_true rfl) (Or.inr (by show ztg (zwi _ _) _ = _; rw [ztg_wi]; exact (zFS.tag hC.1 (j := 0) (by decide) rfl))) rfl rfl (c_cpy hC (j := 11) (by decide) rfl rfl (zFS.tag hO.1 (j := 11) (by decide) rfl) (zFS.ni hO.1 (j := 11) (by decide) rfl) (zFS.k0 hO.1 (j := 11)) (fun k _ => (zso_rd hO (j := 11) (by decide))))).trans ?_
  generalize hS13 : zrow S12 11 (O 11) = S13
  refine (ys4 149 (v := .ref (s + 0)) rfl rfl rfl rfl).trans ?_
  refine (ys4 150 (v := .ref (q + 0)) rfl rfl rfl rfl).trans ?_
  refine (ygr 153 rfl (zFS.tag hO.1 (j := 0) (by decide) rfl) rfl (hO.2.1 11 (by decide))).trans ?_
  refine (ys4 154 (v := .ref (s + 0)) rfl rfl rfl rfl).trans ?_
  refine (ygr 157 rfl (zFS.tag hC.1 (j := 0) (by decide) rfl) rfl (hC.2.1 11 (by decide))).trans ?_
  refine (yc3 160 rfl rfl (Nat.le_of_ble_eq_true rfl) (Or.inr (by show ztg (zwi _ _) _ = _; rw [ztg_wi]; exact (zFS.tag hC.1 (j := 0) (by decide) rfl))) rfl rfl (c_cpy hC (j := 12) (by decide) rfl rfl (zFS.tag hO.1 (j := 12) (by decide) rfl) (zFS.ni hO.1 (j := 12) (by decide) rfl) (zFS.k0 hO.1 (j := 12)) (fun k _ => (zso_rd hO (j := 12) (by decide))))).trans ?_
  generalize hS14 : zrow S13 12 (O 12) = S14
  refine (ys4 161 (v := .ref (s + 0)) rfl rfl rfl rfl).trans ?_
  refine (ys4 162 (v := .ref (q + 0)) rfl rfl rfl rfl).trans ?_
  refine (ygr 165 rfl (zFS.tag hO.1 (j := 0) (by decide) rfl) rfl (hO.2.1 12 (by decide))).trans ?_
  refine (ys4 166 (v := .ref (s + 0)) rfl rfl rfl rfl).trans ?_
  refine (ygr 169 rfl (zFS.tag hC.1 (j := 0) (by decide) rfl) rfl (hC.2.1 12 (by decide))).trans ?_
  refine (yc3 172 rfl rfl (Nat.le_of_ble_eq_true rfl) (Or.inr (by show ztg (zwi _ _) _ = _; rw [ztg_wi]; exact (zFS.tag hC.1 (j := 0) (by decide) rfl))) rfl rfl (c_cpy hC (j := 13) (by decide) rfl rfl (zFS.tag hO.1 (j := 13) (by decide) rfl) (zFS.ni hO.1 (j := 13) (by decide) rfl) (zFS.k0 hO.1 (j := 13)) (fun k _ => (zso_rd hO (j := 13) (by decide))))).trans ?_
  generalize hS15 : zrow S14 13 (O 13) = S15
  refine (ys4 173 (v := .ref (s + 0)) rfl rfl rfl rfl).trans ?_
  refine (ys4 174 (v := .ref (q + 0)) rfl rfl rfl rfl).trans ?_
  refine (ygr 177 rfl (zFS.tag hO.1 (j := 0) (by decide) rfl) rfl (hO.2.1 13 (by decide))).trans ?_
  refine (ys4 178 (v := .ref (s + 0)) rfl rfl rfl rfl).trans ?_
  refine (ygr 181 rfl (zFS.tag hC.1 (j := 0) (by decide) rfl) rfl (hC.2.1 13 (by decide))).trans ?_
  refine (yc3 184 rfl rfl (Nat.le_of_ble_eq_true rfl) (Or.inr (by show ztg (zwi _ _) _ = _; rw [ztg_wi]; exact (zFS.tag hC.1 (j := 0) (by decide) rfl))) rfl rfl (c_cpy hC (j := 14) (by decide) rfl rfl (zFS.tag hO.1 (j := 14) (by decide) rfl) (zFS.ni hO.1 (j := 14) (by decide) rfl) (zFS.k0 hO.1 (j := 14)) (fun k _ => (zso_rd hO (j := 14) (by decide))))).trans ?_
  generalize hS16 : zrow S15 14 (O 14) = S16
  refine (ys4 185 (v := .ref (s + 0)) rfl rfl rfl rfl).trans ?_
  refine (ys4 186 (v := .ref (q + 0)) rfl rfl rfl rfl).trans ?_
  refine (ygr 189 rfl (zFS.tag hO.1 (j := 0) (by decide) rfl) rfl (hO.2.1 14 (by decide))).trans ?_
  refine (ys4 190 (v := .ref (s + 0)) rfl rfl rfl rfl).trans ?_
  refine (ygr 193 rfl (zFS.tag hC.1 (j := 0) (by decide) rfl) rfl (hC.2.1 14 (by decide))).trans ?_
  refine (yc3 196 rfl rfl (Nat.le_of_ble_eq_true rfl) (Or.inr (by show ztg (zwi _ _) _ = _; rw [ztg_wi]; exact (zFS.tag hC.1 (j := 0) (by decide) rfl))) rfl rfl (c_cpy hC (j := 15) (by decide) rfl rfl (zFS.tag hO.1 (j := 15) (by decide) rfl) (zFS.ni hO.1 (j := 15) (by decide) rfl) (zFS.k0 hO.1 (j := 15)) (fun k _ => (zso_rd hO (j := 15) (by decide))))).trans ?_
  generalize hS17 : zrow S16 15 (O 15) = S17
  refine (ys4 197 (v := .ref (s + 0)) rfl rfl rfl rfl).trans ?_
  refine (ys4 198 (v := .ref (q + 0)) rfl rfl rfl rfl).trans ?_
  refine (ygr 201 rfl (zFS.tag hO.1 (j := 0) (by decide) rfl) rfl (hO.2.1 15 (by decide))).trans ?_
  refine (ys4 202 (v := .ref (s + 0)) rfl rfl rfl rfl).trans ?_
  refine (ygr 205 rfl (zFS.tag hC.1 (j := 0) (by decide) rfl) rfl (hC.2.1 15 (by decide))).trans ?_
  refine (yc3 208 rfl rfl (Nat.le_of_ble_eq_true rfl) (Or.inr (by show ztg (zwi _ _) _ = _; rw [ztg_wi]; exact (zFS.tag hC.1 (j := 0) (by decide) rfl))) rfl rfl (c_cpy hC (j := 16) (by decide) rfl rfl (zFS.tag hO.1 (j := 16) (by decide) rfl) (zFS.ni hO.1 (j := 16) (by decide) rfl) (zFS.k0 hO.1 (j := 16)) (fun k _ => (zso_rd hO (j := 16) (by decide))))).trans ?_
  generalize hS18 : zrow S17 16 (O 16) = S18
  refine (ys4 209 (v := .ref (s + 0)) rfl rfl rfl rfl).trans ?_
  refine (ys4 210 (v := .ref (q + 0)) rfl rfl rfl rfl).trans ?_
  refine (ygr 213 rfl (zFS.tag hO.1 (j := 0) (by decide) rfl) rfl (hO.2.1 16 (by decide))).trans ?_
  refine (ys4 214 (v := .ref (s + 0)) rfl rfl rfl rfl).trans ?_
  refine (ygr 217 rfl (zFS.tag hC.1 (j := 0) (by decide) rfl) rfl (hC.2.1 16 (by decide))).trans ?_
  refine (yc3 220 rfl rfl (Nat.le_of_ble_eq_true rfl) (Or.inr (by show ztg (zwi _ _) _ = _; rw [ztg_wi]; exact (zFS.tag hC.1 (j := 0) (by decide) rfl))) rfl rfl (c_cpy hC (j := 17) (by decide) rfl rfl (zFS.tag hO.1 (j := 17) (by decide) rfl) (zFS.ni hO.1 (j := 17) (by decide) rfl) (zFS.k0 hO.1 (j := 17)) (fun k _ => (zso_rd hO (j := 17) (by decide))))).trans ?_
  generalize hS19 : zrow S18 17 (O 17) = S19
  refine (ys4 221 (v := .ref (s + 0)) rfl rfl rfl rfl).trans ?_
  refine (ys4 222 (v := .ref (q + 0)) rfl rfl rfl rfl).trans ?_
  refine (ygr 225 rfl (zFS.tag hO.1 (j := 0) (by decide) rfl) rfl (hO.2.1 17 (by decide))).trans ?_
  refine (ys4 226 (v := .ref (s + 0)) rfl rfl rfl rfl).trans ?_
  refine (ygr 229 rfl (zFS.tag hC.1 (j := 0) (by decide) rfl) rfl (hC.2.1 17 (by decide))).trans ?_
  refine (yc3 232 rfl rfl (Nat.le_of_ble_eq_true rfl) (Or.inr (by show ztg (zwi _ _) _ = _; rw [ztg_wi]; exact (zFS.tag hC.1 (j := 0) (by decide) rfl))) rfl rfl (c_cpy hC (j := 18) (by decide) rfl rfl (zFS.tag hO.1 (j := 18) (by decide) rfl) (zFS.ni hO.1 (j := 18) (by decide) rfl) (zFS.k0 hO.1 (j := 18)) (fun k _ => (zso_rd hO (j := 18) (by decide))))).trans ?_
  generalize hS20 : zrow S19 18 (O 18) = S20
  refine (ys4 233 (v := .ref (s + 0)) rfl rfl rfl rfl).trans ?_
  refine (ys4 234 (v := .ref (q + 0)) rfl rfl rfl rfl).trans ?_
  refine (ygr 237 rfl (zFS.tag hO.1 (j := 0) (by decide) rfl) rfl (hO.2.1 18 (by decide))).trans ?_
  refine (ys4 238 (v := .ref (s + 0)) rfl rfl rfl rfl).trans ?_
  refine (ygr 241 rfl (zFS.tag hC.1 (j := 0) (by decide) rfl) rfl (hC.2.1 18 (by decide))).trans ?_
  refine (yc3 244 rfl rfl (Nat.le_of_ble_eq_true rfl) (Or.inr (by show ztg (zwi _ _) _ = _; rw [ztg_wi]; exact (zFS.tag hC.1 (j := 0) (by decide) rfl))) rfl rfl (c_cpy hC (j := 19) (by decide) rfl rfl (zFS.tag hO.1 (j := 19) (by decide) rfl) (zFS.ni hO.1 (j := 19) (by decide) rfl) (zFS.k0 hO.1 (j := 19)) (fun k _ => (zso_rd hO (j := 19) (by decide))))).trans ?_
  generalize hS21 : zrow S20 19 (O 19) = S21
  refine (ys4 245 (v := .ref (s + 0)) rfl rfl rfl rfl).trans ?_
  refine (ys4 246 (v := .ref (q + 0)) rfl rfl rfl rfl).trans ?_
  refine (ygr 249 rfl (zFS.tag hO.1 (j := 0) (by decide) rfl) rfl (hO.2.1 19 (by decide))).trans ?_
  refine (ys4 250 (v := .ref (s + 0)) rfl rfl rfl rfl).trans ?_
  refine (ygr 253 rfl (zFS.tag hC.1 (j := 0) (by decide) rfl) rfl (hC.2.1 19 (by decide))).trans ?_
  refine (yc3 256 rfl rfl (Nat.le_of_ble_eq_true rfl) (Or.inr (by show ztg (zwi _ _) _ = _; rw [ztg_wi]; exact (zFS.tag hC.1 (j := 0) (by decide) rfl))) rfl rfl (c_cpy hC (j := 20) (by decide) rfl rfl (zFS.tag hO.1 (j := 20) (by decide) rfl) (zFS.ni hO.1 (j := 20) (by decide) rfl) (zFS.k0 hO.1 (j := 20)) (fun k _ => (zso_rd hO (j := 20) (by decide))))).trans ?_
  generalize hS22 : zrow S21 20 (O 20) = S22
  refine (ys4 257 (v := .ref (s + 0)) rfl rfl rfl rfl).trans ?_
  refine (ys4 258 (v := .ref (q + 0)) rfl rfl rfl rfl).trans ?_
  refine (ygr 261 rfl (zFS.tag hO.1 (j := 0) (by decide) rfl) rfl (hO.2.1 20 (by decide))).trans ?_
  refine (ys4 262 (v := .ref (s + 0)) rfl rfl rfl rfl).trans ?_
  refine (ygr 265 rfl (zFS.tag hC.1 (j := 0) (by decide) rfl) rfl (hC.2.1 20 (by decide))).trans ?_
  refine (yc3 268 rfl rfl (Nat.le_of_ble_eq_true rfl) (Or.inr (by show ztg (zwi _ _) _ = _; rw [ztg_wi]; exact (zFS.tag hC.1 (j := 0) (by decide) rfl))) rfl rfl (c_cpy hC (j := 21) (by decide) rfl rfl (zFS.tag hO.1 (j := 21) (by decide) rfl) (zFS.ni hO.1 (j := 21) (by decide) rfl) (zFS.k0 hO.1 (j := 21)) (fun k _ => (zso_rd hO (j := 21) (by decide))))).trans ?_
  generalize hS23 : zrow S22 21 (O 21) = S23
  refine (ys4 269 (v := .ref (s + 0)) rfl rfl rfl rfl).trans ?_
  refine (ys1 270 (x := (-1)) rfl rfl rfl).trans ?_
  refine (yq 273 rfl (zFS.tag hC.1 (j := 0) (by decide) rfl) (zFS.k0 hC.1 (j := 0)) (zFS.ni hC.1 (j := 0) (by decide) rfl) (by decide) rfl (zfl_up (j := 0) (by decide))).trans ?_
  generalize hS24 : zup S23 0 2 ((-1)) = S24
  refine (ys36v rfl rfl).trans ?_
  exact zbc_end hC (by subst hS24 hS23 hS22 hS21 hS20 hS19 hS18 hS17 hS16 hS15 hS14 hS13 hS12 hS11 hS10 hS9 hS8 hS7 hS6 hS5 hS4 hS3 hS2 hS1; rfl)

def rb1 (T : zFn) : Nat → Nat → zFn → zFn
  | 0, i, S =>
    S
  | m + 1, i, S =>
    let S1 := zup S 1 i ((T 2 (6 * i)))
    let S2 := zup S1 2 i ((T 3 (6 * i)))
    if (T 1 i) ≤ 1 then
      let S3 := zup S2 3 i (0)
      rb1 T m (i + 1) S3
    else
      let S4 := zup S2 3 i (1)
      rb1 T m (i + 1) S4

theorem l_b1 {d c sl : Nat} {rz : zR} {x t s : Nat} {T J : zFn} {μ : zM} (hC : zSC μ x t s J T) {nl np nh nk : Nat} (hN : zTN T nl np nh nk) : ∀ (m i : Nat) (S : zFn), i + m = nl → zden1 (d + 1) (zden zcds (d + 1)) zc187 (91, [(1, .int (nI nl)), (0, .ref (s + 0))], [], c, sl, zwi μ (zfl J s 22 ((rb1 T m i S)))) = some rz → zden1 (d + 1) (zden zcds (d + 1)) zc187 (2, [(1, .int (nI i)), (0, .ref (s + 0))], [], c, sl, zwi μ (zfl J s 22 S)) = some rz
  | 0, i, S, e, hkk => by
    have ei : i = nl := by omega
    subst ei
    refine (ys4 3 (v := .int (nI i)) rfl rfl rfl rfl).trans ?_
    refine (ys4 4 (v := .ref (s + 0)) rfl rfl rfl rfl).trans ?_
    refine (ygr 7 rfl (zFS.tag hC.1 (j := 0) (by decide) rfl) rfl hC.2.2.1).trans ?_
    refine (ygr 10 rfl hC.2.2.2.2.2.1 rfl hC.2.2.2.2.2.2.1).trans ?_
    refine (yg 13 rfl (zFS.tag hC.2.2.2.1 (j := 0) (by decide) rfl) (zFS.ni hC.2.2.2.1 (j := 0) (by decide) rfl) (by decide) rfl (zst_rd hC (j := 0) (by decide))).trans ?_
    refine ys18_3 16 rfl rfl (fun h13 => ?_) (fun h13 => absurd (by rw [hN.1]; exact nI_le (by omega) (by have := hN.2.1; omega)) h13)
    rw [show rb1 T 0 i S = S from by rw [rb1]; (try dsimp only); first | done | rfl] at hkk; exact hkk
  | m + 1, i, S, e, hkk => by
    have hi : i < 6 := by have := hN.2.1; omega
    refine (ys4 3 (v := .int (nI i)) rfl rfl rfl rfl).trans ?_
    refine (ys4 4 (v := .ref (s + 0)) rfl rfl rfl rfl).trans ?_
    refine (ygr 7 rfl (zFS.tag hC.1 (j := 0) (by decide) rfl) rfl hC.2.2.1).trans ?_
    refine (ygr 10 rfl hC.2.2.2.2.2.1 rfl hC.2.2.2.2.2.2.1).trans ?_
    refine (yg 13 rfl (zFS.tag hC.2.2.2.1 (j := 0) (by decide) rfl) (zFS.ni hC.2.2.2.1 (j := 0) (by decide) rfl) (by decide) rfl (zst_rd hC (j := 0) (by decide))).trans ?_
    refine ys18_3 16 rfl rfl (fun h13 => absurd h13 (by rw [hN.1]; exact nI_ge (by omega) (by have := hN.2.1; omega))) (fun h13 => ?_)
    refine (ys4 17 (v := .ref (s + 0)) rfl rfl rfl rfl).trans ?_
    refine (ygr 20 rfl (zFS.tag hC.1 (j := 0) (by decide) rfl) rfl (hC.2.1 0 (by decide))).trans ?_
    refine (ys4 21 (v := .int (nI i)) rfl rfl rfl rfl).trans ?_
    refine (ys4 22 (v := .ref (s + 0)) rfl rfl rfl rfl).trans ?_
    refine (ygr 25 rfl (zFS.tag hC.1 (j := 0) (by decide) rfl) rfl hC.2.2.1).trans ?_
    refine (ygr 28 rfl hC.2.2.2.2.2.1 rfl hC.2.2.2.2.2.2.1).trans ?_
    refine (ygr 31 rfl (zFS.tag hC.2.2.2.1 (j := 0) (by decide) rfl) rfl (hC.2.2.2.2.1 1 (by decide))).trans ?_
    refine (ys1 33 (x := 6) rfl rfl rfl).trans ?_
    refine (ys4 34 (v := .int (nI i)) rfl rfl rfl rfl).trans ?_
    refine (ys7_2 35 rfl rfl).trans ?_
    rw [show (6 * (nI i)) = nI (6 * i) from pk_mul 6 i]
    refine (ylx 36 (N := 36) rfl (j := (6 * i)) rfl (Or.inl (zFS.tag hC.2.2.2.1 (j := 2) (by decide) rfl)) (zFS.ni hC.2.2.2.1 (j := 2) (by decide) rfl) (by omega) (by decide) rfl (zst_rd hC (j := 2) (by decide))).trans ?_
    refine (ywx 37 (N := 6) rfl (j := i) rfl (zFS.tag hC.1 (j := 1) (by decide) rfl) (zFS.k0 hC.1 (j := 1)) (zFS.ni hC.1 (j := 1) (by decide) rfl) (by omega) (by decide) rfl (zfl_up (j := 1) (by decide))).trans ?_
    generalize hS1 : zup S 1 i ((T 2 (6 * i))) = S1
    refine (ys4 38 (v := .ref (s + 0)) rfl rfl rfl rfl).trans ?_
    refine (ygr 41 rfl (zFS.tag hC.1 (j := 0) (by decide) rfl) rfl (hC.2.1 1 (by decide))).trans ?_
    refine (ys4 42 (v := .int (nI i)) rfl rfl rfl rfl).trans ?_
    refine (ys4 43 (v := .ref (s + 0)) rfl rfl rfl rfl).trans ?_
    refine (ygr 46 rfl (zFS.tag hC.1 (j := 0) (by decide) rfl) rfl hC.2.2.1).trans ?_
    refine (ygr 49 rfl hC.2.2.2.2.2.1 rfl hC.2.2.2.2.2.2.1).trans ?_
    refine (ygr 52 rfl (zFS.tag hC.2.2.2.1 (j := 0) (by decide) rfl) rfl (hC.2.2.2.2.1 2 (by decide))).trans ?_
    refine (ys1 54 (x := 6) rfl rfl rfl).trans ?_
    refine (ys4 55 (v := .int (nI i)) rfl rfl rfl rfl).trans ?_
    refine (ys7_2 56 rfl rfl).trans ?_
    rw [show (6 * (nI i)) = nI (6 * i) from pk_mul 6 i]
    refine (ylx 57 (N := 36) rfl (j := (6 * i)) rfl (Or.inl (zFS.tag hC.2.2.2.1 (j := 3) (by decide) rfl)) (zFS.ni hC.2.2.2.1 (j := 3) (by decide) rfl) (by omega) (by decide) rfl (zst_rd hC (j := 3) (by decide))).trans ?_
    refine (ywx 58 (N := 6) rfl (j := i) rfl (zFS.tag hC.1 (j := 2) (by decide) rfl) (zFS.k0 hC.1 (j := 2)) (zFS.ni hC.1 (j := 2) (by decide) rfl) (by omega) (by decide) rfl (zfl_up (j := 2) (by decide))).trans ?_
    generalize hS2 : zup S1 2 i ((T 3 (6 * i))) = S2
    refine (ys4 59 (v := .ref (s + 0)) rfl rfl rfl rfl).trans ?_
    refine (ygr 62 rfl (zFS.tag hC.1 (j := 0) (by decide) rfl) rfl (hC.2.1 2 (by decide))).trans ?_
    refine (ys4 63 (v := .int (nI i)) rfl rfl rfl rfl).trans ?_
    refine (ys4 64 (v := .ref (s + 0)) rfl rfl rfl rfl).trans ?_
    refine (ygr 67 rfl (zFS.tag hC.1 (j := 0) (by decide) rfl) rfl hC.2.2.1).trans ?_
    refine (ygr 70 rfl hC.2.2.2.2.2.1 rfl hC.2.2.2.2.2.2.1).trans ?_
    refine (ygr 73 rfl (zFS.tag hC.2.2.2.1 (j := 0) (by decide) rfl) rfl (hC.2.2.2.2.1 0 (by decide))).trans ?_
    refine (ys4 74 (v := .int (nI i)) rfl rfl rfl rfl).trans ?_
    refine (ylx 75 (N := 6) rfl (j := i) rfl (Or.inl (zFS.tag hC.2.2.2.1 (j := 1) (by decide) rfl)) (zFS.ni hC.2.2.2.1 (j := 1) (by decide) rfl) (by omega) (by decide) rfl (zst_rd hC (j := 1) (by decide))).trans ?_
    refine (ys1 76 (x := 1) rfl rfl rfl).trans ?_
    refine ys18_5 79 rfl rfl (fun h76 => ?_) (fun h76 => ?_)
    · refine (ys1 84 (x := 0) rfl rfl rfl).trans ?_
      refine (ywx 85 (N := 6) rfl (j := i) rfl (zFS.tag hC.1 (j := 3) (by decide) rfl) (zFS.k0 hC.1 (j := 3)) (zFS.ni hC.1 (j := 3) (by decide) rfl) (by omega) (by decide) rfl (zfl_up (j := 3) (by decide))).trans ?_
      generalize hS3 : zup S2 3 i (0) = S3
      refine (ys6 88 (y := nI (i + 1)) (L2 := [(1, .int (nI (i + 1))), (0, .ref (s + 0))]) rfl rfl (nI_1 _) rfl rfl).trans ?_
      refine (ys19 rfl).trans ?_
      rw [show rb1 T (m + 1) i S = rb1 T m (i + 1) S3 from by subst hS3 hS2 hS1; rw [rb1]; (try dsimp only); rw [if_pos h76]] at hkk; exact l_b1 hC hN m (i + 1)  S3  (by omega) hkk
    · refine (ys1 80 (x := 1) rfl rfl rfl).trans ?_
      refine (ys19 rfl).trans ?_
      refine (ywx 85 (N := 6) rfl (j := i) rfl (zFS.tag hC.1 (j := 3) (by decide) rfl) (zFS.k0 hC.1 (j := 3)) (zFS.ni hC.1 (j := 3) (by decide) rfl) (by omega) (by decide) rfl (zfl_up (j := 3) (by decide))).trans ?_
      generalize hS4 : zup S2 3 i (1) = S4
      refine (ys6 88 (y := nI (i + 1)) (L2 := [(1, .int (nI (i + 1))), (0, .ref (s + 0))]) rfl rfl (nI_1 _) rfl rfl).trans ?_
      refine (ys19 rfl).trans ?_
      rw [show rb1 T (m + 1) i S = rb1 T m (i + 1) S4 from by subst hS4 hS2 hS1; rw [rb1]; (try dsimp only); rw [if_neg h76]] at hkk; exact l_b1 hC hN m (i + 1)  S4  (by omega) hkk

def rb2 (T : zFn) : Nat → Nat → zFn → zFn
  | 0, i, S =>
    S
  | m + 1, i, S =>
    let S1 := zup S 4 i (0)
    let S2 := zup S1 5 i ((T 6 i))
    let S3 := zup S2 10 i (0)
    rb2 T m (i + 1) S3

theorem l_b2 {d c sl : Nat} {rz : zR} {x t s : Nat} {T J : zFn} {μ : zM} (hC : zSC μ x t s J T) {nl np nh nk : Nat} (hN : zTN T nl np nh nk) : ∀ (m i : Nat) (S : zFn), i + m = np → zden1 (d + 1) (zden zcds (d + 1)) zc187 (145, [(1, .int (nI np)), (0, .ref (s + 0))], [], c, sl, zwi μ (zfl J s 22 ((rb2 T m i S)))) = some rz → zden1 (d + 1) (zden zcds (d + 1)) zc187 (93, [(1, .int (nI i)), (0, .ref (s + 0))], [], c, sl, zwi μ (zfl J s 22 S)) = some rz
  | 0, i, S, e, hkk => by
    have ei : i = np := by omega
    subst ei
    refine (ys4 94 (v := .int (nI i)) rfl rfl rfl rfl).trans ?_
    refine (ys4 95 (v := .ref (s + 0)) rfl rfl rfl rfl).trans ?_
    refine (ygr 98 rfl (zFS.tag hC.1 (j := 0) (by decide) rfl) rfl hC.2.2.1).trans ?_
    refine (ygr 101 rfl hC.2.2.2.2.2.1 rfl hC.2.2.2.2.2.2.1).trans ?_
    refine (yg 104 rfl (zFS.tag hC.2.2.2.1 (j := 0) (by decide) rfl) (zFS.ni hC.2.2.2.1 (j := 0) (by decide) rfl) (by decide) rfl (zst_rd hC (j := 0) (by decide))).trans ?_
    refine ys18_3 107 rfl rfl (fun h104 => ?_) (fun h104 => absurd (by rw [hN.2.2.1]; exact nI_le (by omega) (by have := hN.2.2.2.1; omega)) h104)
    rw [show rb2 T 0 i S = S from by rw [rb2]; (try dsimp only); first | done | rfl] at hkk; exact hkk
  | m + 1, i, S, e, hkk => by
    have hi : i < 20 := by have := hN.2.2.2.1; omega
    refine (ys4 94 (v := .int (nI i)) rfl rfl rfl rfl).trans ?_
    refine (ys4 95 (v := .ref (s + 0)) rfl rfl rfl rfl).trans ?_
    refine (ygr 98 rfl (zFS.tag hC.1 (j := 0) (by decide) rfl) rfl hC.2.2.1).trans ?_
    refine (ygr 101 rfl hC.2.2.2.2.2.1 rfl hC.2.2.2.2.2.2.1).trans ?_
    refine (yg 104 rfl (zFS.tag hC.2.2.2.1 (j := 0) (by decide) rfl) (zFS.ni hC.2.2.2.1 (j := 0) (by decide) rfl) (by decide) rfl (zst_rd hC (j := 0) (by decide))).trans ?_
    refine ys18_3 107 rfl rfl (fun h104 => absurd h104 (by rw [hN.2.2.1]; exact nI_ge (by omega) (by have := hN.2.2.2.1; omega))) (fun h104 => ?_)
    refine (ys4 108 (v := .ref (s + 0)) rfl rfl rfl rfl).trans ?_
    refine (ygr 111 rfl (zFS.tag hC.1 (j := 0) (by decide) rfl) rfl (hC.2.1 3 (by decide))).trans ?_
    refine (ys4 112 (v := .int (nI i)) rfl rfl rfl rfl).trans ?_
    refine (ys1 113 (x := 0) rfl rfl rfl).trans ?_
    refine (ywx 114 (N := 20) rfl (j := i) rfl (zFS.tag hC.1 (j := 4) (by decide) rfl) (zFS.k0 hC.1 (j := 4)) (zFS.ni hC.1 (j := 4) (by decide) rfl) (by omega) (by decide) rfl (zfl_up (j := 4) (by decide))).trans ?_
    generalize hS1 : zup S 4 i (0) = S1
    refine (ys4 115 (v := .ref (s + 0)) rfl rfl rfl rfl).trans ?_
    refine (ygr 118 rfl (zFS.tag hC.1 (j := 0) (by decide) rfl) rfl (hC.2.1 4 (by decide))).trans ?_
    refine (ys4 119 (v := .int (nI i)) rfl rfl rfl rfl).trans ?_
    refine (ys4 120 (v := .ref (s + 0)) rfl rfl rfl rfl).trans ?_
    refine (ygr 123 rfl (zFS.tag hC.1 (j := 0) (by decide) rfl) rfl hC.2.2.1).trans ?_
    refine (ygr 126 rfl hC.2.2.2.2.2.1 rfl hC.2.2.2.2.2.2.1).trans ?_
    refine (ygr 129 rfl (zFS.tag hC.2.2.2.1 (j := 0) (by decide) rfl) rfl (hC.2.2.2.2.1 5 (by decide))).trans ?_
    refine (ys4 130 (v := .int (nI i)) rfl rfl rfl rfl).trans ?_
    refine (ylx 131 (N := 20) rfl (j := i) rfl (Or.inl (zFS.tag hC.2.2.2.1 (j := 6) (by decide) rfl)) (zFS.ni hC.2.2.2.1 (j := 6) (by decide) rfl) (by omega) (by decide) rfl (zst_rd hC (j := 6) (by decide))).trans ?_
    refine (ywx 132 (N := 20) rfl (j := i) rfl (zFS.tag hC.1 (j := 5) (by decide) rfl) (zFS.k0 hC.1 (j := 5)) (zFS.ni hC.1 (j := 5) (by decide) rfl) (by omega) (by decide) rfl (zfl_up (j := 5) (by decide))).trans ?_
    generalize hS2 : zup S1 5 i ((T 6 i)) = S2
    refine (ys4 133 (v := .ref (s + 0)) rfl rfl rfl rfl).trans ?_
    refine (ygr 136 rfl (zFS.tag hC.1 (j := 0) (by decide) rfl) rfl (hC.2.1 9 (by decide))).trans ?_
    refine (ys4 137 (v := .int (nI i)) rfl rfl rfl rfl).trans ?_
    refine (ys1 138 (x := 0) rfl rfl rfl).trans ?_
    refine (ywx 139 (N := 20) rfl (j := i) rfl (zFS.tag hC.1 (j := 10) (by decide) rfl) (zFS.k0 hC.1 (j := 10)) (zFS.ni hC.1 (j := 10) (by decide) rfl) (by omega) (by decide) rfl (zfl_up (j := 10) (by decide))).trans ?_
    generalize hS3 : zup S2 10 i (0) = S3
    refine (ys6 142 (y := nI (i + 1)) (L2 := [(1, .int (nI (i + 1))), (0, .ref (s + 0))]) rfl rfl (nI_1 _) rfl rfl).trans ?_
    refine (ys19 rfl).trans ?_
    rw [show rb2 T (m + 1) i S = rb2 T m (i + 1) S3 from by subst hS3 hS2 hS1; rw [rb2]; (try dsimp only); first | done | rfl] at hkk; exact l_b2 hC hN m (i + 1)  S3  (by omega) hkk

def rb3 : Nat → Nat → zFn → zFn
  | 0, i, S =>
    S
  | m + 1, i, S =>
    let S1 := zup S 15 i (0)
    let S2 := zup S1 16 i (0)
    rb3 m (i + 1) S2

theorem l_b3 {d c sl : Nat} {rz : zR} {x t s : Nat} {T J : zFn} {μ : zM} (hC : zSC μ x t s J T) : ∀ (m i : Nat) (S : zFn), i + m = 6 → zden1 (d + 1) (zden zcds (d + 1)) zc187 (227, [(1, .int (nI 6)), (0, .ref (s + 0))], [], c, sl, zwi μ (zfl J s 22 ((rb3 m i S)))) = some rz → zden1 (d + 1) (zden zcds (d + 1)) zc187 (201, [(1, .int (nI i)), (0, .ref (s + 0))], [], c, sl, zwi μ (zfl J s 22 S)) = some rz
  | 0, i, S, e, hkk => by
    have ei : i = 6 := by omega
    subst ei
    refine (ys4 202 (v := .int (nI 6)) rfl rfl rfl rfl).trans ?_
    refine (ys1 204 (x := nI 6) rfl rfl rfl).trans ?_
    refine ys18_3 207 rfl rfl (fun h204 => ?_) (fun h204 => absurd (nI_le (by omega) (by omega)) h204)
    rw [show rb3 0 6 S = S from by rw [rb3]; (try dsimp only); first | done | rfl] at hkk; exact hkk
  | m + 1, i, S, e, hkk => by
    refine (ys4 202 (v := .int (nI i)) rfl rfl rfl rfl).trans ?_
    refine (ys1 204 (x := nI 6) rfl rfl rfl).trans ?_
    refine ys18_3 207 rfl rfl (fun h204 => absurd h204 (nI_ge (by omega) (by omega))) (fun h204 => ?_)
    refine (ys4 208 (v := .ref (s + 0)) rfl rfl rfl rfl).trans ?_
    refine (ygr 211 rfl (zFS.tag hC.1 (j := 0) (by decide) rfl) rfl (hC.2.1 14 (by decide))).trans ?_
    refine (ys4 212 (v := .int (nI i)) rfl rfl rfl rfl).trans ?_
    refine (ys1 213 (x := 0) rfl rfl rfl).trans ?_
    refine (ywx 214 (N := 6) rfl (j := i) rfl (zFS.tag hC.1 (j := 15) (by decide) rfl) (zFS.k0 hC.1 (j := 15)) (zFS.ni hC.1 (j := 15) (by decide) rfl) (by omega) (by decide) rfl (zfl_up (j := 15) (by decide))).trans ?_
    generalize hS1 : zup S 15 i (0) = S1
    refine (ys4 215 (v := .ref (s + 0)) rfl rfl rfl rfl).trans ?_
    refine (ygr 218 rfl (zFS.tag hC.1 (j := 0) (by decide) rfl) rfl (hC.2.1 15 (by decide))).trans ?_
    refine (ys4 219 (v := .int (nI i)) rfl rfl rfl rfl).trans ?_
    refine (ys1 220 (x := 0) rfl rfl rfl).trans ?_
    refine (ywx 221 (N := 6) rfl (j := i) rfl (zFS.tag hC.1 (j := 16) (by decide) rfl) (zFS.k0 hC.1 (j := 16)) (zFS.ni hC.1 (j := 16) (by decide) rfl) (by omega) (by decide) rfl (zfl_up (j := 16) (by decide))).trans ?_
    generalize hS2 : zup S1 16 i (0) = S2
    refine (ys6 224 (y := nI (i + 1)) (L2 := [(1, .int (nI (i + 1))), (0, .ref (s + 0))]) rfl rfl (nI_1 _) rfl rfl).trans ?_
    refine (ys19 rfl).trans ?_
    rw [show rb3 (m + 1) i S = rb3 m (i + 1) S2 from by subst hS2 hS1; rw [rb3]; (try dsimp only); first | done | rfl] at hkk; exact l_b3 hC m (i + 1)  S2  (by omega) hkk

def rb4 : Nat → Nat → zFn → zFn
  | 0, i, S =>
    S
  | m + 1, i, S =>
    let S1 := zup S 18 i (0)
    let S2 := zup S1 19 i (0)
    let S3 := zup S2 20 i ((-1))
    let S4 := zup S3 21 i (0)
    rb4 m (i + 1) S4

theorem l_b4 {d c sl : Nat} {rz : zR} {x t s : Nat} {T J : zFn} {μ : zM} (hC : zSC μ x t s J T) : ∀ (m i : Nat) (S : zFn), i + m = 12 → zden1 (d + 1) (zden zcds (d + 1)) zc187 (269, [(1, .int (nI 12)), (0, .ref (s + 0))], [], c, sl, zwi μ (zfl J s 22 ((rb4 m i S)))) = some rz → zden1 (d + 1) (zden zcds (d + 1)) zc187 (229, [(1, .int (nI i)), (0, .ref (s + 0))], [], c, sl, zwi μ (zfl J s 22 S)) = some rz
  | 0, i, S, e, hkk => by
    have ei : i = 12 := by omega
    subst ei
    refine (ys4 230 (v := .int (nI 12)) rfl rfl rfl rfl).trans ?_
    refine (ys1 232 (x := nI 12) rfl rfl rfl).trans ?_
    refine ys18_3 235 rfl rfl (fun h232 => ?_) (fun h232 => absurd (nI_le (by omega) (by omega)) h232)
    rw [show rb4 0 12 S = S from by rw [rb4]; (try dsimp only); first | done | rfl] at hkk; exact hkk
  | m + 1, i, S, e, hkk => by
    refine (ys4 230 (v := .int (nI i)) rfl rfl rfl rfl).trans ?_
    refine (ys1 232 (x := nI 12) rfl rfl rfl).trans ?_
    refine ys18_3 235 rfl rfl (fun h232 => absurd h232 (nI_ge (by omega) (by omega))) (fun h232 => ?_)
    refine (ys4 236 (v := .ref (s + 0)) rfl rfl rfl rfl).trans ?_
    refine (ygr 239 rfl (zFS.tag hC.1 (j := 0) (by decide) rfl) rfl (hC.2.1 17 (by decide))).trans ?_
    refine (ys4 240 (v := .int (nI i)) rfl rfl rfl rfl).trans ?_
    refine (ys1 241 (x := 0) rfl rfl rfl).trans ?_
    refine (ywx 242 (N := 12) rfl (j := i) rfl (zFS.tag hC.1 (j := 18) (by decide) rfl) (zFS.k0 hC.1 (j := 18)) (zFS.ni hC.1 (j := 18) (by decide) rfl) (by omega) (by decide) rfl (zfl_up (j := 18) (by decide))).trans ?_
    generalize hS1 : zup S 18 i (0) = S1
    refine (ys4 243 (v := .ref (s + 0)) rfl rfl rfl rfl).trans ?_
    refine (ygr 246 rfl (zFS.tag hC.1 (j := 0) (by decide) rfl) rfl (hC.2.1 18 (by decide))).trans ?_
    refine (ys4 247 (v := .int (nI i)) rfl rfl rfl rfl).trans ?_
    refine (ys1 248 (x := 0) rfl rfl rfl).trans ?_
    refine (ywx 249 (N := 12) rfl (j := i) rfl (zFS.tag hC.1 (j := 19) (by decide) rfl) (zFS.k0 hC.1 (j := 19)) (zFS.ni hC.1 (j := 19) (by decide) rfl) (by omega) (by decide) rfl (zfl_up (j := 19) (by decide))).trans ?_
    generalize hS2 : zup S1 19 i (0) = S2
    refine (ys4 250 (v := .ref (s + 0)) rfl rfl rfl rfl).trans ?_
    refine (ygr 253 rfl (zFS.tag hC.1 (j := 0) (by decide) rfl) rfl (hC.2.1 19 (by decide))).trans ?_
    refine (ys4 254 (v := .int (nI i)) rfl rfl rfl rfl).trans ?_
    refine (ys1 255 (x := (-1)) rfl rfl rfl).trans ?_
    refine (ywx 256 (N := 12) rfl (j := i) rfl (zFS.tag hC.1 (j := 20) (by decide) rfl) (zFS.k0 hC.1 (j := 20)) (zFS.ni hC.1 (j := 20) (by decide) rfl) (by omega) (by decide) rfl (zfl_up (j := 20) (by decide))).trans ?_
    generalize hS3 : zup S2 20 i ((-1)) = S3
    refine (ys4 257 (v := .ref (s + 0)) rfl rfl rfl rfl).trans ?_
    refine (ygr 260 rfl (zFS.tag hC.1 (j := 0) (by decide) rfl) rfl (hC.2.1 20 (by decide))).trans ?_
    refine (ys4 261 (v := .int (nI i)) rfl rfl rfl rfl).trans ?_
    refine (ys1 262 (x := 0) rfl rfl rfl).trans ?_
    refine (ywx 263 (N := 12) rfl (j := i) rfl (zFS.tag hC.1 (j := 21) (by decide) rfl) (zFS.k0 hC.1 (j := 21)) (zFS.ni hC.1 (j := 21) (by decide) rfl) (by omega) (by decide) rfl (zfl_up (j := 21) (by decide))).trans ?_
    generalize hS4 : zup S3 21 i (0) = S4
    refine (ys6 266 (y := nI (i + 1)) (L2 := [(1, .int (nI (i + 1))), (0, .ref (s + 0))]) rfl rfl (nI_1 _) rfl rfl).trans ?_
    refine (ys19 rfl).trans ?_
    rw [show rb4 (m + 1) i S = rb4 m (i + 1) S4 from by subst hS4 hS3 hS2 hS1; rw [rb4]; (try dsimp only); first | done | rfl] at hkk; exact l_b4 hC m (i + 1)  S4  (by omega) hkk

def rbeg (S : zFn) (T : zFn) (nl : Nat) (np : Nat) : zFn :=
  let S1 := rb1 T nl 0 S
  let S2 := rb2 T np 0 S1
  let S3 := zrow S2 13 (T 9)
  let S4 := zrow S3 14 (T 10)
  let S5 := zrow S4 17 (T 13)
  let S6 := rb3 6 0 S5
  let S7 := rb4 12 0 S6
  S7

theorem c_beg {d : Nat} {x t s : Nat} {S T J : zFn} {μ : zM} (hC : zSC μ x t s J T) {nl np nh nk : Nat} (hN : zTN T nl np nh nk) : zden zcds (d + 2) 187 [.ref (s + 0)] (zwi μ (zfl J s 22 S)) = some (0, none, 0, 0, zwi μ (zfl J s 22 ((rbeg S T nl np)))) := by
  refine (zd_in (d := d + 1) (cd := zc187) (nL := 2) (L := [(0, .ref (s + 0))]) rfl (Nat.le_of_ble_eq_true rfl) rfl).trans ?_
  refine (ys1 1 (x := nI 0) rfl rfl rfl).trans ?_
  refine (ys5 2 (L2 := [(1, .int (nI 0)), (0, .ref (s + 0))]) rfl rfl rfl rfl).trans ?_
  refine l_b1 hC hN nl 0 S (by omega) ?_
  generalize hS1 : rb1 T nl 0 S = S1
  refine (ys1 92 (x := nI 0) rfl rfl rfl).trans ?_
  refine (ys5 93 (L2 := [(1, .int (nI 0)), (0, .ref (s + 0))]) rfl rfl rfl rfl).trans ?_
  refine l_b2 hC hN np 0 S1 (by omega) ?_
  generalize hS2 : rb2 T np 0 S1 = S2
  refine (ys4 146 (v := .ref (s + 0)) rfl rfl rfl rfl).trans ?_
  refine (ys4 147 (v := .ref (s + 0)) rfl rfl rfl rfl).trans ?_
  refine (ygr 150 rfl (zFS.tag hC.1 (j := 0) (by decide) rfl) rfl hC.2.2.1).trans ?_
  refine (ygr 153 rfl hC.2.2.2.2.2.1 rfl hC.2.2.2.2.2.2.1).trans ?_
  refine (ygr 156 rfl (zFS.tag hC.2.2.2.1 (j := 0) (by decide) rfl) rfl (hC.2.2.2.2.1 8 (by decide))).trans ?_
  refine (ys4 157 (v := .ref (s + 0)) rfl rfl rfl rfl).trans ?_
  refine (ygr 160 rfl (zFS.tag hC.1 (j := 0) (by decide) rfl) rfl (hC.2.1 12 (by decide))).trans ?_
  refine (yc3 163 rfl rfl (Nat.le_of_ble_eq_true rfl) (Or.inr (by show ztg (zwi _ _) _ = _; rw [ztg_wi]; exact (zFS.tag hC.1 (j := 0) (by decide) rfl))) rfl rfl (c_cpy hC (j := 13) (by decide) rfl rfl (zFS.tag hC.2.2.2.1 (j := 9) (by decide) rfl) (zFS.ni hC.2.2.2.1 (j := 9) (by decide) rfl) (zFS.k0 hC.2.2.2.1 (j := 9)) (fun k _ => (zst_rd hC (j := 9) (by decide))))).trans ?_
  generalize hS3 : zrow S2 13 (T 9) = S3
  refine (ys4 164 (v := .ref (s + 0)) rfl rfl rfl rfl).trans ?_
  refine (ys4 165 (v := .ref (s + 0)) rfl rfl rfl rfl).trans ?_
  refine (ygr 168 rfl (zFS.tag hC.1 (j := 0) (by decide) rfl) rfl hC.2.2.1).trans ?_
  refine (ygr 171 rfl hC.2.2.2.2.2.1 rfl hC.2.2.2.2.2.2.1).trans ?_
  refine (ygr 174 rfl (zFS.tag hC.2.2.2.1 (j := 0) (by decide) rfl) rfl (hC.2.2.2.2.1 9 (by decide))).trans ?_
  refine (ys4 175 (v := .ref (s + 0)) rfl rfl rfl rfl).trans ?_
  refine (ygr 178 rfl (zFS.tag hC.1 (j := 0) (by decide) rfl) rfl (hC.2.1 13 (by decide))).trans ?_
  refine (yc3 181 rfl rfl (Nat.le_of_ble_eq_true rfl) (Or.inr (by show ztg (zwi _ _) _ = _; rw [ztg_wi]; exact (zFS.tag hC.1 (j := 0) (by decide) rfl))) rfl rfl (c_cpy hC (j := 14) (by decide) rfl rfl (zFS.tag hC.2.2.2.1 (j := 10) (by decide) rfl) (zFS.ni hC.2.2.2.1 (j := 10) (by decide) rfl) (zFS.k0 hC.2.2.2.1 (j := 10)) (fun k _ => (zst_rd hC (j := 10) (by decide))))).trans ?_
  generalize hS4 : zrow S3 14 (T 10) = S4
  refine (ys4 182 (v := .ref (s + 0)) rfl rfl rfl rfl).trans ?_
  refine (ys4 183 (v := .ref (s + 0)) rfl rfl rfl rfl).trans ?_
  refine (ygr 186 rfl (zFS.tag hC.1 (j := 0) (by decide) rfl) rfl hC.2.2.1).trans ?_
  refine (ygr 189 rfl hC.2.2.2.2.2.1 rfl hC.2.2.2.2.2.2.1).trans ?_
  refine (ygr 192 rfl (zFS.tag hC.2.2.2.1 (j := 0) (by decide) rfl) rfl (hC.2.2.2.2.1 12 (by decide))).trans ?_
  refine (ys4 193 (v := .ref (s + 0)) rfl rfl rfl rfl).trans ?_
  refine (ygr 196 rfl (zFS.tag hC.1 (j := 0) (by decide) rfl) rfl (hC.2.1 16 (by decide))).trans ?_
  refine (yc3 199 rfl rfl (Nat.le_of_ble_eq_true rfl) (Or.inr (by show ztg (zwi _ _) _ = _; rw [ztg_wi]; exact (zFS.tag hC.1 (j := 0) (by decide) rfl))) rfl rfl (c_cpy hC (j := 17) (by decide) rfl rfl (zFS.tag hC.2.2.2.1 (j := 13) (by decide) rfl) (zFS.ni hC.2.2.2.1 (j := 13) (by decide) rfl) (zFS.k0 hC.2.2.2.1 (j := 13)) (fun k _ => (zst_rd hC (j := 13) (by decide))))).trans ?_
  generalize hS5 : zrow S4 17 (T 13) = S5
  refine (ys1 200 (x := nI 0) rfl rfl rfl).trans ?_
  refine (ys5 201 (L2 := [(1, .int (nI 0)), (0, .ref (s + 0))]) rfl rfl rfl rfl).trans ?_
  refine l_b3 hC 6 0 S5 (by omega) ?_
  generalize hS6 : rb3 6 0 S5 = S6
  refine (ys1 228 (x := nI 0) rfl rfl rfl).trans ?_
  refine (ys5 229 (L2 := [(1, .int (nI 0)), (0, .ref (s + 0))]) rfl rfl rfl rfl).trans ?_
  refine l_b4 hC 12 0 S6 (by omega) ?_
  generalize hS7 : rb4 12 0 S6 = S7
  refine (ys36v rfl rfl).trans ?_
  rw [show rbeg S T nl np = S7 from by subst hS7 hS6 hS5 hS4 hS3 hS2 hS1; unfold rbeg; (try dsimp only); first | done | rfl]; (first | done | rfl)

