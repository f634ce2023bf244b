/-! A WORLD IN MEMORY. V: kind, number, field (kinds: 0 the world's ints, 1 lofts, 2 pigeons, 3 hawks, 4 letters, 5 and 6 a loft's spots, 7 a letter's sizes, 8 its carriers). -/
abbrev zV : Type := Nat → Nat → Nat → Int32
def zvu (V : zV) (q i k : Nat) (x : Int32) : zV := fun q' i' k' => if q' = q ∧ i' = i ∧ k' = k then x else V q' i' k'
theorem zvu_same (V : zV) (q i k : Nat) (x : Int32) : zvu V q i k x q i k = x := by simp [zvu]
theorem zvu_ne {V : zV} {q i k q' i' k' : Nat} {x : Int32} (h : ¬ (q' = q ∧ i' = i ∧ k' = k)) : zvu V q i k x q' i' k' = V q' i' k' := by simp [zvu, h]
/-- what lies so many places behind a world -/
def zpk (o : Nat) : Nat × Nat :=
  if o = 0 then (0, 0) else if o < 5 then (9, o)
  else if o < 23 then ((if (o - 5) % 3 = 0 then 1 else if (o - 5) % 3 = 1 then 5 else 6), (o - 5) / 3)
  else if o < 43 then (2, o - 23) else if o < 49 then (3, o - 43)
  else ((if (o - 49) % 3 = 0 then 4 else if (o - 49) % 3 = 1 then 7 else 8), (o - 49) / 3)
/-- I, with a world at w that holds V -/
def zpc (I : Nat → Nat → Int32) (w : Nat) (V : zV) : Nat → Nat → Int32 := fun a k => if w ≤ a ∧ a < w + 85 then V (zpk (a - w)).1 (zpk (a - w)).2 k else I a k
theorem zpk_inj : ∀ o, o < 85 → ∀ p, p < 85 → zpk o = zpk p → o = p := by decide +kernel
theorem zpk_1 : ∀ i, i < 6 → zpk (5 + 3 * i) = (1, i) := by decide +kernel
theorem zpk_2 : ∀ i, i < 20 → zpk (23 + i) = (2, i) := by decide +kernel
theorem zpk_3 : ∀ i, i < 6 → zpk (43 + i) = (3, i) := by decide +kernel
theorem zpk_4 : ∀ i, i < 12 → zpk (49 + 3 * i) = (4, i) := by decide +kernel
theorem zpk_5 : ∀ i, i < 6 → zpk (6 + 3 * i) = (5, i) := by decide +kernel
theorem zpk_6 : ∀ i, i < 6 → zpk (7 + 3 * i) = (6, i) := by decide +kernel
theorem zpk_7 : ∀ i, i < 12 → zpk (50 + 3 * i) = (7, i) := by decide +kernel
theorem zpk_8 : ∀ i, i < 12 → zpk (51 + 3 * i) = (8, i) := by decide +kernel
theorem zpc_at {I : Nat → Nat → Int32} {w : Nat} {V : zV} {o q i k : Nat} (hk : zpk o = (q, i)) (ho : o < 85) : zpc I w V (w + o) k = V q i k := by
  unfold zpc
  rw [if_pos ⟨Nat.le_add_right _ _, by omega⟩, Nat.add_sub_cancel_left, hk]
theorem zpc_up {I : Nat → Nat → Int32} {w : Nat} {V : zV} {o q i k : Nat} {x : Int32} (hk : zpk o = (q, i)) (ho : o < 85) : zup (zpc I w V) (w + o) k x = zpc I w (zvu V q i k x) := by
  funext a j
  unfold zup zpc
  by_cases ha : w ≤ a ∧ a < w + 85
  · rw [if_pos ha, if_pos ha]
    unfold zvu
    by_cases h : a = w + o ∧ j = k
    · obtain ⟨rfl, rfl⟩ := h
      rw [if_pos ⟨rfl, rfl⟩, Nat.add_sub_cancel_left, hk, if_pos ⟨rfl, rfl, rfl⟩]
    · rw [if_neg h, if_neg]
      rintro ⟨h1, h2, h3⟩
      apply h
      have : a - w = o := zpk_inj (a - w) (by omega) o ho (by rw [hk]; exact Prod.ext h1 h2)
      exact ⟨by omega, h3⟩
  · rw [if_neg ha, if_neg ha, if_neg]
    rintro ⟨h1, h2⟩
    exact ha ⟨by omega, by omega⟩
theorem zpc_out {I : Nat → Nat → Int32} {w : Nat} {V : zV} {a k : Nat} (h : a < w ∨ w + 85 ≤ a) : zpc I w V a k = I a k := by
  unfold zpc
  rw [if_neg (by omega)]
/-- two worlds that lie apart -/
theorem zpc_swap {I : Nat → Nat → Int32} {w u : Nat} {V U : zV} (h : w + 85 ≤ u ∨ u + 85 ≤ w) : zpc (zpc I w V) u U = zpc (zpc I u U) w V := by
  funext a k
  unfold zpc
  by_cases h1 : u ≤ a ∧ a < u + 85
  · rw [if_pos h1, if_neg (by omega), if_pos h1]
  · rw [if_neg h1, if_neg h1]
/-- the shape of a world: tags, numbers of ints and of references, and the references, as so many places behind it -/
def zwT (o : Nat) : Nat := if o = 0 then 3 else if o = 1 then 24 else if o = 2 then 25 else if o = 3 then 26 else if o = 4 then 27 else if o < 23 then (if (o - 5) % 3 = 0 then 4 else 20) else if o < 43 then 5 else if o < 49 then 6 else (if (o - 49) % 3 = 0 then 7 else 20)
def zwN (o : Nat) : Nat := if o = 0 then 6 else if o < 5 then 0 else if o < 23 then (if (o - 5) % 3 = 0 then 5 else 6) else if o < 43 then 12 else if o < 49 then 6 else (if (o - 49) % 3 = 0 then 6 else if (o - 49) % 3 = 1 then 6 else 120)
def zwR (o : Nat) : List (Option Nat) := if o = 0 then [some 1, some 2, some 3, some 4] else if o = 1 then (List.range 6).map (fun i => some (5 + 3 * i)) else if o = 2 then (List.range 20).map (fun i => some (23 + i)) else if o = 3 then (List.range 6).map (fun i => some (43 + i)) else if o = 4 then (List.range 12).map (fun i => some (49 + 3 * i)) else if o < 23 then (if (o - 5) % 3 = 0 then [some (o + 1), some (o + 2)] else []) else if o < 49 then [] else (if (o - 49) % 3 = 0 then [some (o + 1), some (o + 2)] else [])
def zWS (μ : zM) (w : Nat) : Prop := zK0 ≤ w ∧ ∀ o, o < 85 → ztg μ (w + o) = zwT o ∧ zni μ (w + o) = zwN o ∧ (zen μ (w + o)).2.2.1 = (zwR o).map (fun q => q.map (w + ·))
section ZWS
variable {μ : zM} {w : Nat}
theorem zWS.tag (h : zWS μ w) {o t : Nat} (ho : o < 85) (ht : zwT o = t) : ztg μ (w + o) = t := ht ▸ (h.2 o ho).1
theorem zWS.ni (h : zWS μ w) {o t : Nat} (ho : o < 85) (ht : zwN o = t) : zni μ (w + o) = t := ht ▸ (h.2 o ho).2.1
theorem zWS.nr (h : zWS μ w) {o t : Nat} (ho : o < 85) (ht : (zwR o).length = t) : znr μ (w + o) = t := by
  unfold znr
  rw [(h.2 o ho).2.2, List.length_map, ht]
theorem zWS.gr (h : zWS μ w) {o k : Nat} {q : Nat} (ho : o < 85) (hq : (zwR o)[k]? = some (some q)) : zgr μ (w + o) k = some (w + q) := by
  unfold zgr
  rw [(h.2 o ho).2.2, List.getD_eq_getElem?_getD, List.getElem?_map, hq]
  rfl
theorem zWS.k0 (h : zWS μ w) {o : Nat} : zK0 ≤ w + o := Nat.le_trans h.1 (Nat.le_add_right _ _)
theorem zwT_1 : ∀ i, i < 6 → zwT (5 + 3 * i) = 4 ∧ zwN (5 + 3 * i) = 5 ∧ (zwR (5 + 3 * i))[0]? = some (some (6 + 3 * i)) ∧ (zwR (5 + 3 * i))[1]? = some (some (7 + 3 * i)) ∧ 5 + 3 * i < 85 := by decide +kernel
theorem zwT_2 : ∀ i, i < 20 → zwT (23 + i) = 5 ∧ zwN (23 + i) = 12 ∧ 23 + i < 85 := by decide +kernel
theorem zwT_3 : ∀ i, i < 6 → zwT (43 + i) = 6 ∧ zwN (43 + i) = 6 ∧ 43 + i < 85 := by decide +kernel
theorem zwT_4 : ∀ i, i < 12 → zwT (49 + 3 * i) = 7 ∧ zwN (49 + 3 * i) = 6 ∧ (zwR (49 + 3 * i))[0]? = some (some (50 + 3 * i)) ∧ (zwR (49 + 3 * i))[1]? = some (some (51 + 3 * i)) ∧ 49 + 3 * i < 85 := by decide +kernel
theorem zwT_5 : ∀ i, i < 6 → zwT (6 + 3 * i) = 20 ∧ zwN (6 + 3 * i) = 6 ∧ 6 + 3 * i < 85 := by decide +kernel
theorem zwT_6 : ∀ i, i < 6 → zwT (7 + 3 * i) = 20 ∧ zwN (7 + 3 * i) = 6 ∧ 7 + 3 * i < 85 := by decide +kernel
theorem zwT_7 : ∀ i, i < 12 → zwT (50 + 3 * i) = 20 ∧ zwN (50 + 3 * i) = 6 ∧ 50 + 3 * i < 85 := by decide +kernel
theorem zwT_8 : ∀ i, i < 12 → zwT (51 + 3 * i) = 20 ∧ zwN (51 + 3 * i) = 120 ∧ 51 + 3 * i < 85 := by decide +kernel
theorem zwR_1 : ∀ i, i < 6 → (zwR 1)[i]? = some (some (5 + 3 * i)) := by decide +kernel
theorem zwR_2 : ∀ i, i < 20 → (zwR 2)[i]? = some (some (23 + i)) := by decide +kernel
theorem zwR_3 : ∀ i, i < 6 → (zwR 3)[i]? = some (some (43 + i)) := by decide +kernel
theorem zwR_4 : ∀ i, i < 12 → (zwR 4)[i]? = some (some (49 + 3 * i)) := by decide +kernel
end ZWS
