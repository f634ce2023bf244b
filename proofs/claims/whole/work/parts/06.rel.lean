/-! WHAT TIES THE ABSTRACT MACHINE'S MEMORY TO THE HEAP. G: the classes' numbers, the row classes, the addresses of what was there, the unknown one, the law's heap size, the script. -/
abbrev zG : Type := va_G × (Nat → ClassId) × (Nat → Nat) × Value × Nat × List Int32
def zaq (G : zG) (AL : List Nat) (k : Nat) : Nat := if k < zK0 then G.2.2.1 k else AL.getD (k - zK0) 0
def zva (G : zG) (AL : List Nat) : Value → Value
  | .ref k => if k = zUK then G.2.2.2.1 else .ref (zaq G AL k)
  | v => v
def zA (G : zG) : Nat → Prop := fun q => G.2.2.2.2.1 ≤ q
def zfv (G : zG) (AL : List Nat) (e : zE) (q : Nat × Nat) : Value := if q.1 = 0 then .int (e.2.1.getD q.2 0) else va_rf ((e.2.2.1.getD q.2 none).map (zaq G AL))
def zae (G : zG) (AL : List Nat) (e : zE) : va_E :=
  if e.1 < 11 then .inr (e.1, (zft e.1).map (zfv G AL e))
  else if e.1 = 20 then .inl (G.2.1 0, e.2.1.length, .inl (fun j => e.2.1.getD j 0))
  else if e.1 = 21 then .inl (G.2.1 1, e.2.1.length, .inl (fun j => e.2.1.getD j 0))
  else if e.1 = 22 then .inl (G.2.1 2, e.2.2.2.length, .inr (.inl (fun j => e.2.2.2.getD j 0)))
  else .inl (G.2.1 (e.1 - 20), e.2.2.1.length, .inr (.inr (.inr (.inr (fun j => (e.2.2.1.getD j none).map (zaq G AL))))))
def zws (G : zG) (AL : List Nat) (ν : zM) : va_W := List.zipWith (fun a e => (a, zae G AL e)) AL ν
/-- a thing that can be made: its references are known places -/
def zwe (n : Nat) (e : zE) : Prop := (e.1 < 11 ∨ (20 ≤ e.1 ∧ e.1 < 28)) ∧ ∀ k, some k ∈ e.2.2.1 → k < n ∧ k ≠ zUK
def zvw (n : Nat) : Value → Prop
  | .ref k => k < n
  | _ => True
def zRel (G : zG) (AL : List Nat) (μ : zM) (H : Heap) : Prop :=
  ∃ ν, μ = zm0 G.2.2.2.2.2 ++ ν ∧ AL.length = ν.length ∧ va_P G.1 zcl (zws G AL ν) H ∧ va_D (zA G) (zws G AL ν) ∧ ∀ e ∈ ν, zwe (zK0 + ν.length) e
def ztys (G : zG) : List (ClassId × FieldType) := [(G.2.1 0, .int), (G.2.1 1, .byte), (G.2.1 2, .long), (G.2.1 3, .object "LoftPost$Kind"), (G.2.1 4, .object "LoftPost$Loft"), (G.2.1 5, .object "LoftPost$Pigeon"), (G.2.1 6, .object "LoftPost$Hawk"), (G.2.1 7, .object "LoftPost$Letter")]
theorem zm0_len (xs : List Int32) : (zm0 xs).length = zK0 := by rw [zm0, List.length_append]; rfl
theorem zm0c_tags : ∀ e ∈ zm0c, e.1 = 31 ∨ e.1 = 32 ∨ e.1 = 33 ∨ e.1 = 34 ∨ e.1 = 35 ∨ e.1 = 99 := by decide +kernel
theorem zm0_tags (xs : List Int32) : ∀ e ∈ zm0 xs, e.1 = 30 ∨ e.1 = 31 ∨ e.1 = 32 ∨ e.1 = 33 ∨ e.1 = 34 ∨ e.1 = 35 ∨ e.1 = 99 := by
  intro e he
  rcases List.mem_append.mp he with h | h
  · exact Or.inr (zm0c_tags e h)
  · rw [List.mem_singleton.mp h]; exact Or.inl rfl
theorem zen_of {μ : zM} {r : Nat} (h : ztg μ r ≠ 99) : μ[r]? = some (zen μ r) ∧ r < μ.length := by
  unfold ztg zen at *
  by_cases hr : r < μ.length
  · rw [List.getD_eq_getElem?_getD, List.getElem?_eq_getElem hr]
    exact ⟨rfl, hr⟩
  · rw [List.getD_eq_getElem?_getD, List.getElem?_eq_none (by omega)] at h
    exact absurd rfl h
/-- a made thing's place -/
theorem zdyn {xs : List Int32} {ν : zM} {r : Nat} (h : ztg (zm0 xs ++ ν) r < 11 ∨ (20 ≤ ztg (zm0 xs ++ ν) r ∧ ztg (zm0 xs ++ ν) r < 28)) :
    zK0 ≤ r ∧ ν[r - zK0]? = some (zen (zm0 xs ++ ν) r) ∧ r - zK0 < ν.length := by
  obtain ⟨h1, h2⟩ := zen_of (μ := zm0 xs ++ ν) (r := r) (by omega)
  have hk : zK0 ≤ r := by
    rcases Nat.lt_or_ge r zK0 with hr | hr
    · exfalso
      rw [List.getElem?_append_left (by rw [zm0_len]; exact hr)] at h1
      have h3 := zm0_tags xs _ (List.mem_of_getElem? h1)
      have h4 : (zen (zm0 xs ++ ν) r).1 = ztg (zm0 xs ++ ν) r := rfl
      omega
    · exact hr
  rw [List.getElem?_append_right (by rw [zm0_len]; exact hk), zm0_len] at h1
  exact ⟨hk, h1, (List.getElem?_eq_some_iff.mp h1).1⟩
theorem zws_at {G : zG} {AL : List Nat} {ν : zM} {i : Nat} {e : zE} (hl : AL.length = ν.length) (h : ν[i]? = some e) : (zws G AL ν)[i]? = some (AL.getD i 0, zae G AL e) := by
  have hi : i < ν.length := (List.getElem?_eq_some_iff.mp h).1
  have ha : AL[i]? = some (AL.getD i 0) := by rw [List.getD_eq_getElem?_getD, List.getElem?_eq_getElem (by omega)]; rfl
  unfold zws
  rw [List.getElem?_zipWith, ha, h]
theorem zws_set {G : zG} {AL : List Nat} {ν : zM} {i : Nat} {e : zE} (hl : AL.length = ν.length) (hi : i < ν.length) : zws G AL (ν.set i e) = (zws G AL ν).set i (AL.getD i 0, zae G AL e) := by
  apply List.ext_getElem?
  intro j
  have hz : (zws G AL ν).length = ν.length := by simp [zws, hl]
  by_cases hj : i = j
  · subst hj
    rw [List.getElem?_set_self (by rw [hz]; exact hi)]
    exact zws_at (by simpa using hl) (List.getElem?_set_self hi)
  · rw [List.getElem?_set_ne hj]
    unfold zws
    rw [List.getElem?_zipWith, List.getElem?_zipWith, List.getElem?_set_ne hj]
theorem zaq_ext {G : zG} {AL : List Nat} {q k : Nat} (h : k < zK0 + AL.length) : zaq G (AL ++ [q]) k = zaq G AL k := by
  unfold zaq
  split
  · rfl
  · rw [List.getD_eq_getElem?_getD, List.getD_eq_getElem?_getD, List.getElem?_append_left (by omega)]
theorem zmap_ext {G : zG} {AL : List Nat} {q n : Nat} (hn : n = zK0 + AL.length) {l : List (Option Nat)} (h : ∀ k, some k ∈ l → k < n ∧ k ≠ zUK) (j : Nat) : (l.getD j none).map (zaq G (AL ++ [q])) = (l.getD j none).map (zaq G AL) := by
  cases hx : l.getD j none with
  | none => rfl
  | some k =>
    have hm : some k ∈ l := by
      rw [List.getD_eq_getElem?_getD] at hx
      cases hy : l[j]? with
      | none => rw [hy] at hx; cases hx
      | some y => rw [hy] at hx; cases hx; exact List.mem_of_getElem? hy
    show some _ = some _
    rw [zaq_ext (by have := (h k hm).1; omega)]
theorem zae_ext {G : zG} {AL : List Nat} {q n : Nat} (hn : n = zK0 + AL.length) {e : zE} (h : zwe n e) : zae G (AL ++ [q]) e = zae G AL e := by
  have hm := zmap_ext (G := G) (q := q) hn h.2
  have hf : zfv G (AL ++ [q]) e = zfv G AL e := by
    funext x
    unfold zfv
    rw [hm]
  unfold zae
  rw [hf]
  have hg : (fun j => (e.2.2.1.getD j none).map (zaq G (AL ++ [q]))) = (fun j => (e.2.2.1.getD j none).map (zaq G AL)) := funext hm
  rw [hg]
theorem zws_ext {G : zG} {AL : List Nat} {q n : Nat} (hn : n = zK0 + AL.length) : ∀ (BL : List Nat) (ν : zM), (∀ e ∈ ν, zwe n e) → List.zipWith (fun a e => (a, zae G (AL ++ [q]) e)) BL ν = List.zipWith (fun a e => (a, zae G AL e)) BL ν
  | [], _, _ => by simp
  | _ :: _, [], _ => by simp
  | b :: BL, e :: ν, h => by
    rw [List.zipWith_cons_cons, List.zipWith_cons_cons, zae_ext hn (h e List.mem_cons_self), zws_ext hn BL ν (fun x hx => h x (List.mem_cons_of_mem _ hx))]
theorem zws_push {G : zG} {AL : List Nat} {ν : zM} {q : Nat} {e : zE} (hl : AL.length = ν.length) (h : ∀ x ∈ ν, zwe (zK0 + ν.length) x) : zws G (AL ++ [q]) (ν ++ [e]) = zws G AL ν ++ [(q, zae G (AL ++ [q]) e)] := by
  unfold zws
  rw [List.zipWith_append hl, zws_ext (n := zK0 + ν.length) (by rw [hl]) AL ν h]
  rfl
theorem zva_ext {G : zG} {AL : List Nat} {q : Nat} {v : Value} (h : zvw (zK0 + AL.length) v) : zva G (AL ++ [q]) v = zva G AL v := by
  cases v with
  | ref k =>
    show (if k = zUK then _ else _) = (if k = zUK then _ else _)
    rw [zaq_ext h]
  | _ => rfl
theorem zwe_mono {n n' : Nat} (hn : n ≤ n') {e : zE} (h : zwe n e) : zwe n' e := ⟨h.1, fun k hk => ⟨Nat.lt_of_lt_of_le (h.2 k hk).1 hn, (h.2 k hk).2⟩⟩
theorem zvw_mono {n n' : Nat} (hn : n ≤ n') {v : Value} (h : zvw n v) : zvw n' v := by
  cases v with
  | ref k => exact Nat.lt_of_lt_of_le h hn
  | _ => trivial
theorem zRel.len {G : zG} {AL : List Nat} {μ : zM} {H : Heap} (h : zRel G AL μ H) : μ.length = zK0 + AL.length := by
  obtain ⟨ν, rfl, hl, -⟩ := h
  rw [List.length_append, zm0_len, hl]
/-- a reference read out of memory is a known place -/
theorem zRel.ref {G : zG} {AL : List Nat} {μ : zM} {H : Heap} (h : zRel G AL μ H) {r k j : Nat} (hr : zgr μ r j = some k) : k < μ.length ∧ k ≠ zUK := by
  obtain ⟨ν, rfl, hl, hP, hD, hw⟩ := h
  unfold zgr at hr
  rw [List.getD_eq_getElem?_getD] at hr
  have hm : some k ∈ (zen (zm0 G.2.2.2.2.2 ++ ν) r).2.2.1 := by
    cases hy : (zen (zm0 G.2.2.2.2.2 ++ ν) r).2.2.1[j]? with
    | none => rw [hy] at hr; cases hr
    | some y => rw [hy] at hr; cases hr; exact List.mem_of_getElem? hy
  have hlen : (zm0 G.2.2.2.2.2 ++ ν).length = zK0 + ν.length := by rw [List.length_append, zm0_len]
  rw [hlen]
  have hme : zen (zm0 G.2.2.2.2.2 ++ ν) r ∈ zm0 G.2.2.2.2.2 ++ ν := by
    unfold zen at hm ⊢
    rw [List.getD_eq_getElem?_getD] at hm ⊢
    cases hy : (zm0 G.2.2.2.2.2 ++ ν)[r]? with
    | none => rw [hy] at hm; cases hm
    | some y => exact List.mem_of_getElem? hy
  rcases List.mem_append.mp hme with h1 | h1
  · have hs : ∀ e ∈ zm0c, ∀ o ∈ e.2.2.1, ∀ k, o = some k → k < zK0 ∧ k ≠ zUK := by
      have hd : zm0c.all (fun e => e.2.2.1.all (fun o => o.all (fun k => decide (k < zK0 ∧ k ≠ zUK)))) = true := by decide +kernel
      intro e he o ho k hk
      have h2 := List.all_eq_true.mp (List.all_eq_true.mp hd e he) o ho
      rw [hk] at h2
      exact of_decide_eq_true h2
    rcases List.mem_append.mp h1 with h2 | h2
    · have := hs _ h2 _ hm k rfl
      exact ⟨by omega, this.2⟩
    · rw [List.mem_singleton.mp h2] at hm
      cases hm
  · exact (hw _ h1).2 k hm
/-- the ties when one made thing changes -/
theorem zRel.set {G : zG} {AL : List Nat} {ν : zM} {H : Heap} {i : Nat} {e : zE} (hl : AL.length = ν.length) (hi : i < ν.length) (hw : ∀ e ∈ ν, zwe (zK0 + ν.length) e) (he : zwe (zK0 + ν.length) e)
    (hP : va_P G.1 zcl ((zws G AL ν).set i (AL.getD i 0, zae G AL e)) H) (hD : va_D (zA G) ((zws G AL ν).set i (AL.getD i 0, zae G AL e))) : zRel G AL (zm0 G.2.2.2.2.2 ++ ν.set i e) H := by
  rw [← zws_set hl hi] at hP hD
  refine ⟨ν.set i e, rfl, by rw [List.length_set]; exact hl, hP, hD, fun x hx => ?_⟩
  rw [List.length_set]
  rcases List.mem_or_eq_of_mem_set hx with h | h
  · exact hw x h
  · rw [h]; exact he
theorem zmu_set {xs : List Int32} {ν : zM} {r : Nat} {e : zE} (h : zK0 ≤ r) : (zm0 xs ++ ν).set r e = zm0 xs ++ ν.set (r - zK0) e := by
  rw [List.set_append_right _ _ (by rw [zm0_len]; exact h), zm0_len]
