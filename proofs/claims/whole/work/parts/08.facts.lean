/-! FIELDS AND ROWS. -/
theorem zcl_at : ∀ c, c < 11 → zcl[c]? = some (zCn c, zTT c, zNf c)
  | 0, _ => rfl
  | 1, _ => rfl
  | 2, _ => rfl
  | 3, _ => rfl
  | 4, _ => rfl
  | 5, _ => rfl
  | 6, _ => rfl
  | 7, _ => rfl
  | 8, _ => rfl
  | 9, _ => rfl
  | 10, _ => rfl
  | n + 11, h => absurd h (by omega)
theorem zin_u0 : (List.range 11).all (fun c => (u_ws (zCn c) (zTT c) (zNf c)).all (fun w => decide (w ∈ lw_tbl) && goodWord w)) = true := by decide +kernel
theorem zin_u {c : Nat} (hc : c < 11) : ∀ w ∈ u_ws (zCn c) (zTT c) (zNf c), w ∈ zT := by
  intro w hw
  have h := List.all_eq_true.mp (List.all_eq_true.mp zin_u0 c (List.mem_range.mpr hc)) w hw
  simp only [Bool.and_eq_true, decide_eq_true_eq] at h
  exact List.mem_filter.mpr h
theorem zty_ok : ∀ c, c < 11 → ∀ k, k < zNf c → parseFieldDescriptor (zTT c k).2.2.1 = some (ztt c k) := by decide +kernel
theorem znm_ok : ∀ c, c < 11 → ∀ a, a < zNf c → ∀ b, b < zNf c → a ≠ b → (zTT c a).2.1 ≠ (zTT c b).2.1 := by decide +kernel
theorem zft_len : ∀ c, c < 11 → (zft c).length = zNf c := by decide +kernel
theorem zft_nd : ∀ c, c < 11 → (zft c).Nodup := by decide +kernel
def zisR : FieldType → Bool
  | .object _ => true
  | .array _ => true
  | _ => false
theorem zft_ty : ∀ c, c < 11 → ∀ f, f < zNf c → ((zfk c f).1 = 0 → ztt c f = .int) ∧ ((zfk c f).1 = 1 → zisR (ztt c f) = true) := by decide +kernel
theorem zfits_r {ty : FieldType} (h : zisR ty = true) {v : Value} (hv : v = .null ∨ ∃ a, v = .ref a) : narrow ty v = v ∧ fits ty v = true := by
  cases ty <;> first | (simp [zisR] at h; done) | (rcases hv with rfl | ⟨a, rfl⟩ <;> exact ⟨rfl, rfl⟩)
theorem zm0_ref {xs : List Int32} {e : zE} (he : e ∈ zm0 xs) {k : Nat} (hk : some k ∈ e.2.2.1) : k < zK0 ∧ k ≠ zUK := by
  have hs : ∀ e ∈ zm0c, ∀ o ∈ e.2.2.1, ∀ k, o = some k → k < zK0 ∧ k ≠ zUK := by
    have hd : zm0c.all (fun e => e.2.2.1.all (fun o => o.all (fun k => decide (k < zK0 ∧ k ≠ zUK)))) = true := by decide +kernel
    intro e he o ho k hk
    have h2 := List.all_eq_true.mp (List.all_eq_true.mp hd e he) o ho
    rw [hk] at h2
    exact of_decide_eq_true h2
  rcases List.mem_append.mp he with h | h
  · exact hs e h _ hk k rfl
  · rw [List.mem_singleton.mp h] at hk
    cases hk
theorem zget_mem {l : List (Option Nat)} {j k : Nat} (h : l.getD j none = some k) : some k ∈ l := by
  rw [List.getD_eq_getElem?_getD] at h
  cases hy : l[j]? with
  | none => rw [hy] at h; cases h
  | some y => rw [hy] at h; cases h; exact List.mem_of_getElem? hy
theorem zva_rf {G : zG} {AL : List Nat} {o : Option Nat} (h : ∀ k, o = some k → k ≠ zUK) : zva G AL (va_rf o) = va_rf (o.map (zaq G AL)) := by
  cases o with
  | none => rfl
  | some k =>
    show (if k = zUK then G.2.2.2.1 else Value.ref (zaq G AL k)) = .ref (zaq G AL k)
    rw [if_neg (h k rfl)]
theorem zva_dyn {G : zG} {AL : List Nat} {r : Nat} (h : zK0 ≤ r) : zva G AL (.ref r) = .ref (AL.getD (r - zK0) 0) := by
  have h2 : ¬ r = zUK := by unfold zK0 at h; unfold zUK; omega
  have h3 : ¬ r < zK0 := by omega
  show (if r = zUK then G.2.2.2.1 else Value.ref (zaq G AL r)) = _
  rw [if_neg h2]
  unfold zaq
  rw [if_neg h3]
theorem zva_sta {G : zG} {AL : List Nat} {r : Nat} (h : r < zK0) (h2 : r ≠ zUK) : zva G AL (.ref r) = .ref (G.2.2.1 r) := by
  show (if r = zUK then G.2.2.2.1 else Value.ref (zaq G AL r)) = _
  rw [if_neg h2]
  unfold zaq
  rw [if_pos h]
theorem zsta {xs : List Int32} {ν : zM} {r n : Nat} (hw : ∀ e ∈ ν, zwe n e) (h : 30 ≤ ztg (zm0 xs ++ ν) r) (h9 : ztg (zm0 xs ++ ν) r ≠ 99) : r < zK0 ∧ (zm0 xs)[r]? = some (zen (zm0 xs ++ ν) r) := by
  obtain ⟨h1, h2⟩ := zen_of (μ := zm0 xs ++ ν) (r := r) h9
  rcases Nat.lt_or_ge r zK0 with hr | hr
  · rw [List.getElem?_append_left (by rw [zm0_len]; exact hr)] at h1
    exact ⟨hr, h1⟩
  · exfalso
    rw [List.getElem?_append_right (by rw [zm0_len]; exact hr)] at h1
    have h3 := (hw _ (List.mem_of_getElem? h1)).1
    have h4 : (zen (zm0 xs ++ ν) r).1 = ztg (zm0 xs ++ ν) r := rfl
    omega
/-- a list of fields with one of them changed -/
theorem zset_fs {a f : Nat} {q0 : Nat × Nat} {g g' : Nat × Nat → Value} (hn : (zft a).Nodup) (h : (zft a)[f]? = some q0) (hg : ∀ q, q ≠ q0 → g' q = g q) : ((zft a).map g).set f (g' q0) = (zft a).map g' := by
  have hf : f < (zft a).length := (List.getElem?_eq_some_iff.mp h).1
  apply List.ext_getElem?
  intro j
  by_cases hj : f = j
  · subst hj
    rw [List.getElem?_set_self (by rw [List.length_map]; exact hf), List.getElem?_map, h]
    rfl
  · rw [List.getElem?_set_ne hj, List.getElem?_map, List.getElem?_map]
    cases hx : (zft a)[j]? with
    | none => rfl
    | some q =>
      show some (g q) = some (g' q)
      rw [hg q]
      intro hq
      subst hq
      exact hj ((List.getElem?_inj hf hn).mp (h.trans hx.symm))
theorem zgetD_set {α : Type} {l : List α} {b j : Nat} {x d : α} (hb : b < l.length) : (l.set b x).getD j d = if j = b then x else l.getD j d := by
  rw [List.getD_eq_getElem?_getD, List.getD_eq_getElem?_getD]
  by_cases h : j = b
  · subst h
    rw [if_pos rfl, List.getElem?_set_self hb]
    rfl
  · rw [if_neg h, List.getElem?_set_ne (Ne.symm h)]
theorem zae_obj {G : zG} {AL : List Nat} {e : zE} {a : Nat} (h : e.1 = a) (ha : a < 11) : zae G AL e = .inr (a, (zft a).map (zfv G AL e)) := by
  unfold zae
  rw [if_pos (by omega), h]
theorem zft_at {a f : Nat} {q : Nat × Nat} (ha : a < 11) (hf : f < zNf a) (h : zfk a f = q) : (zft a)[f]? = some q := by
  have hl := zft_len a ha
  unfold zfk at h
  rw [if_neg (by omega), if_neg (by omega), List.getD_eq_getElem?_getD, List.getElem?_eq_getElem (by omega)] at h
  rw [List.getElem?_eq_getElem (by omega)]
  exact congrArg some h
theorem zfd_own {a f : Nat} (ha : a < 11) : zfd a f = ((zTT a f).1, (zTT a f).2.1, (zTT a f).2.2.1) := by
  unfold zfd
  rw [if_neg (by omega), if_neg (by omega)]
theorem zlf_0 {own host : String} {ix p : Nat} {q : String × String × String} {s : State} {args : Array Value} (hT : ∀ w ∈ zT, w.before args s = true) (h : zlf own host ix 0 q p = true) : (Cond.fieldLink own ix q.1 q.2.1 q.2.2).before args s = true := by
  unfold zlf at h
  rw [if_pos rfl] at h
  exact hT _ (zin_T h rfl)
theorem zlf_t {own host : String} {ix p : Nat} {C n d : String} {s : State} {args : Array Value} (hT : ∀ w ∈ zT, w.before args s = true) (h : zlf own host ix 0 (C, n, d) p = true) : (Cond.fieldLink own ix C n d).before args s = true := zlf_0 hT h
theorem zlf_1 {own host : String} {ix p n : Nat} {q : String × String × String} {G : zG} {s : State} {args : Array Value} (E : zEnv G s) (hn : n ≠ 0) (h : zlf own host ix n q p = true) : (Cond.fieldLinkNest own ix q.1 q.2.1 q.2.2 host).before args s = true := by
  unfold zlf at h
  rw [if_neg hn] at h
  exact va_Nw.use rfl (E.2.2.1 _ (zin_L h) rfl)
theorem zlf_u {own host : String} {ix p k : Nat} {C n d : String} {G : zG} {s : State} {args : Array Value} (E : zEnv G s) (hk : k ≠ 0) (h : zlf own host ix k (C, n, d) p = true) : (Cond.fieldLinkNest own ix C n d host).before args s = true := zlf_1 E hk h
