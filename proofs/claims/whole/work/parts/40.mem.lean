/-! MEMORY AS A SHAPE AND A FUNCTION: zwi μ I is μ with its ints replaced by those of I. -/
def zwe1 (e : zE) (f : Nat → Int32) : zE := (e.1, (List.range e.2.1.length).map f, e.2.2.1, e.2.2.2)
def zwi (μ : zM) (I : Nat → Nat → Int32) : zM := (List.range μ.length).map (fun a => zwe1 (zen μ a) (I a))
def zup (I : Nat → Nat → Int32) (a k : Nat) (x : Int32) : Nat → Nat → Int32 := fun a' k' => if a' = a ∧ k' = k then x else I a' k'
theorem zwi_len (μ : zM) (I : Nat → Nat → Int32) : (zwi μ I).length = μ.length := by simp [zwi]
theorem zen_wi (μ : zM) (I : Nat → Nat → Int32) (a : Nat) : zen (zwi μ I) a = zwe1 (zen μ a) (I a) := by
  by_cases h : a < μ.length
  · unfold zen zwi
    rw [List.getD_eq_getElem?_getD, List.getElem?_map, List.getElem?_range h]
    rfl
  · have h1 : zen μ a = zd := by unfold zen; rw [List.getD_eq_getElem?_getD, List.getElem?_eq_none (by omega)]; rfl
    have h2 : zen (zwi μ I) a = zd := by unfold zen; rw [List.getD_eq_getElem?_getD, List.getElem?_eq_none (by rw [zwi_len]; omega)]; rfl
    rw [h1, h2]
    rfl
theorem ztg_wi (μ : zM) (I : Nat → Nat → Int32) (a : Nat) : ztg (zwi μ I) a = ztg μ a := by unfold ztg; rw [zen_wi]; rfl
theorem zgr_wi (μ : zM) (I : Nat → Nat → Int32) (a k : Nat) : zgr (zwi μ I) a k = zgr μ a k := by unfold zgr; rw [zen_wi]; rfl
theorem zgl_wi (μ : zM) (I : Nat → Nat → Int32) (a k : Nat) : zgl (zwi μ I) a k = zgl μ a k := by unfold zgl; rw [zen_wi]; rfl
theorem znr_wi (μ : zM) (I : Nat → Nat → Int32) (a : Nat) : znr (zwi μ I) a = znr μ a := by unfold znr; rw [zen_wi]; rfl
theorem znl_wi (μ : zM) (I : Nat → Nat → Int32) (a : Nat) : znl (zwi μ I) a = znl μ a := by unfold znl; rw [zen_wi]; rfl
theorem zni_wi (μ : zM) (I : Nat → Nat → Int32) (a : Nat) : zni (zwi μ I) a = zni μ a := by unfold zni; rw [zen_wi]; simp [zwe1]
theorem zgi_wi {μ : zM} {I : Nat → Nat → Int32} {a k : Nat} (h : k < zni μ a) : zgi (zwi μ I) a k = I a k := by
  unfold zgi
  rw [zen_wi]
  show ((List.range (zni μ a)).map (I a)).getD k 0 = I a k
  rw [List.getD_eq_getElem?_getD, List.getElem?_map, List.getElem?_range h]
  rfl
theorem zal_wi (μ : zM) (I : Nat → Nat → Int32) (a : Nat) : zal (zwi μ I) a = zal μ a := by unfold zal; rw [ztg_wi, zni_wi, znr_wi, znl_wi]
theorem zwi_at {μ : zM} {I : Nat → Nat → Int32} {a : Nat} (h : a < μ.length) : (zwi μ I)[a]? = some (zwe1 (zen μ a) (I a)) := by
  unfold zwi
  rw [List.getElem?_map, List.getElem?_range h]
  rfl
/-- two memories of one length whose things are the same at each place -/
theorem zm_ext {μ ν : zM} (hl : μ.length = ν.length) (h : ∀ a, a < μ.length → zen μ a = zen ν a) : μ = ν := by
  apply List.ext_getElem?
  intro a
  by_cases ha : a < μ.length
  · have h1 := h a ha
    unfold zen at h1
    rw [List.getD_eq_getElem?_getD, List.getD_eq_getElem?_getD, List.getElem?_eq_getElem ha, List.getElem?_eq_getElem (hl ▸ ha)] at h1
    rw [List.getElem?_eq_getElem ha, List.getElem?_eq_getElem (hl ▸ ha)]
    exact congrArg some h1
  · rw [List.getElem?_eq_none (by omega), List.getElem?_eq_none (by omega)]
theorem zen_set {μ : zM} {a b : Nat} {e : zE} (h : b < μ.length) : zen (μ.set a e) b = if a = b then e else zen μ b := by
  unfold zen
  rw [List.getD_eq_getElem?_getD, List.getElem?_set]
  by_cases h1 : a = b
  · subst h1
    rw [if_pos rfl, if_pos h, if_pos rfl]
    rfl
  · rw [if_neg h1, if_neg h1, ← List.getD_eq_getElem?_getD]
theorem zsi_wi (μ : zM) (I : Nat → Nat → Int32) (a k : Nat) (x : Int32) : zsi (zwi μ I) a k x = zwi μ (zup I a k x) := by
  apply zm_ext
  · rw [zsi, List.length_set, zwi_len, zwi_len]
  · intro b hb
    have hb : b < μ.length := by rw [zsi, List.length_set, zwi_len] at hb; exact hb
    rw [zen_wi, zsi, zen_set (by rw [zwi_len]; exact hb)]
    by_cases h : a = b
    · subst h
      rw [if_pos rfl, zen_wi, ztg_wi]
      show (ztg μ a, ((List.range (zen μ a).2.1.length).map (I a)).set k x, (zen μ a).2.2.1, (zen μ a).2.2.2) = ((zen μ a).1, (List.range (zen μ a).2.1.length).map (zup I a k x a), (zen μ a).2.2.1, (zen μ a).2.2.2)
      have : ((List.range (zen μ a).2.1.length).map (I a)).set k x = (List.range (zen μ a).2.1.length).map (zup I a k x a) := by
        apply List.ext_getElem?
        intro j
        rw [List.getElem?_set, List.getElem?_map, List.getElem?_map]
        by_cases hj : j < (zen μ a).2.1.length
        · rw [List.getElem?_range hj]
          by_cases hk : k = j
          · subst hk
            simp [zup, hj]
          · rw [if_neg hk]
            simp [zup, Ne.symm hk]
        · rw [List.getElem?_eq_none (by simpa using hj)]
          by_cases hk : k = j
          · subst hk
            simp [hj]
          · rw [if_neg hk]
            rfl
      rw [this]
      rfl
    · rw [if_neg h, zen_wi]
      have : zup I a k x b = I b := by funext j; simp [zup, Ne.symm h]
      rw [this]
theorem zup_same (I : Nat → Nat → Int32) (a k : Nat) (x : Int32) : zup I a k x a k = x := by simp [zup]
theorem zup_ne {I : Nat → Nat → Int32} {a k a' k' : Nat} {x : Int32} (h : ¬ (a' = a ∧ k' = k)) : zup I a k x a' k' = I a' k' := by simp [zup, h]
/-- a row of ints as another's copy -/
theorem zsI_wi {μ : zM} {I : Nat → Nat → Int32} {a : Nat} {l : List Int32} (h : l.length = zni μ a) : zsI (zwi μ I) a l = zwi μ (fun b => if b = a then (fun k => l.getD k 0) else I b) := by
  apply zm_ext
  · rw [zsI, List.length_set, zwi_len, zwi_len]
  · intro b hb
    have hb : b < μ.length := by rw [zsI, List.length_set, zwi_len] at hb; exact hb
    rw [zen_wi, zsI, zen_set (by rw [zwi_len]; exact hb)]
    by_cases hab : a = b
    · subst hab
      rw [if_pos rfl, if_pos rfl, zen_wi, ztg_wi]
      have : l = (List.range (zen μ a).2.1.length).map (fun k => l.getD k 0) := by
        apply List.ext_getElem?
        intro j
        rw [List.getElem?_map]
        by_cases hj : j < l.length
        · rw [List.getElem?_range (by rw [h] at hj; exact hj), List.getElem?_eq_getElem hj]
          simp [List.getD_eq_getElem?_getD, List.getElem?_eq_getElem hj]
        · rw [List.getElem?_eq_none (by omega), List.getElem?_eq_none (by rw [List.length_range]; unfold zni at h; omega)]
          rfl
      show (ztg μ a, l, (zen μ a).2.2.1, (zen μ a).2.2.2) = ((zen μ a).1, (List.range (zen μ a).2.1.length).map (fun k => l.getD k 0), (zen μ a).2.2.1, (zen μ a).2.2.2)
      rw [← this]
      rfl
    · rw [if_neg hab, if_neg (Ne.symm hab), zen_wi]
theorem zsr_wi (μ : zM) (I : Nat → Nat → Int32) (a k : Nat) (x : Option Nat) : zsr (zwi μ I) a k x = zwi (zsr μ a k x) I := by
  apply zm_ext
  · rw [zsr, List.length_set, zwi_len, zwi_len, zsr, List.length_set]
  · intro b hb
    have hb : b < μ.length := by rw [zsr, List.length_set, zwi_len] at hb; exact hb
    rw [zen_wi, zsr, zen_set (by rw [zwi_len]; exact hb), zsr, zen_set hb]
    by_cases hab : a = b
    · subst hab
      rw [if_pos rfl, if_pos rfl, zen_wi, ztg_wi]
      rfl
    · rw [if_neg hab, if_neg hab, zen_wi]
theorem zsl_wi (μ : zM) (I : Nat → Nat → Int32) (a k : Nat) (x : Int64) : zsl (zwi μ I) a k x = zwi (zsl μ a k x) I := by
  apply zm_ext
  · rw [zsl, List.length_set, zwi_len, zwi_len, zsl, List.length_set]
  · intro b hb
    have hb : b < μ.length := by rw [zsl, List.length_set, zwi_len] at hb; exact hb
    rw [zen_wi, zsl, zen_set (by rw [zwi_len]; exact hb), zsl, zen_set hb]
    by_cases hab : a = b
    · subst hab
      rw [if_pos rfl, if_pos rfl, zen_wi, ztg_wi]
      rfl
    · rw [if_neg hab, if_neg hab, zen_wi]
theorem zen_app_lt {μ : zM} {e : zE} {a : Nat} (h : a < μ.length) : zen (μ ++ [e]) a = zen μ a := by
  unfold zen
  rw [List.getD_eq_getElem?_getD, List.getD_eq_getElem?_getD, List.getElem?_append_left h]
theorem zen_app_eq (μ : zM) (e : zE) : zen (μ ++ [e]) μ.length = e := by
  unfold zen
  rw [List.getD_eq_getElem?_getD, List.getElem?_append_right (Nat.le_refl _)]
  simp
/-- a new thing: its ints -/
theorem zwi_app (μ : zM) (I : Nat → Nat → Int32) (t : Nat) (x : List Int32) (y : List (Option Nat)) (z : List Int64) : zwi μ I ++ [(t, x, y, z)] = zwi (μ ++ [(t, x, y, z)]) (fun b => if b = μ.length then (fun k => x.getD k 0) else I b) := by
  apply zm_ext
  · simp [zwi_len]
  · intro b hb
    have hb : b < μ.length + 1 := by simpa [zwi_len] using hb
    rw [zen_wi]
    by_cases h : b = μ.length
    · subst h
      have h1 := zen_app_eq (zwi μ I) (t, x, y, z)
      rw [zwi_len] at h1
      rw [h1, zen_app_eq, if_pos rfl]
      have : x = (List.range x.length).map (fun k => x.getD k 0) := by
        apply List.ext_getElem?
        intro j
        rw [List.getElem?_map]
        by_cases hj : j < x.length
        · rw [List.getElem?_range hj, List.getElem?_eq_getElem hj]
          simp [List.getD_eq_getElem?_getD, List.getElem?_eq_getElem hj]
        · rw [List.getElem?_eq_none (by omega), List.getElem?_eq_none (by rw [List.length_range]; omega)]
          rfl
      show (t, x, y, z) = (t, (List.range x.length).map (fun k => x.getD k 0), y, z)
      rw [← this]
    · have hlt : b < μ.length := by omega
      rw [zen_app_lt (by rw [zwi_len]; exact hlt), zen_app_lt hlt, if_neg h, zen_wi]
/-- every memory is its own shape with its own ints -/
theorem zwi_self (μ : zM) : zwi μ (zgi μ) = μ := by
  apply zm_ext
  · rw [zwi_len]
  · intro b hb
    rw [zen_wi]
    show ((zen μ b).1, (List.range (zen μ b).2.1.length).map (fun k => (zen μ b).2.1.getD k 0), (zen μ b).2.2.1, (zen μ b).2.2.2) = zen μ b
    have : (List.range (zen μ b).2.1.length).map (fun k => (zen μ b).2.1.getD k 0) = (zen μ b).2.1 := by
      apply List.ext_getElem?
      intro j
      rw [List.getElem?_map]
      by_cases hj : j < (zen μ b).2.1.length
      · rw [List.getElem?_range hj, List.getElem?_eq_getElem hj]
        simp [List.getD_eq_getElem?_getD, List.getElem?_eq_getElem hj]
      · rw [List.getElem?_eq_none (by rw [List.length_range]; omega), List.getElem?_eq_none (by omega)]
        rfl
    rw [this]
