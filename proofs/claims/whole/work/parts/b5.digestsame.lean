/-! THE DIGEST ON BOTH SIDES -/
def gfl (N : Nat) (f : Nat → Nat → Int32) : Nat → Nat → Int64 → Int64
  | 0, _, a => a
  | m + 1, i, a => gfl N f m (i + 1) (a * 31 + (f (i / N) (i % N)).toInt64)
theorem gfl_in {N : Nat} {f : Nat → Nat → Int32} {l M : Nat} : ∀ (j i : Nat) (a : Int64), i + j = N → gfl N f (j + M) (l * N + i) a = gfl N f M (l * N + N) (mdgR (f l) j i a)
  | 0, i, a, h => by
    rw [Nat.zero_add, show i = N from by omega]
    rfl
  | j + 1, i, a, h => by
    rw [show j + 1 + M = (j + M) + 1 from by omega, gfl]
    have e1 : (l * N + i) / N = l := by
      rw [Nat.mul_comm, Nat.mul_add_div (by omega), Nat.div_eq_of_lt (by omega), Nat.add_zero]
    have e2 : (l * N + i) % N = i := by
      rw [Nat.mul_comm, Nat.mul_add_mod, Nat.mod_eq_of_lt (by omega)]
    rw [e1, e2, show l * N + i + 1 = l * N + (i + 1) from by omega, gfl_in j (i + 1) _ (by omega)]
    rfl
theorem gfl_O {N : Nat} {f : Nat → Nat → Int32} : ∀ (m l : Nat) (a : Int64), gfl N f (m * N) (l * N) a = mdgO N f m l a
  | 0, l, a => by
    rw [Nat.zero_mul]
    rfl
  | m + 1, l, a => by
    have h := gfl_in (N := N) (f := f) (l := l) (M := m * N) N 0 a (by omega)
    rw [show (m + 1) * N = N + m * N from by rw [Nat.add_mul, Nat.one_mul, Nat.add_comm], show l * N = l * N + 0 from rfl, h, show l * N + N = (l + 1) * N from by rw [Nat.add_mul, Nat.one_mul], gfl_O m (l + 1)]
    rfl
section ZDG
variable {V : zV} {T S : zFn} {nl np nh nk : Nat}
theorem zdg_lt {i m N : Nat} (hN : 0 < N) (h : i < m * N) : i / N < m ∧ i % N < N := ⟨(Nat.div_lt_iff_lt_mul hN).mpr h, Nat.mod_lt _ hN⟩
theorem zq_dg1 {g : Nat} (hR : zqR V T S nl np nh nk g) {X : zFn} {tl : Int32} (htl : tl = X 0 1) : ∀ (m i : Nat) (a : Int64), i + m = 12 → vdg1 V np nk tl m i a = mdgR (fun i => mcd X S T np nk (nI i)) m i a
  | 0, _, _, _ => rfl
  | m + 1, i, a, h => by
    rw [vdg1, mdgR, ← zq_dg1 hR htl m (i + 1) _ (by omega)]
    rcases zq_cou hR htl (nI i) with ⟨h1, -⟩ | ⟨-, h1⟩
    · exact absurd (h1.symm.trans (rin_ok (m := 11) (by decide) (by omega))) (by decide)
    · rw [h1]
theorem zq_dg2 {g : Nat} (hR : zqR V T S nl np nh nk g) : ∀ (m i : Nat) (a : Int64), i + m = nl * 8 → vdg2 V np nk m i a = gfl 8 (fun l => mlo S T l np nk) m i a
  | 0, _, _, _ => rfl
  | m + 1, i, a, h => by
    have h1 := zdg_lt (N := 8) (by decide) (show i < nl * 8 by omega)
    rw [vdg2, gfl, zq_lof hR h1.1 h1.2, zq_dg2 hR m (i + 1) _ (by omega)]
theorem zq_dg3 (hR : zqR V T S nl np nh nk 6) : ∀ (m i : Nat) (a : Int64), i + m = np * 8 → vdg3 V m i a = gfl 8 (fun l => mpt S T l) m i a
  | 0, _, _, _ => rfl
  | m + 1, i, a, h => by
    have h1 := zdg_lt (N := 8) (by decide) (show i < np * 8 by omega)
    rw [vdg3, gfl, zq_pig hR h1.1 h1.2, zq_dg3 hR m (i + 1) _ (by omega)]
theorem zq_dg4 (hR : zqR V T S nl np nh nk 6) : ∀ (m i : Nat) (a : Int64), i + m = nh * 5 → vdg4 V m i a = gfl 5 (fun l => fun v => mhd S T l (nI v)) m i a
  | 0, _, _, _ => rfl
  | m + 1, i, a, h => by
    have h1 := zdg_lt (N := 5) (by decide) (show i < nh * 5 by omega)
    rw [vdg4, gfl, zq_haw hR h1.1 h1.2, zq_dg4 hR m (i + 1) _ (by omega)]
theorem zq_dg5 {g : Nat} (hR : zqR V T S nl np nh nk g) : ∀ (m i : Nat) (a : Int64), i + m = nk * 8 → vdg5 V np nk m i a = gfl 8 (fun l => mlt S T l np) m i a
  | 0, _, _, _ => rfl
  | m + 1, i, a, h => by
    have h1 := zdg_lt (N := 8) (by decide) (show i < nk * 8 by omega)
    rw [vdg5, gfl, zq_lett' hR h1.1 h1.2, zq_dg5 hR m (i + 1) _ (by omega)]
theorem zq_digs (hR : zqR V T S nl np nh nk 6) {X : zFn} {tl : Int32} (htl : tl = X 0 1) : adig V np nk nl nh tl = mdig X S T nl np nh nk := by
  unfold adig mdig
  rw [zq_dg5 hR _ _ _ (by omega), zq_dg4 hR _ _ _ (by omega), zq_dg3 hR _ _ _ (by omega), zq_dg2 hR _ _ _ (by omega), zq_dg1 hR htl _ _ _ (by omega)]
  have e := fun N (f : Nat → Nat → Int32) m a => gfl_O (N := N) (f := f) m 0 a
  simp only [Nat.zero_mul] at e
  rw [e, e, e, e]
end ZDG
