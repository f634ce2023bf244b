/-! RUNS THAT TOUCH NO PLACE BUT THOSE MADE ANEW: told in places counted from the memory's end -/
def rsh (L : Nat) : Value → Value
  | .ref k => .ref (L + k)
  | v => v
def rshE (L : Nat) (e : zE) : zE := (e.1, e.2.1, e.2.2.1.map (fun q => q.map (L + ·)), e.2.2.2)
def rshM (L : Nat) (ν : zM) : zM := ν.map (rshE L)
def rshL (L : Nat) (l : zL) : zL := l.map (fun q => (q.1, rsh L q.2))
def rshS (P : zM) (S : zS) : zS := (S.1, rshL P.length S.2.1, S.2.2.1.map (rsh P.length), S.2.2.2.1, S.2.2.2.2.1, P ++ rshM P.length S.2.2.2.2.2)
def rshR (P : zM) (r : zR) : zR := (r.1, r.2.1.map (rsh P.length), r.2.2.1, r.2.2.2.1, P ++ rshM P.length r.2.2.2.2)
def ro24 (a b : Nat) (k : Int) : zS → zO
  | (pc, L, .int x :: .ref r :: st, c, sl, μ) => if ztg μ r = a ∧ a ≠ 99 ∧ k = 0 ∧ b < zni μ r then some (.inl (pc + 3, L, st, c, sl, zsi μ r b x)) else none
  | (pc, L, .ref x :: .ref r :: st, c, sl, μ) => if ztg μ r = a ∧ a ≠ 99 ∧ k ≠ 0 ∧ b < znr μ r then some (.inl (pc + 3, L, st, c, sl, zsr μ r b (some x))) else none
  | _ => none
def ro27 : zS → zO
  | (pc, L, .ref k :: .int j :: .ref r :: st, c, sl, μ) => if ¬ j < 0 ∧ ((4 ≤ ztg μ k ∧ ztg μ k < 8) ∨ ztg μ k = 33) ∧ 23 ≤ ztg μ r ∧ ztg μ r < 28 ∧ ztg μ r = zel (ztg μ k) ∧ j.toNatClampNeg < znr μ r then some (.inl (pc + 1, L, st, c, sl, zsr μ r j.toNatClampNeg (some k))) else none
  | _ => none
def ro33 : zS → zO
  | (pc, L, .ref _ :: st, c, sl, μ) => if (st.map fun v => v.category).sum ≤ 8 then some (.inl (pc + 3, L, st, c, sl, μ)) else none
  | _ => none
def ro36 (b : Nat) : zS → zO
  | (_, _, [], c, sl, μ) => if b = 0 then some (.inr (0, none, c, sl, μ)) else none
  | _ => none
def ro30 (b : Nat) : zS → zO
  | (pc, L, .int n :: st, c, sl, μ) => if ¬ n < 0 ∧ n.toNatClampNeg ≤ 10000 ∧ b ≠ 22 then some (.inl (pc + 2, L, .ref μ.length :: st, c + 1, sl + n.toNatClampNeg, μ ++ [(b, List.replicate n.toNatClampNeg 0, [], [])])) else none
  | _ => none
def rx (call : Nat → List Value → zM → Option zR) (q : zRI) (S : zS) : zO :=
  match q with
  | (op, len, a, b, k, ext) => match op with
    | 1 => zo1 len k S
    | 4 => zo4 len a b S
    | 5 => zo5 len a b S
    | 6 => zo6 len a k S
    | 14 => zo14 S
    | 18 => zo18 a b S
    | 19 => zo19 a S
    | 23 => if k = 0 then none else zo23 a b k S
    | 24 => ro24 a b k S
    | 27 => if b = 3 then ro27 S else none
    | 28 => zo28 S
    | 29 => zo29 a S
    | 30 => ro30 b S
    | 31 => zo31 b S
    | 32 => zo32 call a k.toNat (ext.getD 5 99) S
    | 33 => ro33 S
    | 36 => ro36 b S
    | _ => none
def rrun (call : Nat → List Value → zM → Option zR) (cd : List zRI) : Nat → zS → Option zR
  | 0, _ => none
  | n + 1, S => match rx call (zfetch cd S.1) S with
    | some (.inl S') => rrun call cd n S'
    | some (.inr r) => some r
    | none => none
def rden (cds : Nat → Nat × List zRI) (F : Nat) : Nat → Nat → List Value → zM → Option zR
  | 0, _, _, _ => none
  | d + 1, m, args, μ => if (args.map fun v => v.category).sum ≤ (cds m).1 then rrun (rden cds F d) (cds m).2 F (0, lv_args 0 args, [], 0, 0, μ) else none
section ZRS
variable {P : zM} {L : Nat}
theorem rsh_cat (v : Value) : (rsh L v).category = v.category := by cases v <;> rfl
theorem rsh_kind (v : Value) : zkind (rsh L v) = zkind v := by cases v <;> rfl
theorem rsh_sum (st : List Value) : ((st.map (rsh L)).map fun v => v.category).sum = (st.map fun v => v.category).sum := by
  rw [List.map_map]
  congr 1
  exact List.map_congr_left (fun v _ => rsh_cat v)
theorem rsh_lk (l : zL) (a : Nat) : (rshL L l).lookup a = (l.lookup a).map (rsh L) := by
  induction l with
  | nil => rfl
  | cons q r ih =>
    obtain ⟨k, v⟩ := q
    show List.lookup a ((k, rsh L v) :: rshL L r) = Option.map (rsh L) (List.lookup a ((k, v) :: r))
    rw [List.lookup_cons, List.lookup_cons]
    cases h : a == k
    · exact ih
    · rfl
theorem rsh_st (b : Nat) (l : zL) (a : Nat) (v : Value) : zst b (rshL L l) a (rsh L v) = rshL L (zst b l a v) := by
  unfold zst
  split
  · show _ :: List.filter _ (List.map _ l) = _ :: List.map _ (List.filter _ l)
    rw [List.filter_map]
    congr 2
    exact List.filter_congr (fun q _ => by simp only [Function.comp, rsh_cat])
  · show _ :: List.filter _ (List.map _ l) = _ :: List.map _ (List.filter _ l)
    rw [List.filter_map]
    congr 2
    exact List.filter_congr (fun q _ => by simp only [Function.comp, rsh_cat])
theorem rsh_args : ∀ (i : Nat) (args : List Value), lv_args i (args.map (rsh L)) = rshL L (lv_args i args)
  | _, [] => rfl
  | i, v :: r => by
    simp only [List.map_cons, lv_args, rsh_cat]
    rw [rsh_args]
    rfl
theorem rsh_en (ν : zM) (r : Nat) : zen (P ++ rshM P.length ν) (P.length + r) = rshE P.length (zen ν r) := by
  unfold zen rshM
  rw [List.getD_eq_getElem?_getD, List.getElem?_append_right (by omega), Nat.add_sub_cancel_left, List.getElem?_map, List.getD_eq_getElem?_getD]
  cases ν[r]? <;> rfl
theorem rsh_tg (ν : zM) (r : Nat) : ztg (P ++ rshM P.length ν) (P.length + r) = ztg ν r := by unfold ztg; rw [rsh_en]; rfl
theorem rsh_ni (ν : zM) (r : Nat) : zni (P ++ rshM P.length ν) (P.length + r) = zni ν r := by unfold zni; rw [rsh_en]; rfl
theorem rsh_nl (ν : zM) (r : Nat) : znl (P ++ rshM P.length ν) (P.length + r) = znl ν r := by unfold znl; rw [rsh_en]; rfl
theorem rsh_nr (ν : zM) (r : Nat) : znr (P ++ rshM P.length ν) (P.length + r) = znr ν r := by unfold znr; rw [rsh_en]; exact List.length_map _
theorem rsh_gi (ν : zM) (r k : Nat) : zgi (P ++ rshM P.length ν) (P.length + r) k = zgi ν r k := by unfold zgi; rw [rsh_en]; rfl
theorem rsh_gr (ν : zM) (r k : Nat) : zgr (P ++ rshM P.length ν) (P.length + r) k = (zgr ν r k).map (P.length + ·) := by
  unfold zgr
  rw [rsh_en]
  show (List.map _ _).getD k none = _
  rw [List.getD_eq_getElem?_getD, List.getElem?_map, List.getD_eq_getElem?_getD]
  cases (zen ν r).2.2.1[k]? <;> rfl
theorem rsh_set (ν : zM) (r : Nat) (e : zE) : (P ++ rshM P.length ν).set (P.length + r) (rshE P.length e) = P ++ rshM P.length (ν.set r e) := by
  unfold rshM
  rw [List.set_append_right (h := by omega), Nat.add_sub_cancel_left, List.map_set]
theorem rsh_si (ν : zM) (r k : Nat) (x : Int32) : zsi (P ++ rshM P.length ν) (P.length + r) k x = P ++ rshM P.length (zsi ν r k x) := by
  unfold zsi
  rw [← rsh_set, rsh_tg, rsh_en]
  rfl
theorem rsh_sr (ν : zM) (r k y : Nat) : zsr (P ++ rshM P.length ν) (P.length + r) k (some (P.length + y)) = P ++ rshM P.length (zsr ν r k (some y)) := by
  unfold zsr
  rw [← rsh_set, rsh_tg, rsh_en]
  unfold rshE
  rw [List.map_set]
  rfl
theorem rsh_app (ν : zM) (e : zE) : P ++ rshM P.length ν ++ [rshE P.length e] = P ++ rshM P.length (ν ++ [e]) := by
  unfold rshM
  rw [List.map_append, List.append_assoc]
  rfl
theorem rsh_len (ν : zM) : (P ++ rshM P.length ν).length = P.length + ν.length := by
  unfold rshM
  rw [List.length_append, List.length_map]
theorem rsh_rf (o : Option Nat) : va_rf (o.map (L + ·)) = rsh L (va_rf o) := by cases o <;> rfl
end ZRS
