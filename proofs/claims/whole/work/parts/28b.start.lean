/-! the start's picture -/
theorem zZev {C n d : String} {v : Value} {A : Nat → Prop} {s : State} {args : Array Value} (h : va_Z C n d v A s s.heap) : (Term.static C n d).eval args s none [] s = some v := by
  obtain ⟨cf, kf, fi, f, a, cell, h1, h2, h3, h4, h5, h6, h7, -⟩ := h
  simp [Term.eval, State.fieldNamed?, h1, h2, h4, h5, h6, h7]
theorem zeq_r {s : State} {args : Array Value} {t u : Term} {v : Value} (h : (Jvm.Cond.eq t u).before args s = true) (hu : u.eval args s none [] s = some v) : t.eval args s none [] s = some v := by
  obtain ⟨y, h1, h2⟩ := Cond.eq_one (show (Jvm.Cond.eq t u).holds args s none s [] = true from h)
  rw [hu] at h2
  rw [h1, ← h2]
section ZSA
variable {s : State} {args : Array Value}
theorem zstr1 (hF : ∀ w ∈ zF, w.before args s = true) (i : Nat) (hi : i < 29) : ∃ q : Nat × Nat, (zst_ i).eval args s none [] s = some (.ref q.1) ∧ va_O "java/lang/String" q.1 (fun q => s.heap.size ≤ q) s s.heap ∧ va_OF "java/lang/String" "value" "[B" (.ref q.2) q.1 (fun q => s.heap.size ≤ q) s s.heap ∧ va_OF "java/lang/String" "coder" "B" (.int 0) q.1 (fun q => s.heap.size ≤ q) s s.heap ∧
    va_T .byte q.2 (zsb i).length (fun j => .int ((zsb i).getD j 0)) (fun q => s.heap.size ≤ q) s s.heap := by
  have hA : ∀ a : Nat, a < s.heap.size → ¬ (fun q => s.heap.size ≤ q) a := fun a h => Nat.not_le.mpr h
  obtain ⟨f1, f2, f3, f4, f5⟩ := zf_str i hi
  have hN : (zsb i).length < 2 ^ 31 := by
    have : ∀ i, i < 29 → (zsb i).length < 2 ^ 31 := by decide +kernel
    exact this i hi
  obtain ⟨a, c, cA, kA, q1, q2, q3, q4, q5, q6, -⟩ := Cond.exactly_spec (args := args) (first := s) (o := none) (s := s) (idx := []) (t := zst_ i) (cls := "java/lang/String") (hF _ f1)
  obtain ⟨t, ht, hT⟩ := va_Tof (f := fun j => .int ((zsb i).getD j 0)) (A := fun q => s.heap.size ≤ q) hN (hF _ f3) (va_eqt (hF _ f4)) (fun j hj => va_eqt (hF _ (f5 j hj))) hA
  exact ⟨(a, t), q1, ⟨cA, q3, q5, by rw [q6]; exact q2, hA a (Array.getElem?_eq_some_iff.mp q3).1⟩, vk_OFof q1 ht hA, vk_OFof q1 (va_eqt (hF _ f2)) hA, hT⟩
theorem zstrs (hF : ∀ w ∈ zF, w.before args s = true) : ∃ str : Nat → Nat × Nat, ∀ i, i < 29 → (zst_ i).eval args s none [] s = some (.ref (str i).1) ∧ va_O "java/lang/String" (str i).1 (fun q => s.heap.size ≤ q) s s.heap ∧ va_OF "java/lang/String" "value" "[B" (.ref (str i).2) (str i).1 (fun q => s.heap.size ≤ q) s s.heap ∧ va_OF "java/lang/String" "coder" "B" (.int 0) (str i).1 (fun q => s.heap.size ≤ q) s s.heap ∧
    va_T .byte (str i).2 (zsb i).length (fun j => .int ((zsb i).getD j 0)) (fun q => s.heap.size ≤ q) s s.heap := by
  have h0 : ∀ i : Nat, ∃ q : Nat × Nat, i < 29 → (zst_ i).eval args s none [] s = some (.ref q.1) ∧ va_O "java/lang/String" q.1 (fun q => s.heap.size ≤ q) s s.heap ∧ va_OF "java/lang/String" "value" "[B" (.ref q.2) q.1 (fun q => s.heap.size ≤ q) s s.heap ∧ va_OF "java/lang/String" "coder" "B" (.int 0) q.1 (fun q => s.heap.size ≤ q) s s.heap ∧
    va_T .byte q.2 (zsb i).length (fun j => .int ((zsb i).getD j 0)) (fun q => s.heap.size ≤ q) s s.heap := by
    intro i
    by_cases hi : i < 29
    · obtain ⟨q, hq⟩ := zstr1 hF i hi
      exact ⟨q, fun _ => hq⟩
    · exact ⟨(0, 0), fun h => absurd h hi⟩
  obtain ⟨f, hf⟩ := Classical.axiomOfChoice h0
  exact ⟨f, hf⟩
theorem zsn_k : ∀ i, i < 20 → zsn.getD i ("", "", "") = ("LoftPost$Kind", zks.getD i "", "LLoftPost$Kind;") := by decide +kernel
theorem zkinds (hts : ∀ w ∈ lw_tbl, w.before args s = true) (hF : ∀ w ∈ zF, w.before args s = true) : ∃ ad : Nat → Nat, (∀ i, i < 20 → va_Z "LoftPost$Kind" (zks.getD i "") "LLoftPost$Kind;" (.ref (ad i)) (fun q => s.heap.size ≤ q) s s.heap ∧ va_O "LoftPost$Kind" (ad i) (fun q => s.heap.size ≤ q) s s.heap) ∧ ∀ i j, i < 20 → j < 20 → ad i = ad j → i = j := by
  have hA : ∀ a : Nat, a < s.heap.size → ¬ (fun q => s.heap.size ≤ q) a := fun a h => Nat.not_le.mpr h
  have hl : ∀ i, i < zks.length → (Jvm.Cond.laysStatic "LoftPost$Kind" (zks.getD i "") "LLoftPost$Kind;").before args s = true := fun i hi => by
    have h := hts _ (zf_lay.1 i (Nat.lt_trans hi (by decide +kernel))).1
    rw [zsn_k i hi] at h
    exact h
  have hini : (Jvm.Cond.initialized "LoftPost$Kind").before args s = true := by
    have h := hts _ (zf_lay.1 0 (by decide)).2
    exact h
  obtain ⟨ad, had⟩ := va_Enof (E := "LoftPost$Kind") (d := "LLoftPost$Kind;") (nm := zks) (F := []) hl hini (fun i hi => hF _ (zf_kind i hi).1) (fun q hq => by cases hq) (fun i j hi hj hne => (zf_ne i hi j hj hne).imp (fun h => hF _ h) (fun h => hF _ h)) hA
  exact ⟨ad, fun i hi => ⟨(had.1 i hi).1, (had.1 i hi).2.1⟩, fun i j hi hj => had.2 i j hi hj⟩
theorem zrows (hts : ∀ w ∈ lw_tbl, w.before args s = true) : ∃ dA : Nat → ClassId, ∀ i ty, ([.int, .byte, .long, .object "LoftPost$Kind", .object "LoftPost$Loft", .object "LoftPost$Pigeon", .object "LoftPost$Hawk", .object "LoftPost$Letter"] : List FieldType)[i]? = some ty → ArrOfT s (dA i) ty ∧ va_RA s (dA i) ty := by
  obtain ⟨-, -, -, -, -, hao, hi, hb, hl⟩ := zf_lay
  have k1 : ∀ ty : FieldType, (∀ C, ty ≠ .object C) → (Jvm.Cond.arrayClass ty).before args s = true → ∃ cA, ArrOfT s cA ty ∧ va_RA s cA ty := fun ty hn h => by
    obtain ⟨cA, kA, comp, h1, h2, h3⟩ := Cond.arrayClass_spec (args := args) (first := s) (o := none) (s := s) (idx := []) h
    refine ⟨cA, fun n z => ⟨fun k h => (by cases h), kA, h2, comp, h3⟩, ?_⟩
    cases ty with
    | object C => exact absurd rfl (hn C)
    | _ => exact h1
  have k2 : ∀ C : String, (Jvm.Cond.arrayOver (.object C)).before args s = true → ∃ cA, ArrOfT s cA (.object C) ∧ va_RA s cA (.object C) := fun C h => by
    obtain ⟨comp, cA, kA, h1, -, h2, h3, h4⟩ := Cond.arrayOver_spec (args := args) (first := s) (o := none) (s := s) (idx := []) h
    exact ⟨cA, fun n z => ⟨fun k h => (by cases h), kA, h2, comp, h3⟩, kA, comp, h2, h3, h1, h4⟩
  have h0 : ∀ i : Nat, ∃ cA : ClassId, ∀ ty, ([.int, .byte, .long, .object "LoftPost$Kind", .object "LoftPost$Loft", .object "LoftPost$Pigeon", .object "LoftPost$Hawk", .object "LoftPost$Letter"] : List FieldType)[i]? = some ty → ArrOfT s cA ty ∧ va_RA s cA ty := by
    intro i
    match i with
    | 0 => obtain ⟨cA, h⟩ := k1 .int (fun C h => by cases h) (hts _ hi); exact ⟨cA, fun ty e => by cases e; exact h⟩
    | 1 => obtain ⟨cA, h⟩ := k1 .byte (fun C h => by cases h) (hts _ hb); exact ⟨cA, fun ty e => by cases e; exact h⟩
    | 2 => obtain ⟨cA, h⟩ := k1 .long (fun C h => by cases h) (hts _ hl); exact ⟨cA, fun ty e => by cases e; exact h⟩
    | 3 => obtain ⟨cA, h⟩ := k2 _ (hts _ (hao 23 (by decide) (by decide))); exact ⟨cA, fun ty e => by cases e; exact h⟩
    | 4 => obtain ⟨cA, h⟩ := k2 _ (hts _ (hao 24 (by decide) (by decide))); exact ⟨cA, fun ty e => by cases e; exact h⟩
    | 5 => obtain ⟨cA, h⟩ := k2 _ (hts _ (hao 25 (by decide) (by decide))); exact ⟨cA, fun ty e => by cases e; exact h⟩
    | 6 => obtain ⟨cA, h⟩ := k2 _ (hts _ (hao 26 (by decide) (by decide))); exact ⟨cA, fun ty e => by cases e; exact h⟩
    | 7 => obtain ⟨cA, h⟩ := k2 _ (hts _ (hao 27 (by decide) (by decide))); exact ⟨cA, fun ty e => by cases e; exact h⟩
    | n + 8 => exact ⟨0, fun ty e => by cases e⟩
  obtain ⟨f, hf⟩ := Classical.axiomOfChoice h0
  exact ⟨f, hf⟩
theorem zclasses (hts : ∀ w ∈ lw_tbl, w.before args s = true) : ∃ D : va_G, ∀ c q, zcl[c]? = some q → u_Kn s q.1 q.2.1 q.2.2 (D.1 c) (D.2 c) := by
  have h0 : ∀ c : Nat, ∃ q : ClassId × (Nat → Nat), ∀ r, zcl[c]? = some r → u_Kn s r.1 r.2.1 r.2.2 q.1 q.2 := by
    intro c
    by_cases hc : c < 11
    · obtain ⟨cC, iS, h⟩ := u_known (ws := zT) (args := args) (C := zCn c) (T := zTT c) (N := zNf c) (n := zNf c) (fun w hw => hts w (List.mem_filter.mp hw).1) (zin_u hc) (hts _ (zf_lay.2.2.2.2.1 c hc))
      refine ⟨(cC, iS), fun r hr => ?_⟩
      rw [zcl_at c hc] at hr
      cases hr
      exact h
    · refine ⟨(0, fun _ => 0), fun r hr => ?_⟩
      have : zcl.length = 11 := rfl
      rw [List.getElem?_eq_none (by omega)] at hr
      cases hr
  obtain ⟨f, hf⟩ := Classical.axiomOfChoice h0
  exact ⟨(fun c => (f c).1, fun c => (f c).2), hf⟩
end ZSA
