/-! ONE INSTRUCTION OF THE ABSTRACT MACHINE IS ONE OF THE JVM'S (stack, locals, numbers, jumps). -/
def zs1 (G : zG) (U : State) (k : Nat) (e : zE) : Prop :=
  if e.1 = 33 then va_O "LoftPost$Kind" (G.2.2.1 k) (zA G) U U.heap ∧ va_OF "LoftPost$Kind" "word" "Ljava/lang/String;" (va_rf ((e.2.2.1.getD 0 none).map G.2.2.1)) (G.2.2.1 k) (zA G) U U.heap
  else if e.1 = 34 then va_O "java/lang/String" (G.2.2.1 k) (zA G) U U.heap ∧ va_OF "java/lang/String" "value" "[B" (va_rf ((e.2.2.1.getD 0 none).map G.2.2.1)) (G.2.2.1 k) (zA G) U U.heap ∧ va_OF "java/lang/String" "coder" "B" (.int (e.2.1.getD 0 0)) (G.2.2.1 k) (zA G) U U.heap
  else if e.1 = 30 then va_T .int (G.2.2.1 k) e.2.1.length (fun j => .int (e.2.1.getD j 0)) (zA G) U U.heap
  else if e.1 = 31 then va_T .byte (G.2.2.1 k) e.2.1.length (fun j => .int (e.2.1.getD j 0)) (zA G) U U.heap
  else if e.1 = 32 then va_T (.object "LoftPost$Kind") (G.2.2.1 k) e.2.2.1.length (fun j => va_rf ((e.2.2.1.getD j none).map G.2.2.1)) (zA G) U U.heap
  else if e.1 = 35 then va_T (.object "java/lang/String") (G.2.2.1 k) e.2.2.1.length (fun j => va_rf ((e.2.2.1.getD j none).map G.2.2.1)) (zA G) U U.heap
  else True
/-- what is told of the start, at a state -/
def zEnv (G : zG) (U : State) : Prop :=
  va_K G.1 zcl (ztys G) U ∧ G.2.2.2.2.1 ≤ U.heap.size ∧ (∀ w ∈ lw_tbl, zisN w = true → va_Nw w U) ∧ (∀ t, 23 ≤ t → t < 28 → va_AO (zot t) U) ∧
  (∀ i, i < 24 → va_Z (zsn.getD i ("", "", "")).1 (zsn.getD i ("", "", "")).2.1 (zsn.getD i ("", "", "")).2.2 (zva G [] (zsv i)) (zA G) U U.heap) ∧
  (∀ k e, (zm0 G.2.2.2.2.2)[k]? = some e → zs1 G U k e) ∧ (∀ i j, i < 20 → j < 20 → G.2.2.1 i = G.2.2.1 j → i = j) ∧
  vx_Zq Bundle.tN "UNASSIGNED_STACK" Bundle.steD (zA G) U U.heap ∧ vx_Zq Bundle.tN "SUPPRESSED_SENTINEL" Bundle.listD (zA G) U U.heap ∧ ((∀ q ∈ zmsg, ∃ sa, vk_R "LoftPost" q.1 q.2 sa U) ∧ va_Nc (zxn 1) (zxn 0) U ∧ va_Nc (zxn 2) (zxn 0) U ∧ va_Nc (zxn 0) (zxn 2) U) ∧ (G.2.2.2.1 = .null ∨ ∃ a, G.2.2.2.1 = .ref a)
def zCtx (p : Program) (s : State) (m : MethodId) (args : Array Value) (meth : Method) (c : Code) (cc : ByteArray) (nL : Nat) (own : String) : Prop :=
  p.tables.exec = Jvm.exec ∧ c.code = cc ∧ c.maxLocals = nL ∧ s.vm.findClass own = some m.cls ∧ (∀ w ∈ zT, w.before args s = true) ∧ meth.locks = false
def zml (G : zG) (AL : List Nat) (L : zL) : List (Nat × Value) := L.map (fun q => (q.1, zva G AL q.2))
def zSt (G : zG) (nL : Nat) (s : State) (AL : List Nat) (S : zS) (H : Heap) (locs : List Loc) (ls : Array Slot) : Prop :=
  zRel G AL S.2.2.2.2.2 H ∧ va_S (zA G) s.heap H locs ∧ lv_has ls nL (zml G AL S.2.1) ∧ (∀ v ∈ S.2.2.1, zvw S.2.2.2.2.2.length v) ∧ (∀ q ∈ S.2.1, zvw S.2.2.2.2.2.length q.2)
theorem zlook {L : zL} {a : Nat} {v : Value} (h : L.lookup a = some v) : (a, v) ∈ L := by
  induction L with
  | nil => cases h
  | cons x L ih =>
    rw [List.lookup_cons] at h
    by_cases hx : (a == x.1) = true
    · rw [hx] at h
      cases h
      have := eq_of_beq hx
      subst this
      exact List.mem_cons_self
    · rw [Bool.not_eq_true] at hx
      rw [hx] at h
      exact List.mem_cons_of_mem _ (ih h)
theorem zlook_ls {G : zG} {AL : List Nat} {ls : Array Slot} {nL : Nat} {L : zL} {a : Nat} {v : Value} (hl : lv_has ls nL (zml G AL L)) (h : L.lookup a = some v) : ls[a]? = some (.val (zva G AL v)) :=
  hl.2.2 (a, zva G AL v) (List.mem_map.mpr ⟨(a, v), zlook h, rfl⟩)
theorem zva_cat {G : zG} {AL : List Nat} (hu : G.2.2.2.1 = .null ∨ ∃ a, G.2.2.2.1 = .ref a) (v : Value) : (zva G AL v).category = v.category := by
  cases v with
  | ref k =>
    show (if k = zUK then G.2.2.2.1 else Value.ref (zaq G AL k)).category = 1
    split
    · rcases hu with h | ⟨a, h⟩ <;> rw [h] <;> rfl
    · rfl
  | _ => rfl
theorem zcats {G : zG} {AL : List Nat} (hu : G.2.2.2.1 = .null ∨ ∃ a, G.2.2.2.1 = .ref a) (st : List Value) : ((st.map (zva G AL)).map fun v => v.category) = st.map fun v => v.category := by
  rw [List.map_map]
  exact List.map_congr_left (fun v _ => zva_cat hu v)
theorem zml_filter {G : zG} {AL : List Nat} (hu : G.2.2.2.1 = .null ∨ ∃ a, G.2.2.2.1 = .ref a) (L : zL) (f : Nat → Nat → Bool) : (zml G AL L).filter (fun q => f q.1 q.2.category) = zml G AL (L.filter (fun q => f q.1 q.2.category)) := by
  unfold zml
  rw [List.filter_map]
  congr 1
  apply List.filter_congr
  intro q _
  show f q.1 (zva G AL q.2).category = f q.1 q.2.category
  rw [zva_cat hu]
theorem zst_mem {b a : Nat} {L : zL} {v : Value} {q : Nat × Value} (h : q ∈ zst b L a v) : q = (a, v) ∨ q ∈ L := by
  unfold zst at h
  split at h
  · rcases List.mem_cons.mp h with h | h
    · exact Or.inl h
    · exact Or.inr (List.mem_filter.mp h).1
  · rcases List.mem_cons.mp h with h | h
    · exact Or.inl h
    · exact Or.inr (List.mem_filter.mp h).1
theorem zFin {a : Nat} (h : a < 4) : ((Fin.ofNat 4 a : Fin 4) : Nat) = a := Nat.mod_eq_of_lt h
theorem zkind_1 {v : Value} (h : zkind v = 1) : v = .null ∨ ∃ k, v = .ref k := by
  cases v <;> first | exact Or.inl rfl | exact Or.inr ⟨_, rfl⟩ | (simp [zkind] at h)
theorem zkind_c {v : Value} (h : zkind v < 2) : v.category = 1 := by
  cases v <;> first | rfl | (simp [zkind] at h)
theorem zva_1 {G : zG} {AL : List Nat} (hu : G.2.2.2.1 = .null ∨ ∃ a, G.2.2.2.1 = .ref a) {v : Value} (h : zkind v = 1) : zva G AL v = .null ∨ ∃ a, zva G AL v = .ref a := by
  rcases zkind_1 h with rfl | ⟨k, rfl⟩
  · exact Or.inl rfl
  · show (if k = zUK then G.2.2.2.1 else Value.ref (zaq G AL k)) = .null ∨ ∃ a, (if k = zUK then G.2.2.2.1 else Value.ref (zaq G AL k)) = .ref a
    split
    · exact hu
    · exact Or.inr ⟨_, rfl⟩
theorem zvw_ni {n : Nat} {v : Value} (h : ∀ k, v ≠ .ref k) : zvw n v := by
  cases v with
  | ref k => exact absurd rfl (h k)
  | _ => trivial
/-- later addresses come behind the earlier ones -/
def zExt (AL AL' : List Nat) : Prop := ∃ B, AL' = AL ++ B
theorem zex (AL : List Nat) : zExt AL AL := ⟨[], (List.append_nil AL).symm⟩
theorem zex1 (AL : List Nat) (q : Nat) : zExt AL (AL ++ [q]) := ⟨[q], rfl⟩
theorem zExt.trans {A B C : List Nat} (h : zExt A B) (h2 : zExt B C) : zExt A C := by
  obtain ⟨x, rfl⟩ := h
  obtain ⟨y, rfl⟩ := h2
  exact ⟨x ++ y, List.append_assoc _ _ _⟩
section ZST
variable {p : Program} {l : Launch} {e : Env} {R : Room} {s : State} {m : MethodId} {args : Array Value} {below : List Frame} {meth : Method} {c : Code} {Q : State → Prop} {H : Heap} {locs : List Loc} {ls : Array Slot}
variable {G : zG} {AL : List Nat} {cc : ByteArray} {nL : Nat} {own : String} {pc : Nat} {L : zL} {st : List Value} {c0 sl : Nat} {μ : zM} {S' : zS} {len a b : Nat} {k : Int} {ext : List Nat}
abbrev zWW (p : Program) (l : Launch) (e : Env) (R : Room) (s : State) (m : MethodId) (args : Array Value) (below : List Frame) (meth : Method) (c : Code) (Q : State → Prop) (G : zG) (AL : List Nat) (S : zS) (H : Heap) (locs : List Loc) (ls : Array Slot) : Prop :=
  W p l e R s m args below meth c H locs S.2.2.2.1 S.2.2.2.2.1 Q (F0 m S.1 ls (S.2.2.1.map (zva G AL)))
abbrev zKK (p : Program) (l : Launch) (e : Env) (R : Room) (s : State) (m : MethodId) (args : Array Value) (below : List Frame) (meth : Method) (c : Code) (Q : State → Prop) (G : zG) (nL : Nat) (A0 : List Nat) (S : zS) : Prop :=
  ∀ (AL : List Nat) (H : Heap) (locs : List Loc) (ls : Array Slot), zExt A0 AL → zSt G nL s AL S H locs ls → zWW p l e R s m args below meth c Q G AL S H locs ls
theorem z1 (C : zCtx p s m args meth c cc nL own) (X : zSt G nL s AL (pc, L, st, c0, sl, μ) H locs ls)
    (hok : ((len == 1 && zdec cc pc (.iconst k) 1) || ((len == 2 && (zdec cc pc (.bipush k) 2 && decide ((Int8.ofInt k).toInt32 = Int32.ofInt k))) || (len == 3 && (zdec cc pc (.sipush k) 3 && decide ((Int16.ofInt k).toInt32 = Int32.ofInt k))))) = true)
    (kk : zKK p l e R s m args below meth c Q G nL AL (pc + len, L, .int (Int32.ofInt k) :: st, c0, sl, μ)) : zWW p l e R s m args below meth c Q G AL (pc, L, st, c0, sl, μ) H locs ls := by
  obtain ⟨hx, hb, -⟩ := C
  have K := kk AL H locs ls (zex AL) ⟨X.1, X.2.1, X.2.2.1, fun v hv => by
    rcases List.mem_cons.mp hv with rfl | h
    · trivial
    · exact X.2.2.2.1 v h, X.2.2.2.2⟩
  simp only [Bool.or_eq_true, Bool.and_eq_true, beq_iff_eq, decide_eq_true_eq] at hok
  rcases hok with ⟨rfl, h⟩ | ⟨rfl, h, h2⟩ | ⟨rfl, h, h2⟩
  · exact lv_iconst hx hb (zdec_ok h) rfl K
  · exact lv_bipush hx hb (zdec_ok h) h2 K
  · exact lv_sipush hx hb (zdec_ok h) h2 K
theorem z2 (C : zCtx p s m args meth c cc nL own) (X : zSt G nL s AL (pc, L, st, c0, sl, μ) H locs ls)
    (hok : (zin (.constant own (ext.getD 0 0) (Int32.ofInt k)) (ext.getD 1 0) && ((len == 2 && zdec cc pc (.ldc (ext.getD 0 0)) 2) || (len == 3 && zdec cc pc (.ldc_w (ext.getD 0 0)) 3))) = true)
    (kk : zKK p l e R s m args below meth c Q G nL AL (pc + len, L, .int (Int32.ofInt k) :: st, c0, sl, μ)) : zWW p l e R s m args below meth c Q G AL (pc, L, st, c0, sl, μ) H locs ls := by
  obtain ⟨hx, hb, -, ho, hT, -⟩ := C
  have K := kk AL H locs ls (zex AL) ⟨X.1, X.2.1, X.2.2.1, fun v hv => by
    rcases List.mem_cons.mp hv with rfl | h
    · trivial
    · exact X.2.2.2.1 v h, X.2.2.2.2⟩
  simp only [Bool.or_eq_true, Bool.and_eq_true, beq_iff_eq] at hok
  obtain ⟨hw, h⟩ := hok
  have hc := hT _ (zin_T hw rfl)
  rcases h with ⟨rfl, h⟩ | ⟨rfl, h⟩
  · exact lv_ldc hx hb ho hc (zdec_ok h) K
  · exact lv_ldcw hx hb ho hc (zdec_ok h) K
theorem z3 (C : zCtx p s m args meth c cc nL own) (X : zSt G nL s AL (pc, L, st, c0, sl, μ) H locs ls)
    (hok : (zin (.constantLong own (ext.getD 0 0) (Int64.ofInt k)) (ext.getD 1 0) && (len == 3 && zdec cc pc (.ldc2_w (ext.getD 0 0)) 3)) = true)
    (kk : zKK p l e R s m args below meth c Q G nL AL (pc + len, L, .long (Int64.ofInt k) :: st, c0, sl, μ)) : zWW p l e R s m args below meth c Q G AL (pc, L, st, c0, sl, μ) H locs ls := by
  obtain ⟨hx, hb, -, ho, hT, -⟩ := C
  have K := kk AL H locs ls (zex AL) ⟨X.1, X.2.1, X.2.2.1, fun v hv => by
    rcases List.mem_cons.mp hv with rfl | h
    · trivial
    · exact X.2.2.2.1 v h, X.2.2.2.2⟩
  simp only [Bool.and_eq_true, beq_iff_eq] at hok
  obtain ⟨hw, rfl, h⟩ := hok
  exact lv_ldc2 hx hb ho (hT _ (zin_T hw rfl)) (zdec_ok h) K
theorem z4 (C : zCtx p s m args meth c cc nL own) (E : zEnv G s) (X : zSt G nL s AL (pc, L, st, c0, sl, μ) H locs ls)
    (hok : (match b with
      | 0 => zld cc pc len a .iload_n .iload
      | 1 => zld cc pc len a .aload_n .aload
      | 2 => zld cc pc len a .lload_n .lload
      | 3 => zld cc pc len a .dload_n .dload
      | _ => false) = true)
    (hz : zo4 len a b (pc, L, st, c0, sl, μ) = some (.inl S'))
    (kk : zKK p l e R s m args below meth c Q G nL AL S') : zWW p l e R s m args below meth c Q G AL (pc, L, st, c0, sl, μ) H locs ls := by
  obtain ⟨hx, hb, -⟩ := C
  unfold zo4 at hz
  dsimp only at hz
  cases hv : L.lookup a with
  | none => rw [hv] at hz; cases hz
  | some v =>
    rw [hv] at hz
    dsimp only at hz
    by_cases hk : zkind v = b
    · rw [if_pos hk] at hz
      cases hz
      have hl := zlook_ls X.2.2.1 hv
      have K := kk AL H locs ls (zex AL) ⟨X.1, X.2.1, X.2.2.1, fun w hw => by
        rcases List.mem_cons.mp hw with rfl | h
        · exact X.2.2.2.2 _ (zlook hv)
        · exact X.2.2.2.1 w h, X.2.2.2.2⟩
      subst hk
      have hu := E.2.2.2.2.2.2.2.2.2.2
      cases v with
      | int x =>
        simp only [zkind, zld, Bool.or_eq_true, Bool.and_eq_true, beq_iff_eq, decide_eq_true_eq] at hok
        rcases hok with ⟨rfl, h4, h⟩ | ⟨rfl, h⟩
        · exact lv_iload_n hx hb (zdec_ok h) (zFin h4) hl K
        · exact lv_iload hx hb (zdec_ok h) hl K
      | long x =>
        simp only [zkind, zld, Bool.or_eq_true, Bool.and_eq_true, beq_iff_eq, decide_eq_true_eq] at hok
        rcases hok with ⟨rfl, h4, h⟩ | ⟨rfl, h⟩
        · exact lv_lload_n hx hb (zdec_ok h) (zFin h4) hl K
        · exact lv_lload hx hb (zdec_ok h) hl K
      | double x =>
        simp only [zkind, zld, Bool.or_eq_true, Bool.and_eq_true, beq_iff_eq, decide_eq_true_eq] at hok
        rcases hok with ⟨rfl, h4, h⟩ | ⟨rfl, h⟩
        · exact lv_dload_n hx hb (zdec_ok h) (zFin h4) hl K
        · exact lv_dload hx hb (zdec_ok h) hl K
      | null =>
        simp only [zkind, zld, Bool.or_eq_true, Bool.and_eq_true, beq_iff_eq, decide_eq_true_eq] at hok
        rcases hok with ⟨rfl, h4, h⟩ | ⟨rfl, h⟩
        · exact lv_aload_nN hx hb (zdec_ok h) (zFin h4) hl K
        · exact lv_aloadN hx hb (zdec_ok h) hl K
      | ref r =>
        simp only [zkind, zld, Bool.or_eq_true, Bool.and_eq_true, beq_iff_eq, decide_eq_true_eq] at hok
        have K : W p l e R s m args below meth c H locs c0 sl Q (F0 m (pc + len) ls (zva G AL (.ref r) :: st.map (zva G AL))) := K
        rcases zva_1 (AL := AL) hu (v := .ref r) rfl with hr | ⟨q, hr⟩
        · rw [hr] at hl K
          rcases hok with ⟨rfl, h4, h⟩ | ⟨rfl, h⟩
          · exact lv_aload_nN hx hb (zdec_ok h) (zFin h4) hl K
          · exact lv_aloadN hx hb (zdec_ok h) hl K
        · rw [hr] at hl K
          rcases hok with ⟨rfl, h4, h⟩ | ⟨rfl, h⟩
          · exact lv_aload_n hx hb (zdec_ok h) (zFin h4) hl K
          · exact lv_aload hx hb (zdec_ok h) hl K
      | float x => simp [zkind] at hok
      | retAddr x => simp [zkind] at hok
    · rw [if_neg hk] at hz; cases hz
theorem z5 (C : zCtx p s m args meth c cc nL own) (E : zEnv G s) (X : zSt G nL s AL (pc, L, st, c0, sl, μ) H locs ls)
    (hok : (match b with
      | 0 => decide (a < nL) && zld cc pc len a .istore_n .istore
      | 1 => decide (a < nL) && zld cc pc len a .astore_n .astore
      | 2 => decide (a + 1 < nL) && zld cc pc len a .lstore_n .lstore
      | 3 => decide (a + 1 < nL) && zld cc pc len a .dstore_n .dstore
      | _ => false) = true)
    (hz : zo5 len a b (pc, L, st, c0, sl, μ) = some (.inl S'))
    (kk : zKK p l e R s m args below meth c Q G nL AL S') : zWW p l e R s m args below meth c Q G AL (pc, L, st, c0, sl, μ) H locs ls := by
  obtain ⟨hx, hb, -⟩ := C
  cases st with
  | nil => cases hz
  | cons v st =>
    simp only [zo5] at hz
    by_cases hk : zkind v = b
    · rw [if_pos hk] at hz
      cases hz
      have hu := E.2.2.2.2.2.2.2.2.2.2
      have K : ∀ ls' : Array Slot, lv_has ls' nL (zml G AL (zst b L a v)) → W p l e R s m args below meth c H locs c0 sl Q (F0 m (pc + len) ls' (st.map (zva G AL))) := fun ls' hl' => kk AL H locs ls' (zex AL) ⟨X.1, X.2.1, hl', fun w hw => X.2.2.2.1 w (List.mem_cons_of_mem _ hw), fun q hq => by
        rcases zst_mem hq with rfl | h
        · exact X.2.2.2.1 v List.mem_cons_self
        · exact X.2.2.2.2 q h⟩
      have f1 : b < 2 → (a, zva G AL v) :: (zml G AL L).filter (fun q => !(q.1 == a) && !(q.1 + 1 == a && q.2.category == 2)) = zml G AL (zst b L a v) := fun h => by
        unfold zst
        rw [if_pos h, zml_filter hu L (fun i z => !(i == a) && !(i + 1 == a && z == 2))]
        rfl
      have f2 : ¬ b < 2 → (a, zva G AL v) :: (zml G AL L).filter (fun q => !(q.1 == a) && (!(q.1 == a + 1) && !(q.1 + 1 == a && q.2.category == 2))) = zml G AL (zst b L a v) := fun h => by
        unfold zst
        rw [if_neg h, zml_filter hu L (fun i z => !(i == a) && (!(i == a + 1) && !(i + 1 == a && z == 2)))]
        rfl
      subst hk
      have hl := X.2.2.1
      cases v with
      | int x =>
        simp only [zkind, zld, Bool.or_eq_true, Bool.and_eq_true, beq_iff_eq, decide_eq_true_eq] at hok
        obtain ⟨hn, hok⟩ := hok
        rcases hok with ⟨rfl, h4, h⟩ | ⟨rfl, h⟩
        · exact lv_istore_n hx hb (zdec_ok h) (zFin h4) hl hn (f1 (Nat.le_of_ble_eq_true rfl)) K
        · exact lv_istore hx hb (zdec_ok h) hl hn (f1 (Nat.le_of_ble_eq_true rfl)) K
      | long x =>
        simp only [zkind, zld, Bool.or_eq_true, Bool.and_eq_true, beq_iff_eq, decide_eq_true_eq] at hok
        obtain ⟨hn, hok⟩ := hok
        rcases hok with ⟨rfl, h4, h⟩ | ⟨rfl, h⟩
        · exact lv_lstore_n hx hb (zdec_ok h) (zFin h4) hl hn (f2 (Nat.not_lt.mpr (Nat.le_of_ble_eq_true rfl))) K
        · exact lv_lstore hx hb (zdec_ok h) hl hn (f2 (Nat.not_lt.mpr (Nat.le_of_ble_eq_true rfl))) K
      | double x =>
        simp only [zkind, zld, Bool.or_eq_true, Bool.and_eq_true, beq_iff_eq, decide_eq_true_eq] at hok
        obtain ⟨hn, hok⟩ := hok
        rcases hok with ⟨rfl, h4, h⟩ | ⟨rfl, h⟩
        · exact lv_dstore_n hx hb (zdec_ok h) (zFin h4) hl hn (f2 (Nat.not_lt.mpr (Nat.le_of_ble_eq_true rfl))) K
        · exact lv_dstore hx hb (zdec_ok h) hl hn (f2 (Nat.not_lt.mpr (Nat.le_of_ble_eq_true rfl))) K
      | null =>
        simp only [zkind, zld, Bool.or_eq_true, Bool.and_eq_true, beq_iff_eq, decide_eq_true_eq] at hok
        obtain ⟨hn, hok⟩ := hok
        rcases hok with ⟨rfl, h4, h⟩ | ⟨rfl, h⟩
        · exact lv_astore_nN hx hb (zdec_ok h) (zFin h4) hl hn (f1 (Nat.le_of_ble_eq_true rfl)) K
        · exact lv_astoreN hx hb (zdec_ok h) hl hn (f1 (Nat.le_of_ble_eq_true rfl)) K
      | ref r =>
        simp only [zkind, zld, Bool.or_eq_true, Bool.and_eq_true, beq_iff_eq, decide_eq_true_eq] at hok
        obtain ⟨hn, hok⟩ := hok
        have f1 := f1 (Nat.le_of_ble_eq_true rfl)
        show W p l e R s m args below meth c H locs c0 sl Q (F0 m pc ls (zva G AL (.ref r) :: st.map (zva G AL)))
        rcases zva_1 (AL := AL) hu (v := .ref r) rfl with hr | ⟨q, hr⟩
        · rw [hr] at f1 ⊢
          rcases hok with ⟨rfl, h4, h⟩ | ⟨rfl, h⟩
          · exact lv_astore_nN hx hb (zdec_ok h) (zFin h4) hl hn f1 K
          · exact lv_astoreN hx hb (zdec_ok h) hl hn f1 K
        · rw [hr] at f1 ⊢
          rcases hok with ⟨rfl, h4, h⟩ | ⟨rfl, h⟩
          · exact lv_astore_n hx hb (zdec_ok h) (zFin h4) hl hn f1 K
          · exact lv_astore hx hb (zdec_ok h) hl hn f1 K
      | float x => simp [zkind] at hok
      | retAddr x => simp [zkind] at hok
    · rw [if_neg hk] at hz; cases hz
theorem z6 (C : zCtx p s m args meth c cc nL own) (E : zEnv G s) (X : zSt G nL s AL (pc, L, st, c0, sl, μ) H locs ls)
    (hok : (len == 3 && (decide (a < nL) && zdec cc pc (.iinc a k) 3)) = true)
    (hz : zo6 len a k (pc, L, st, c0, sl, μ) = some (.inl S'))
    (kk : zKK p l e R s m args below meth c Q G nL AL S') : zWW p l e R s m args below meth c Q G AL (pc, L, st, c0, sl, μ) H locs ls := by
  obtain ⟨hx, hb, -⟩ := C
  simp only [Bool.and_eq_true, beq_iff_eq, decide_eq_true_eq] at hok
  obtain ⟨rfl, hn, h⟩ := hok
  unfold zo6 at hz
  dsimp only at hz
  split at hz
  · rename_i x hv
    cases hz
    have hu := E.2.2.2.2.2.2.2.2.2.2
    obtain ⟨i, hi⟩ := List.getElem?_of_mem (List.mem_map.mpr ⟨(a, Value.int x), zlook hv, rfl⟩ : (a, zva G AL (.int x)) ∈ zml G AL L)
    refine lv_iinc (v := x + Int32.ofInt k) hx hb (zdec_ok h) X.2.2.1 (k := i) hi rfl hn (lv' := zml G AL (zst 0 L a (.int (x + Int32.ofInt k)))) ?_ (fun ls' hl' => ?_)
    · unfold zst
      rw [if_pos (by decide), zml_filter hu L (fun i z => !(i == a) && !(i + 1 == a && z == 2))]
      rfl
    · exact kk AL H locs ls' (zex AL) ⟨X.1, X.2.1, hl', X.2.2.2.1, fun q hq => by
        rcases zst_mem (show q ∈ zst 0 L a (.int (x + Int32.ofInt k)) from hq) with rfl | h
        · trivial
        · exact X.2.2.2.2 q h⟩
  · cases hz
theorem zst_pop {v : Value} (X : zSt G nL s AL (pc, L, v :: st, c0, sl, μ) H locs ls) : ∀ w ∈ st, zvw μ.length w := fun w hw => X.2.2.2.1 w (List.mem_cons_of_mem _ hw)
theorem zst_put {st' : List Value} {pc' c1 s1 : Nat} (X : zSt G nL s AL (pc, L, st, c0, sl, μ) H locs ls) (h : ∀ w ∈ st', zvw μ.length w) : zSt G nL s AL (pc', L, st', c1, s1, μ) H locs ls := ⟨X.1, X.2.1, X.2.2.1, h, X.2.2.2.2⟩
theorem zpush {n : Nat} {v : Value} (hv : zvw n v) (h : ∀ w ∈ st, zvw n w) : ∀ w ∈ v :: st, zvw n w := fun w hw => (List.mem_cons.mp hw).elim (fun q => q ▸ hv) (h w)
theorem z7 (C : zCtx p s m args meth c cc nL own) (X : zSt G nL s AL (pc, L, st, c0, sl, μ) H locs ls) (hok : zdec cc pc (zbi b) 1 = true)
    (hz : zo7 b (pc, L, st, c0, sl, μ) = some (.inl S')) (kk : zKK p l e R s m args below meth c Q G nL AL S') : zWW p l e R s m args below meth c Q G AL (pc, L, st, c0, sl, μ) H locs ls := by
  obtain ⟨hx, hb, -⟩ := C
  unfold zo7 at hz
  split at hz
  · rename_i pc1 L1 y x st1 c1 sl1 μ1 heq
    cases heq
    cases hz
    have K := kk AL H locs ls (zex AL) (zst_put X (zpush (v := .int (zbin b x y)) trivial (fun w hw => X.2.2.2.1 w (List.mem_cons_of_mem _ (List.mem_cons_of_mem _ hw)))))
    have h := zdec_ok hok
    match b, h, K with
    | 0, h, K => exact lv_iadd hx hb h K
    | 1, h, K => exact lv_isub hx hb h K
    | 2, h, K => exact lv_imul hx hb h K
    | 3, h, K => exact lv_iand hx hb h K
    | 4, h, K => exact lv_ior hx hb h K
    | 5, h, K => exact lv_ixor hx hb h K
    | 6, h, K => exact lv_ishl hx hb h K
    | 7, h, K => exact lv_ishr hx hb h K
    | (n + 8), h, K => exact lv_iushr hx hb h rfl K
  · cases hz
end ZST
