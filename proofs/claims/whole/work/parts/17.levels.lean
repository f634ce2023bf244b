/-! LEVELS: every method of the table, at every depth. -/
theorem z_ofWH {l : Launch} {y : MethodName} {ws ws' : List Jvm.Cond} {rm : Room} {Pc : Array Value → State → Prop} {Qc : Array Value → State → Outcome → State → Prop} {mc ms : Nat} {free : Addr → Prop} {cc : ByteArray} {maxL : Nat} {ret : Option FieldType} {hh : List (Nat × Nat × Nat × Nat)}
    (hy : plainName y.cls = true) (hw : ws = Jvm.Cond.codeWith y cc maxL ret hh :: ws')
    (body : ∀ p e s m args below meth c s₁, BodyLoose p l y (headSpec ws rm) cc maxL ret e s m args below meth c s₁ → c.maxLocals = maxL → Pc args s →
      W p l e (headSpec ws rm).room s m args below meth c s.heap [] 0 0 (MQ below Qc args s mc ms free) (entryFrame m args maxL)) : Met l y ws rm Pc Qc mc ms free := by
  refine MetFree.of_bodyS (code := cc) (maxLocals := maxL) (ret := ret) hy ?_ ?_
  · intro args s m h hn
    obtain ⟨m9, meth, c, hn9, h1, h2, h3, h4, -, h5, h6, -⟩ := Cond.codeWith_spec (atoms_spec (ws := ws) h _ (by rw [hw]; exact List.mem_cons_self))
    cases hn.symm.trans hn9
    exact ⟨meth, c, h1, h2, h3, h4, h5, h6⟩
  · intro p e s m args below meth c s₁ B hml hP _
    have hh0 : s₁.heap = s.heap := by rw [B.state]; rfl
    obtain ⟨t, a1, o, b1, b2, b3⟩ := body p e s m args below meth c s₁ B hml hP s₁ hh0 (Stand.of_body B)
    exact ⟨t, o, a1, b1, b2, ⟨b3.1, b3.2⟩⟩
theorem zargs_map {G : zG} {AL : List Nat} (hu : G.2.2.2.1 = .null ∨ ∃ a, G.2.2.2.1 = .ref a) : ∀ (as : List Value) (i : Nat), lv_args i (as.map (zva G AL)) = zml G AL (lv_args i as)
  | [], _ => rfl
  | v :: as, i => by
    show (i, zva G AL v) :: lv_args _ (as.map (zva G AL)) = (i, zva G AL v) :: zml G AL (lv_args _ as)
    rw [zargs_map hu as, zva_cat hu]
theorem zargs_mem : ∀ (as : List Value) (i : Nat), ∀ q ∈ lv_args i as, q.2 ∈ as
  | [], _, _, h => by cases h
  | v :: as, i, q, h => by
    rcases List.mem_cons.mp h with rfl | h
    · exact List.mem_cons_self
    · exact List.mem_cons_of_mem _ (zargs_mem as _ q h)
theorem zsl_len : ∀ (vs : List Value), (lg_sl vs).length = (vs.map fun v => v.category).sum
  | [] => rfl
  | v :: vs => by
    have h : lg_sl (v :: vs) = (if v.category = 2 then [.val v, .second] else [.val v]) ++ lg_sl vs := rfl
    rw [h, List.length_append, zsl_len vs, List.map_cons, List.sum_cons]
    split
    · rename_i h2; rw [h2]; rfl
    · rename_i h2
      rcases lv_cat v with h1 | h1
      · rw [h1]; rfl
      · exact absurd h1 h2
section ZLV
variable {p : Program} {l : Launch} {e : Env} {s s₁ : State} {m : MethodId} {args : Array Value} {below : List Frame} {meth : Method} {c : Code} {Q : State → Prop}
variable {G : zG} {AL : List Nat} {cds : Nat → Nat × List zRI} {d a : Nat} {as : List Value} {μ : zM} {rm : Room}
/-- a method's body, from its entry -/
theorem zbody (hS : zSND l cds d) (hSX : zSNX l cds d) (hcds : ∀ a, 232 ≤ a → (cds a).2 = []) (hok : ∀ a, a < 232 → (cds a).1 = (zm a).2.2.1 ∧ zmOK (zm a) (cds a).2) (hfl : l.stackTraces = false) (ha : a < 232) (hvw : ∀ w ∈ as, zvw μ.length w)
    (B : BodyLoose p l (zmy a) (headSpec (zmw a) rm) (zm a).2.1 (zm a).2.2.1 (zm a).2.2.2.1 e s m args below meth c s₁) (hml : c.maxLocals = (zm a).2.2.1) (hP : zPc G AL as μ args s) (hxt : c.exceptionTable.toList = tableOf (zm a).2.2.2.2)
    (hRf : d + 1 ≤ rm.frames) (hRl : 30 * (d + 1) ≤ rm.locals) {r : zR} (hz : zden cds (d + 1) a as μ = some r) (hRc : r.2.2.1 ≤ rm.cells) (hRs : r.2.2.2.1 ≤ rm.slots) (hQ : zTgt below args s G AL r Q) :
    W p l e (headSpec (zmw a) rm).room s m args below meth c s.heap [] 0 0 Q (entryFrame m args (zm a).2.2.1) := by
  obtain ⟨rfl, hE, hR⟩ := hP
  have hu := hE.2.2.2.2.2.2.2.2.2.2
  have hts := atoms_spec (ws := zmw a) B.pre
  have hT : ∀ w ∈ zT, w.before (as.map (zva G AL)).toArray s = true := fun w h => hts w (List.mem_cons_of_mem _ h)
  have hown : s.vm.findClass (zmy a).cls = some m.cls := findClass_of_methodNamed B.named
  have C : zCtx p s m (as.map (zva G AL)).toArray meth c (zm a).2.1 (zm a).2.2.1 (zmy a).cls := ⟨B.exec, B.bytes, hml, hown, hT, B.notSynchronized⟩
  rw [zden] at hz
  split at hz
  case isFalse => cases hz
  rename_i hcat
  rw [(hok a ha).1] at hcat
  obtain ⟨n, hn⟩ := zden1_iff.mp hz
  have hle : (lg_sl (as.map (zva G AL))).length ≤ (zm a).2.2.1 := by rw [zsl_len, zcats hu]; exact hcat
  have hl := lv_entry (as.map (zva G AL)) (n := (zm a).2.2.1) hle
  rw [lg_entry_eq]
  generalize (lg_sl (as.map (zva G AL)) ++ List.replicate ((zm a).2.2.1 - (lg_sl (as.map (zva G AL))).length) Slot.unset).toArray = ls at hl ⊢
  rw [zargs_map hu] at hl
  exact zwalk (R := (headSpec (zmw a) rm).room) (nL := (zm a).2.2.1) (own := (zmy a).cls) (host := zhost (zmy a).cls) (ini := decide ((zmy a).name = "<init>")) (hh := (zm a).2.2.2.2) hS hSX hcds C hE (fun h => (name_of_methodNamed B.named B.method).1.trans (of_decide_eq_true h)) B.returns hfl hxt hRf hRl (fun pc => (hok a ha).2 pc) hRc hRs hQ n _ AL s.heap [] ls (zex AL) ⟨hR, va_S.rf, hl, (fun v hv => by cases hv), fun q hq => hvw _ (zargs_mem as 0 q hq)⟩ hn
end ZLV
/-- no handlers: the table is empty -/
theorem zempty {p : Program} {l : Launch} {y : MethodName} {ws : List Jvm.Cond} {rm : Room} {cc : ByteArray} {maxL : Nat} {ret : Option FieldType} {e : Env} {s s₁ : State} {m : MethodId} {args : Array Value} {below : List Frame} {meth : Method} {c : Code}
    (B : BodyLoose p l y (headSpec ws rm) cc maxL ret e s m args below meth c s₁) (hw : Jvm.Cond.code y cc maxL ret ∈ ws) : c.exceptionTable.toList = [] := by
  obtain ⟨meth9, c9, h1, h2, -, -, -, -, h7, -⟩ := Cond.code_spec B.named (atoms_spec (ws := ws) B.pre _ hw)
  cases Option.some.inj (h1.symm.trans B.method)
  cases Option.some.inj (h2.symm.trans (Stand.of_body B).code)
  rw [Array.isEmpty_iff.mp h7]
theorem zlevels {l : Launch} {cds : Nat → Nat × List zRI} (hcds : ∀ a, 232 ≤ a → (cds a).2 = []) (hok : ∀ a, a < 232 → (cds a).1 = (zm a).2.2.1 ∧ zmOK (zm a) (cds a).2) (hfl : l.stackTraces = false) : ∀ d, zSND l cds d ∧ zSNX l cds d
  | 0 => ⟨fun a as μ r c1 s1 μ1 ha h => (by cases h), fun a as μ E r c1 s1 μ1 ha hh h => by cases h⟩
  | d + 1 => by
    obtain ⟨hS, hSX⟩ := zlevels hcds hok hfl d
    refine ⟨fun a as μ r c1 s1 μ1 ha h G AL hvw => ?_, fun a as μ E r c1 s1 μ1 ha hh h G AL hvw => ?_⟩
    · obtain ⟨hini, hmh, hpn, hmL⟩ := zmf_spec ha
      by_cases hh : (zm a).2.2.2.2 = []
      · refine Met.ofW (cc := (zm a).2.1) (maxL := (zm a).2.2.1) (ret := (zm a).2.2.2.1) hpn (zcode_of hh) ?_
        intro p e s m args below meth c s₁ B hml hP
        have hxt : c.exceptionTable.toList = tableOf (zm a).2.2.2.2 := by
          rw [hh, zempty B (by rw [zcode_of hh]; exact List.mem_cons_self)]
          rfl
        exact zbody (r := (0, r, c1, s1, μ1)) hS hSX hcds hok hfl ha hvw B hml hP hxt (Nat.le_refl _) (Nat.le_refl _) h (Nat.le_refl _) (Nat.le_refl _) ⟨fun _ => rfl, fun E hE => by cases hE⟩
      · refine z_ofWH (cc := (zm a).2.1) (maxL := (zm a).2.2.1) (ret := (zm a).2.2.2.1) hpn (zcodeW_of hh) ?_
        intro p e s m args below meth c s₁ B hml hP
        have hxt : c.exceptionTable.toList = tableOf (zm a).2.2.2.2 := vx_table (x := zmy a) B (atoms_spec (ws := zmw a) B.pre _ (by rw [zcodeW_of hh]; exact List.mem_cons_self))
        exact zbody (r := (0, r, c1, s1, μ1)) hS hSX hcds hok hfl ha hvw B hml hP hxt (Nat.le_refl _) (Nat.le_refl _) h (Nat.le_refl _) (Nat.le_refl _) ⟨fun _ => rfl, fun E hE => by cases hE⟩
    · obtain ⟨hini, hmh, hpn, hmL⟩ := zmf_spec ha
      refine vx_ofW (cc := (zm a).2.1) (maxL := (zm a).2.2.1) (ret := (zm a).2.2.2.1) hpn (zcode_of hh) ?_
      intro p e s m args below meth c s₁ B hml hxt0 hP
      have hxt : c.exceptionTable.toList = tableOf (zm a).2.2.2.2 := by
        rw [hh, zempty B (by rw [zcode_of hh]; exact List.mem_cons_self)]
        rfl
      exact zbody (r := (E + 1, r, c1, s1, μ1)) hS hSX hcds hok hfl ha hvw B hml hP hxt (Nat.le_refl _) (Nat.le_refl _) h (Nat.le_refl _) (Nat.le_refl _) ⟨fun h0 => (by cases h0), fun E' hE' => by cases hE'; rfl⟩
