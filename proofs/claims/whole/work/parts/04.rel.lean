/-! WHAT A RESOLVED INSTRUCTION CLAIMS OF THE BYTES AND TABLES (zok), and what ties the abstract machine's state to the JVM's (zRel, zEnv). -/
def zisN : Jvm.Cond → Bool
  | .fieldLinkNest .. => true
  | .methodLinkNest .. => true
  | w => w.onTables && w.keepsFace
/-- the tables' words that any method may be told -/
def zT : List Jvm.Cond := lw_tbl.filter goodWord
theorem zin_T {w : Jvm.Cond} {i : Nat} (h : zin w i = true) (hg : goodWord w = true) : w ∈ zT := List.mem_filter.mpr ⟨List.mem_of_getElem? (of_decide_eq_true h), hg⟩
theorem zin_L {w : Jvm.Cond} {i : Nat} (h : zin w i = true) : w ∈ lw_tbl := List.mem_of_getElem? (of_decide_eq_true h)
theorem zT_good : ∀ w ∈ zT, goodWord w = true := fun _ h => (List.mem_filter.mp h).2
/-- the number by which the post's methods name an exception's constructor -/
def zxc (a : Nat) : Nat := match a with
  | 0 => 95
  | 1 => 43
  | _ => 54
def ztc (t : Nat) : String := if t = 34 then "java/lang/String" else zCn t
def zmy (a : Nat) : MethodName := (zm a).1
/-- a field's declarer, name, descriptor: of the own classes, of constants and texts -/
def zfd (c f : Nat) : String × String × String := if c = 33 then ("LoftPost$Kind", "word", "Ljava/lang/String;") else if c = 34 then (if f = 0 then ("java/lang/String", "value", "[B") else ("java/lang/String", "coder", "B")) else ((zTT c f).1, (zTT c f).2.1, (zTT c f).2.2.1)
/-- a field's kind and place -/
def zfk (c f : Nat) : Nat × Nat := if c = 33 then (1, 0) else if c = 34 then (if f = 0 then (1, 0) else (0, 0)) else (zft c).getD f (9, 9)
def zlf (own host : String) (ix : Nat) (nest : Nat) (q : String × String × String) (p : Nat) : Bool := if nest = 0 then zin (.fieldLink own ix q.1 q.2.1 q.2.2) p else zin (.fieldLinkNest own ix q.1 q.2.1 q.2.2 host) p
def zld (cc : ByteArray) (pc len a : Nat) (i1 : Fin 4 → Instr) (i2 : Nat → Instr) : Bool := (len == 1 && (decide (a < 4) && zdec cc pc (i1 (Fin.ofNat 4 a)) 1)) || (len == 2 && zdec cc pc (i2 a) 2)
def zcb (b : Nat) : ClassFile.Cond := match b with
  | 0 => .eq
  | 1 => .ne
  | 2 => .lt
  | 3 => .ge
  | 4 => .gt
  | _ => .le
def zbi (b : Nat) : Instr := match b with
  | 0 => .iadd
  | 1 => .isub
  | 2 => .imul
  | 3 => .iand
  | 4 => .ior
  | 5 => .ixor
  | 6 => .ishl
  | 7 => .ishr
  | _ => .iushr
def zui (b : Nat) : Instr := match b with
  | 0 => .i2l
  | 1 => .i2b
  | 2 => .i2d
  | 3 => .i2c
  | _ => .ineg
def zli (b : Nat) : Instr := match b with
  | 0 => .ladd
  | 1 => .lmul
  | _ => .lcmp
/-- pairs of a switch -/
def zps (pc : Nat) : List Nat → List (Int × Int)
  | k :: t :: r => ((k : Int), (t : Int) - pc) :: zps pc r
  | _ => []
def zcall (own host : String) (cc : ByteArray) (pc a b : Nat) (k : Int) (ext : List Nat) : Bool :=
  let ix := ext.getD 0 0
  let p := ext.getD 1 0
  let nest := ext.getD 2 0
  let y := zmy a
  (if nest = 0 then zin (.methodLink own ix y) p else zin (.methodLinkNest own ix y host) p) &&
  (match b with
  | 0 => zdec cc pc (.invokevirtual ix) 3 && zin (.instanceMethod y) (ext.getD 3 0) && zin (.selects y.cls y y) (ext.getD 4 0) && decide (ztc (ext.getD 5 99) = y.cls) && decide (ext.getD 5 99 < 11 ∨ ext.getD 5 99 = 34) && decide ((parseMethodDescriptor y.desc).map (fun d => d.parameters.length) = some (k.toNat - 1)) && decide (1 ≤ k.toNat) && decide ((zm a).2.2.2.2 = [])
  | 1 => zdec cc pc (.invokestatic ix) 3 && zin (.static y) (ext.getD 3 0) && decide (ext.getD 5 99 = 99) && decide ((parseMethodDescriptor y.desc).map (fun d => d.parameters.length) = some k.toNat) && decide (nest = 0 ∨ (zm a).2.2.2.2 = [])
  | _ => zdec cc pc (.invokespecial ix) 3 && zin (.instanceMethod y) (ext.getD 3 0) && decide (y.name = "<init>") && decide ((zm a).2.2.2.1 = none) && decide (ext.getD 5 99 < 11) && decide ((parseMethodDescriptor y.desc).map (fun d => d.parameters.length) = some (k.toNat - 1)) && decide (1 ≤ k.toNat) && decide ((zm a).2.2.2.2 = []))
def zot (t : Nat) : String := match t with
  | 23 => "LoftPost$Kind"
  | 24 => "LoftPost$Loft"
  | 25 => "LoftPost$Pigeon"
  | 26 => "LoftPost$Hawk"
  | _ => "LoftPost$Letter"
def zrets (b : Nat) (ret : Option FieldType) : Bool := match b with
  | 0 => decide (ret = none)
  | 1 => decide (ret = some .int)
  | 2 => decide (ret = some .long)
  | 3 => decide (ret = some .double)
  | 5 => decide (ret = some .boolean)
  | 6 => decide (ret = some .byte)
  | 7 => decide (ret = some .char)
  | 4 => match ret with
    | some (.object _) => true
    | some (.array _) => true
    | _ => false
  | _ => false
def zreti (b : Nat) : Instr := match b with
  | 0 => .return_
  | 2 => .lreturn
  | 3 => .dreturn
  | 4 => .areturn
  | _ => .ireturn
/-- the handlers: what each does with what it caught, and their table -/
def zhok (own : String) (cc : ByteArray) (pc nL : Nat) : List Nat → List Nat → List (Nat × Nat × Nat × Nat) → Bool
  | prev, E :: code :: h :: len :: ix :: r, (s0, e0, h0, ct) :: t => decide (s0 ≤ pc) && decide (pc < e0) && decide (h0 = h) && decide (ct ≠ 0) && decide (Jvm.Cond.classLink own ct (zxn (E - 1)) ∈ lw_tbl) && decide (1 ≤ E) && decide (E ≤ 3) && decide (ix < nL) &&
      (if len = 1 then decide (ix < 4) && zdec cc h (.astore_n (Fin.ofNat 4 ix)) 1 else decide (len = 2) && zdec cc h (.astore ix) 2) && zdec cc (h + len) (.iconst (code : Int)) 1 && zdec cc (h + len + 1) .ireturn 1 && decide (code < 6) &&
      prev.all (fun P => decide ((E - 1, P - 1) ∈ [(1, 0), (2, 0), (0, 2)])) && zhok own cc pc nL (prev ++ [E]) r t
  | _, [], [] => true
  | _, _, _ => false
/-- what the resolved instruction claims -/
def zok (own host : String) (cc : ByteArray) (nL : Nat) (ret : Option FieldType) (ini : Bool) (hh : List (Nat × Nat × Nat × Nat)) (pc : Nat) (q : zRI) : Bool :=
  match q with
  | (op, len, a, b, k, ext) => match op with
    | 1 => (len == 1 && zdec cc pc (.iconst k) 1) || ((len == 2 && (zdec cc pc (.bipush k) 2 && decide ((Int8.ofInt k).toInt32 = Int32.ofInt k))) || (len == 3 && (zdec cc pc (.sipush k) 3 && decide ((Int16.ofInt k).toInt32 = Int32.ofInt k))))
    | 2 => zin (.constant own (ext.getD 0 0) (Int32.ofInt k)) (ext.getD 1 0) && ((len == 2 && zdec cc pc (.ldc (ext.getD 0 0)) 2) || (len == 3 && zdec cc pc (.ldc_w (ext.getD 0 0)) 3))
    | 3 => zin (.constantLong own (ext.getD 0 0) (Int64.ofInt k)) (ext.getD 1 0) && (len == 3 && zdec cc pc (.ldc2_w (ext.getD 0 0)) 3)
    | 4 => match b with
      | 0 => zld cc pc len a .iload_n .iload
      | 1 => zld cc pc len a .aload_n .aload
      | 2 => zld cc pc len a .lload_n .lload
      | 3 => zld cc pc len a .dload_n .dload
      | _ => false
    | 5 => match b with
      | 0 => decide (a < nL) && zld cc pc len a .istore_n .istore
      | 1 => decide (a < nL) && zld cc pc len a .astore_n .astore
      | 2 => decide (a + 1 < nL) && zld cc pc len a .lstore_n .lstore
      | 3 => decide (a + 1 < nL) && zld cc pc len a .dstore_n .dstore
      | _ => false
    | 6 => len == 3 && (decide (a < nL) && zdec cc pc (.iinc a k) 3)
    | 7 => zdec cc pc (zbi b) 1
    | 8 => zdec cc pc .idiv 1
    | 9 => zdec cc pc .irem 1
    | 10 => zdec cc pc (zui b) 1
    | 11 => zdec cc pc (zli b) 1
    | 12 => zdec cc pc (if b = 0 then .ddiv else .dcmp .l) 1
    | 13 => zdec cc pc (.dconst 0) 1
    | 14 => zdec cc pc .dup 1
    | 15 => zdec cc pc .dup2 1
    | 16 => zdec cc pc .pop 1
    | 17 => zdec cc pc (.ifCond (zcb b) ((a : Int) - pc)) 3
    | 18 => zdec cc pc (.if_icmp (zcb b) ((a : Int) - pc)) 3
    | 19 => zdec cc pc (.goto ((a : Int) - pc)) 3
    | 20 => zdec cc pc (.if_acmp (if b = 0 then .eq else .ne) ((a : Int) - pc)) 3
    | 21 => decide (0 < ext.length) && zdec cc pc (.tableswitch ((b : Int) - pc) a ((a : Int) + ext.length - 1) (ext.map (fun t : Nat => (t : Int) - (pc : Int))).toArray) len
    | 22 => decide (ext.all (fun n => decide (n < 100000))) && (((zps pc ext).zip ((zps pc ext).drop 1)).all (fun (x, y) => x.1 < y.1)) && zdec cc pc (.lookupswitch ((b : Int) - pc) (zps pc ext).toArray) len
    | 23 => zdec cc pc (.getfield (ext.getD 0 0)) 3 && zlf own host (ext.getD 0 0) (ext.getD 2 0) (zfd a (ext.getD 3 0)) (ext.getD 1 0) && decide (a = 33 ∨ a = 34 ∨ (a < 11 ∧ ext.getD 3 0 < zNf a)) && decide (zfk a (ext.getD 3 0) = (k.toNat, b)) && decide (k = 0 ∨ k = 1) && decide (a < 33 ∨ ext.getD 2 0 = 0)
    | 24 => zdec cc pc (.putfield (ext.getD 0 0)) 3 && zlf own host (ext.getD 0 0) (ext.getD 2 0) (zfd a (ext.getD 3 0)) (ext.getD 1 0) && decide (a < 11 ∧ ext.getD 3 0 < zNf a) && decide (zfk a (ext.getD 3 0) = (k.toNat, b)) && decide (k = 0 ∨ k = 1) && (if (zTT a (ext.getD 3 0)).2.2.2 = true then ini && decide ((zTT a (ext.getD 3 0)).1 = own) && decide (ext.getD 2 0 = 0) else true)
    | 25 => zdec cc pc (.getstatic (ext.getD 0 0)) 3 && decide (a < 24) && zlf own host (ext.getD 0 0) (ext.getD 2 0) (zsn.getD a ("", "", "")) (ext.getD 1 0)
    | 26 => match b with
      | 0 => zdec cc pc .iaload 1
      | 1 => zdec cc pc .baload 1
      | 2 => zdec cc pc .laload 1
      | 3 => zdec cc pc .aaload 1
      | _ => false
    | 27 => match b with
      | 0 => zdec cc pc .iastore 1
      | 1 => zdec cc pc .bastore 1
      | 2 => zdec cc pc .lastore 1
      | 3 => zdec cc pc .aastore 1
      | _ => false
    | 28 => zdec cc pc .arraylength 1
    | 29 => zdec cc pc (.new (ext.getD 0 0)) 3 && decide (a < 11) && zin (.classLink own (ext.getD 0 0) (zCn a)) (ext.getD 1 0) && zin (.instantiable (zCn a) (zNf a)) (ext.getD 2 0) && zin (.initialized (zCn a)) (ext.getD 3 0)
    | 30 => match b with
      | 20 => zdec cc pc (.newarray .int) 2
      | 21 => zdec cc pc (.newarray .byte) 2
      | 22 => zdec cc pc (.newarray .long) 2
      | _ => false
    | 31 => zdec cc pc (.anewarray (ext.getD 0 0)) 3 && decide (23 ≤ b ∧ b < 28) && zin (.classLink own (ext.getD 0 0) (zot b)) (ext.getD 1 0)
    | 32 => zcall own host cc pc a b k ext
    | 33 => zdec cc pc (.invokespecial (ext.getD 0 0)) 3 && zin (.methodLink own (ext.getD 0 0) objectInit) (ext.getD 1 0)
    | 34 => zdec cc pc (.invokestatic (ext.getD 0 0)) 3 && zin (.methodLink own (ext.getD 0 0) arraycopyName) (ext.getD 1 0)
    | 35 => decide (own = "LoftPost") && decide (a < 3) && zin (.classLink own (ext.getD 0 0) (zxn a)) (ext.getD 1 0) && zmsg.any (fun q => q.1 == ext.getD 2 0) && decide (ext.getD 4 0 = zxc a) && decide (hh = []) &&
        ((len == 10 && (zdec cc pc (.new (ext.getD 0 0)) 3 && zdec cc (pc + 3) .dup 1 && zdec cc (pc + 4) (.ldc (ext.getD 2 0)) 2 && zdec cc (pc + 6) (.invokespecial (ext.getD 4 0)) 3 && zdec cc (pc + 9) .athrow 1)) ||
         (len == 11 && (zdec cc pc (.new (ext.getD 0 0)) 3 && zdec cc (pc + 3) .dup 1 && zdec cc (pc + 4) (.ldc_w (ext.getD 2 0)) 3 && zdec cc (pc + 7) (.invokespecial (ext.getD 4 0)) 3 && zdec cc (pc + 10) .athrow 1)))
    | 36 => zdec cc pc (zreti b) 1 && zrets b ret
    | 41 => zdec cc pc (.invokestatic (ext.getD 0 0)) 3 && zin (.methodLink own (ext.getD 0 0) (if b = 0 then Lib.Math.abs.name else if b = 1 then Lib.Math.max.name else Lib.Math.min.name)) (ext.getD 1 0)
    | 37 => decide (b = 0) && zcall own host cc pc a b k ext && decide (ret = some .int) && zhok own cc pc nL [] (ext.drop 6) hh && decide (ext.getD 2 0 = 0)
    | _ => true
def zhost (own : String) : String := if own = "LoftPost" ∨ own = "LoftPost$Reader" ∨ own = "LoftPost$Tape" ∨ own = "LoftPost$World" ∨ own = "LoftPost$Loft" ∨ own = "LoftPost$Pigeon" ∨ own = "LoftPost$Hawk" ∨ own = "LoftPost$Letter" then "LoftPost" else "LoftPostModel"
/-- all of a method's instructions claim what is so -/
def zmck (t : zMt) (cd : List zRI) : Bool := (List.range cd.length).all (fun pc => zok t.1.cls (zhost t.1.cls) t.2.1 t.2.2.1 t.2.2.2.1 (decide (t.1.name = "<init>")) t.2.2.2.2 pc (cd.getD pc zno))
def zmok1 (t : zMt) (cd : List zRI) (pc : Nat) : Bool := zok t.1.cls (zhost t.1.cls) t.2.1 t.2.2.1 t.2.2.2.1 (decide (t.1.name = "<init>")) t.2.2.2.2 pc (cd.getD pc zno)
def zmOK (t : zMt) (cd : List zRI) : Prop := ∀ pc, zmok1 t cd pc = true
def zmckR (t : zMt) (cd : List zRI) (lo n : Nat) : Bool := (List.range n).all (fun i => zmok1 t cd (lo + i))
theorem zmOK_out {t : zMt} {cd : List zRI} {pc : Nat} (h : cd.length ≤ pc) : zmok1 t cd pc = true := by
  unfold zmok1
  rw [List.getD_eq_getElem?_getD, List.getElem?_eq_none h]
  rfl
theorem zmck_ok {t : zMt} {cd : List zRI} (h : zmck t cd = true) : zmOK t cd := by
  intro pc
  by_cases hp : pc < cd.length
  · exact List.all_eq_true.mp h pc (List.mem_range.mpr hp)
  · exact zmOK_out (Nat.le_of_not_lt hp)
theorem zmckR_ok {t : zMt} {cd : List zRI} {lo n hi pc : Nat} (h : zmckR t cd lo n = true) (h1 : lo ≤ pc) (h2 : pc < hi) (hh : hi = lo + n := by rfl) : zmok1 t cd pc = true := by
  have h3 := List.all_eq_true.mp h (pc - lo) (List.mem_range.mpr (by omega))
  rw [show lo + (pc - lo) = pc by omega] at h3
  exact h3
