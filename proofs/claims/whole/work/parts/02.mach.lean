/-! THE ABSTRACT MACHINE. Memory: a list of things (tag, ints, references, longs); a reference is a place in that list.
Instructions come resolved: (operation, length, a, b, k, further numbers). Part 02: what it does; it knows nothing of the JVM's state. -/
abbrev zRI : Type := Nat × Nat × Nat × Nat × Int × List Nat
abbrev zE : Type := Nat × List Int32 × List (Option Nat) × List Int64
abbrev zM : Type := List zE
abbrev zL : Type := List (Nat × Value)
/-- pc, locals, operands, cells made, slots made, memory -/
abbrev zS : Type := Nat × zL × List Value × Nat × Nat × zM
/-- 0 and what is returned, or 1 + the number of the exception's class; cells, slots, memory -/
abbrev zR : Type := Nat × Option Value × Nat × Nat × zM
abbrev zO : Type := Option (zS ⊕ zR)
def zno : zRI := (0, 0, 0, 0, 0, [])
def zd : zE := (99, [], [], [])
def zen (μ : zM) (a : Nat) : zE := μ.getD a zd
def ztg (μ : zM) (a : Nat) : Nat := (zen μ a).1
def zgi (μ : zM) (a k : Nat) : Int32 := (zen μ a).2.1.getD k 0
def zgr (μ : zM) (a k : Nat) : Option Nat := (zen μ a).2.2.1.getD k none
def zgl (μ : zM) (a k : Nat) : Int64 := (zen μ a).2.2.2.getD k 0
def zni (μ : zM) (a : Nat) : Nat := (zen μ a).2.1.length
def znr (μ : zM) (a : Nat) : Nat := (zen μ a).2.2.1.length
def znl (μ : zM) (a : Nat) : Nat := (zen μ a).2.2.2.length
def zsi (μ : zM) (a k : Nat) (x : Int32) : zM := μ.set a (ztg μ a, (zen μ a).2.1.set k x, (zen μ a).2.2.1, (zen μ a).2.2.2)
def zsr (μ : zM) (a k : Nat) (x : Option Nat) : zM := μ.set a (ztg μ a, (zen μ a).2.1, (zen μ a).2.2.1.set k x, (zen μ a).2.2.2)
def zsl (μ : zM) (a k : Nat) (x : Int64) : zM := μ.set a (ztg μ a, (zen μ a).2.1, (zen μ a).2.2.1, (zen μ a).2.2.2.set k x)
def zsI (μ : zM) (a : Nat) (xs : List Int32) : zM := μ.set a (ztg μ a, xs, (zen μ a).2.2.1, (zen μ a).2.2.2)
/-- the things ahead of this place are never written -/
def zK0 : Nat := 82
/-- the place of a thing of which nothing is known -/
def zUK : Nat := 22
def zkind : Value → Nat
  | .int _ => 0
  | .ref _ => 1
  | .null => 1
  | .long _ => 2
  | .double _ => 3
  | _ => 9
def zst (b : Nat) (L : zL) (a : Nat) (v : Value) : zL :=
  if b < 2 then (a, v) :: L.filter (fun q => !(q.1 == a) && !(q.1 + 1 == a && q.2.category == 2))
  else (a, v) :: L.filter (fun q => !(q.1 == a) && (!(q.1 == a + 1) && !(q.1 + 1 == a && q.2.category == 2)))
def zbin (b : Nat) (x y : Int32) : Int32 := match b with
  | 0 => x + y
  | 1 => x - y
  | 2 => x * y
  | 3 => x &&& y
  | 4 => x ||| y
  | 5 => x ^^^ y
  | 6 => x <<< (y &&& 31)
  | 7 => x >>> (y &&& 31)
  | _ => (x.toUInt32 >>> (y.toUInt32 &&& Int32.toUInt32 31)).toInt32
def zun (b : Nat) (x : Int32) : Value := match b with
  | 0 => .long x.toInt64
  | 1 => .int x.toInt8.toInt32
  | 2 => .double (FP.i2d x)
  | 3 => .int (x.toUInt32 % 65536).toInt32
  | _ => .int (-x)
def zlon (b : Nat) (x y : Int64) : Value := match b with
  | 0 => .long (x + y)
  | 1 => .long (x * y)
  | _ => .int (lg_cmp x y)
def zif (b : Nat) (x : Int32) (t f : Nat) : Nat := match b with
  | 0 => if x = 0 then t else f
  | 1 => if x = 0 then f else t
  | 2 => if x < 0 then t else f
  | 3 => if 0 ≤ x then t else f
  | 4 => if 0 < x then t else f
  | _ => if x ≤ 0 then t else f
def zic (b : Nat) (x y : Int32) (t f : Nat) : Nat := match b with
  | 0 => if x = y then t else f
  | 1 => if x = y then f else t
  | 2 => if x < y then t else f
  | 3 => if y ≤ x then t else f
  | 4 => if y < x then t else f
  | _ => if x ≤ y then t else f
def zlk : List Nat → Int32 → Nat → Nat
  | k :: t :: r, x, d => if x = Int32.ofNat k then t else zlk r x d
  | _, _, d => d
def zal (μ : zM) (r : Nat) : Option Nat :=
  let t := ztg μ r
  if t = 20 ∨ t = 21 ∨ t = 30 ∨ t = 31 then some (zni μ r) else if t = 22 then some (znl μ r) else if (23 ≤ t ∧ t < 28) ∨ t = 32 ∨ t = 35 then some (znr μ r) else none
def zcpy (l0 l1 : List Int32) (sp dp n : Nat) : List Int32 := (List.range l1.length).map (fun j => if dp ≤ j ∧ j < dp + n then l0.getD (sp + (j - dp)) 0 else l1.getD j 0)
/-- a reference that may stand in memory -/
def zmr : Value → Option (Option Nat)
  | .null => some none
  | .ref k => if k = zUK then none else some (some k)
  | _ => none
/-- the ints and references of a new object of a class -/
def znf (c : Nat) : Nat × Nat := match c with
  | 0 => (1, 3)
  | 1 => (6, 4)
  | 2 => (2, 4)
  | 3 => (6, 4)
  | 4 => (5, 2)
  | 5 => (12, 0)
  | 6 => (6, 0)
  | 7 => (6, 2)
  | 8 => (4, 9)
  | 9 => (4, 16)
  | _ => (3, 22)
/-- a static's value: 20 constants, two rows, COMPACT_STRINGS, and one of which nothing is known -/
def zsv (a : Nat) : Value := if a < 22 then .ref a else if a = 22 then .int 1 else .ref zUK
def zdig (b : Nat) (v : Option Value) : Bool := match b, v with
  | 0, none => true
  | 1, some (.int _) => true
  | 2, some (.long _) => true
  | 3, some (.double _) => true
  | 4, some (.ref _) => true
  | 4, some .null => true
  | 5, some (.int x) => decide (x = 0 ∨ x = 1)
  | 6, some (.int x) => decide (x.toInt8.toInt32 = x)
  | 7, some (.int x) => decide ((x.toUInt32 % 65536).toInt32 = x)
  | _, _ => false
def zhx : List Nat → Nat → Option Nat
  | E :: code :: _ :: _ :: _ :: r, X => if X = E then some code else zhx r X
  | _, _ => none
def zo1 (len : Nat) (k : Int) : zS → zO | (pc, L, st, c, sl, μ) => some (.inl (pc + len, L, .int (Int32.ofInt k) :: st, c, sl, μ))
def zo3 (len : Nat) (k : Int) : zS → zO | (pc, L, st, c, sl, μ) => some (.inl (pc + len, L, .long (Int64.ofInt k) :: st, c, sl, μ))
def zo4 (len a b : Nat) : zS → zO | (pc, L, st, c, sl, μ) => match L.lookup a with
  | some v => if zkind v = b then some (.inl (pc + len, L, v :: st, c, sl, μ)) else none
  | none => none
def zo5 (len a b : Nat) : zS → zO
  | (pc, L, v :: st, c, sl, μ) => if zkind v = b then some (.inl (pc + len, zst b L a v, st, c, sl, μ)) else none
  | _ => none
def zo6 (len a : Nat) (k : Int) : zS → zO | (pc, L, st, c, sl, μ) => match L.lookup a with
  | some (.int x) => some (.inl (pc + len, zst 0 L a (.int (x + Int32.ofInt k)), st, c, sl, μ))
  | _ => none
def zo7 (b : Nat) : zS → zO
  | (pc, L, .int y :: .int x :: st, c, sl, μ) => some (.inl (pc + 1, L, .int (zbin b x y) :: st, c, sl, μ))
  | _ => none
def zo8 : zS → zO
  | (pc, L, .int y :: .int x :: st, c, sl, μ) => if y = 0 then none else some (.inl (pc + 1, L, .int (x / y) :: st, c, sl, μ))
  | _ => none
def zo9 : zS → zO
  | (pc, L, .int y :: .int x :: st, c, sl, μ) => if y = 0 then none else some (.inl (pc + 1, L, .int (x - x / y * y) :: st, c, sl, μ))
  | _ => none
def zo10 (b : Nat) : zS → zO
  | (pc, L, .int x :: st, c, sl, μ) => some (.inl (pc + 1, L, zun b x :: st, c, sl, μ))
  | _ => none
def zo11 (b : Nat) : zS → zO
  | (pc, L, .long y :: .long x :: st, c, sl, μ) => some (.inl (pc + 1, L, zlon b x y :: st, c, sl, μ))
  | _ => none
def zo12 (b : Nat) : zS → zO
  | (pc, L, .double y :: .double x :: st, c, sl, μ) => if b = 0 then (if FP.ddiv x y &&& 0x7fffffffffffffff ≤ 0x7ff0000000000000 then some (.inl (pc + 1, L, .double (FP.ddiv x y) :: st, c, sl, μ)) else none)
      else some (.inl (pc + 1, L, .int (Op.cmpValue (FP.dcmp x y) .l) :: st, c, sl, μ))
  | _ => none
def zo13 : zS → zO | (pc, L, st, c, sl, μ) => some (.inl (pc + 1, L, .double FP.dconst0 :: st, c, sl, μ))
def zo14 : zS → zO
  | (pc, L, v :: st, c, sl, μ) => if zkind v < 2 then some (.inl (pc + 1, L, v :: v :: st, c, sl, μ)) else none
  | _ => none
def zo15 : zS → zO
  | (pc, L, v :: w :: st, c, sl, μ) => if zkind v < 2 ∧ zkind w < 2 then some (.inl (pc + 1, L, v :: w :: v :: w :: st, c, sl, μ)) else none
  | _ => none
def zo16 : zS → zO
  | (pc, L, v :: st, c, sl, μ) => if zkind v < 2 then some (.inl (pc + 1, L, st, c, sl, μ)) else none
  | _ => none
def zo17 (a b : Nat) : zS → zO
  | (pc, L, .int x :: st, c, sl, μ) => some (.inl (zif b x a (pc + 3), L, st, c, sl, μ))
  | _ => none
def zo18 (a b : Nat) : zS → zO
  | (pc, L, .int y :: .int x :: st, c, sl, μ) => some (.inl (zic b x y a (pc + 3), L, st, c, sl, μ))
  | _ => none
def zo19 (a : Nat) : zS → zO | (_, L, st, c, sl, μ) => some (.inl (a, L, st, c, sl, μ))
def zo20 (a b : Nat) : zS → zO
  | (pc, L, .ref y :: .ref x :: st, c, sl, μ) => if x < 20 ∧ y < 20 then some (.inl (if b = 0 then (if x = y then a else pc + 3) else (if x = y then pc + 3 else a), L, st, c, sl, μ)) else none
  | _ => none
def zo21 (a b : Nat) (ext : List Nat) : zS → zO
  | (_, L, .int x :: st, c, sl, μ) => some (.inl (if x.toInt < a ∨ (a : Int) + ext.length ≤ x.toInt then b else ext.getD (x.toInt - a).toNat 0, L, st, c, sl, μ))
  | _ => none
def zo22 (b : Nat) (ext : List Nat) : zS → zO
  | (_, L, .int x :: st, c, sl, μ) => some (.inl (zlk ext x b, L, st, c, sl, μ))
  | _ => none
def zo23 (a b : Nat) (k : Int) : zS → zO
  | (pc, L, .ref r :: st, c, sl, μ) => if ztg μ r = a then some (.inl (pc + 3, L, (if k = 0 then .int (zgi μ r b) else va_rf (zgr μ r b)) :: st, c, sl, μ)) else none
  | _ => none
def zo24 (a b : Nat) (k : Int) : zS → zO
  | (pc, L, v :: .ref r :: st, c, sl, μ) =>
    if ztg μ r = a ∧ zK0 ≤ r then
      (if k = 0 then (match v with
        | .int x => if b < zni μ r then some (.inl (pc + 3, L, st, c, sl, zsi μ r b x)) else none
        | _ => none)
      else (match zmr v with
        | some x => if b < znr μ r then some (.inl (pc + 3, L, st, c, sl, zsr μ r b x)) else none
        | none => none))
    else none
  | _ => none
def zo25 (a : Nat) : zS → zO | (pc, L, st, c, sl, μ) => some (.inl (pc + 3, L, zsv a :: st, c, sl, μ))
def zo26 (b : Nat) : zS → zO
  | (pc, L, .int j :: .ref r :: st, c, sl, μ) =>
    if b = 0 then (if (ztg μ r = 20 ∨ ztg μ r = 30) ∧ ¬ (j < 0 ∨ zni μ r ≤ j.toNatClampNeg) then some (.inl (pc + 1, L, .int (zgi μ r j.toNatClampNeg) :: st, c, sl, μ)) else none)
    else if b = 1 then (if (ztg μ r = 21 ∨ ztg μ r = 31) ∧ ¬ (j < 0 ∨ zni μ r ≤ j.toNatClampNeg) then some (.inl (pc + 1, L, .int (zgi μ r j.toNatClampNeg) :: st, c, sl, μ)) else none)
    else if b = 2 then (if ztg μ r = 22 ∧ ¬ (j < 0 ∨ znl μ r ≤ j.toNatClampNeg) then some (.inl (pc + 1, L, .long (zgl μ r j.toNatClampNeg) :: st, c, sl, μ)) else none)
    else (if ((23 ≤ ztg μ r ∧ ztg μ r < 28) ∨ ztg μ r = 32 ∨ ztg μ r = 35) ∧ ¬ (j < 0 ∨ znr μ r ≤ j.toNatClampNeg) then some (.inl (pc + 1, L, va_rf (zgr μ r j.toNatClampNeg) :: st, c, sl, μ)) else none)
  | _ => none
/-- the tag of the rows that may hold a thing of this tag: constants in 23, the class c in 20 + c -/
def zel (t : Nat) : Nat := if t = 33 then 23 else t + 20
def zo27 (b : Nat) : zS → zO
  | (pc, L, v :: .int j :: .ref r :: st, c, sl, μ) =>
    if zK0 ≤ r ∧ ¬ j < 0 then
      (match b, v with
      | 0, .int x => if ztg μ r = 20 ∧ j.toNatClampNeg < zni μ r then some (.inl (pc + 1, L, st, c, sl, zsi μ r j.toNatClampNeg x)) else none
      | 1, .int x => if ztg μ r = 21 ∧ j.toNatClampNeg < zni μ r then some (.inl (pc + 1, L, st, c, sl, zsi μ r j.toNatClampNeg x.toInt8.toInt32)) else none
      | 2, .long x => if ztg μ r = 22 ∧ j.toNatClampNeg < znl μ r then some (.inl (pc + 1, L, st, c, sl, zsl μ r j.toNatClampNeg x)) else none
      | 3, .ref k => if ((4 ≤ ztg μ k ∧ ztg μ k < 8) ∨ ztg μ k = 33) ∧ 23 ≤ ztg μ r ∧ ztg μ r < 28 ∧ ztg μ r = zel (ztg μ k) ∧ k ≠ zUK ∧ j.toNatClampNeg < znr μ r then some (.inl (pc + 1, L, st, c, sl, zsr μ r j.toNatClampNeg (some k))) else none
      | _, _ => none)
    else none
  | _ => none
def zo28 : zS → zO
  | (pc, L, .ref r :: st, c, sl, μ) => match zal μ r with
    | some n => some (.inl (pc + 1, L, .int (Int32.ofNat n) :: st, c, sl, μ))
    | none => none
  | _ => none
def zo29 (a : Nat) : zS → zO | (pc, L, st, c, sl, μ) => some (.inl (pc + 3, L, .ref μ.length :: st, c + 1, sl + ((znf a).1 + (znf a).2), μ ++ [(a, List.replicate (znf a).1 0, List.replicate (znf a).2 none, [])]))
def zo30 (b : Nat) : zS → zO
  | (pc, L, .int n :: st, c, sl, μ) => if ¬ n < 0 ∧ n.toNatClampNeg ≤ 10000 then some (.inl (pc + 2, L, .ref μ.length :: st, c + 1, sl + n.toNatClampNeg, μ ++ [if b = 22 then (22, [], [], List.replicate n.toNatClampNeg 0) else (b, List.replicate n.toNatClampNeg 0, [], [])])) else none
  | _ => none
def zo31 (b : Nat) : zS → zO
  | (pc, L, .int n :: st, c, sl, μ) => if ¬ n < 0 ∧ n.toNatClampNeg ≤ 10000 then some (.inl (pc + 3, L, .ref μ.length :: st, c + 1, sl + n.toNatClampNeg, μ ++ [(b, [], List.replicate n.toNatClampNeg none, [])])) else none
  | _ => none
/-- the receiver's tag -/
def zhd (μ : zM) : List Value → Nat
  | .ref r :: _ => ztg μ r
  | _ => 98
/-- a call: a the method, n operands taken; the receiver's tag must be t where the call is of an object (t = 99: none looked at) -/
def zo32 (call : Nat → List Value → zM → Option zR) (a n t : Nat) : zS → zO
  | (pc, L, st, c, sl, μ) =>
    if n ≤ st.length ∧ ((st.drop n).map fun v => v.category).sum ≤ 8 ∧ (t = 99 ∨ zhd μ (st.take n).reverse = t) then
      (match call a (st.take n).reverse μ with
      | some (0, v, c1, s1, μ1) => some (.inl (pc + 3, L, v.toList ++ st.drop n, c + c1, sl + s1, μ1))
      | _ => none)
    else none
def zo33 : zS → zO
  | (pc, L, .ref r :: st, c, sl, μ) => if (st.map fun v => v.category).sum ≤ 8 ∧ r ≠ zUK then some (.inl (pc + 3, L, st, c, sl, μ)) else none
  | _ => none
def zo34 : zS → zO
  | (pc, L, .int n :: .int dp :: .ref r1 :: .int sp :: .ref r0 :: st, c, sl, μ) =>
    if (st.map fun v => v.category).sum ≤ 8 ∧ zK0 ≤ r0 ∧ zK0 ≤ r1 ∧ ztg μ r0 = 20 ∧ ztg μ r1 = 20 ∧ ¬ sp < 0 ∧ ¬ dp < 0 ∧ ¬ n < 0 ∧ sp.toNatClampNeg + n.toNatClampNeg ≤ zni μ r0 ∧ dp.toNatClampNeg + n.toNatClampNeg ≤ zni μ r1 then
      some (.inl (pc + 3, L, st, c, sl, zsI μ r1 (zcpy (zen μ r0).2.1 (zen μ r1).2.1 sp.toNatClampNeg dp.toNatClampNeg n.toNatClampNeg)))
    else none
  | _ => none
def zo35 (d a : Nat) : zS → zO | (_, _, st, c, sl, μ) => if 7 ≤ d ∧ (st.map fun v => v.category).sum ≤ 8 then some (.inr (a + 1, none, c + 1, sl + 6, μ)) else none
def zo36 (b : Nat) : zS → zO
  | (_, _, [], c, sl, μ) => if zdig b none then some (.inr (0, none, c, sl, μ)) else none
  | (_, _, [v], c, sl, μ) => if zdig b (some v) then some (.inr (0, some v, c, sl, μ)) else none
  | _ => none
/-- a call inside a table of handlers, each of which stores what it caught and answers a number -/
def zo37 (call : Nat → List Value → zM → Option zR) (a n t : Nat) (hx : List Nat) : zS → zO
  | (pc, L, st, c, sl, μ) =>
    if n ≤ st.length ∧ ((st.drop n).map fun v => v.category).sum ≤ 8 ∧ t ≠ 99 ∧ zhd μ (st.take n).reverse = t then
      (match call a (st.take n).reverse μ with
      | some (0, v, c1, s1, μ1) => some (.inl (pc + 3, L, v.toList ++ st.drop n, c + c1, sl + s1, μ1))
      | some (E + 1, _, c1, s1, μ1) => (match zhx hx (E + 1) with
        | some z => some (.inr (0, some (.int (Int32.ofNat z)), c + c1, sl + s1, μ1))
        | none => none)
      | _ => none)
    else none
/-- Math's abs, max, min -/
def zo41 (b : Nat) : zS → zO
  | (pc, L, .int y :: st, c, sl, μ) =>
    if (st.map fun v => v.category).sum ≤ 9 then
      (if b = 0 then some (.inl (pc + 3, L, .int (if 0 ≤ y then y else 0 - y) :: st, c, sl, μ))
      else match st with
        | .int x :: st => if b = 1 then some (.inl (pc + 3, L, .int (if x < y then y else x) :: st, c, sl, μ)) else some (.inl (pc + 3, L, .int (if y < x then y else x) :: st, c, sl, μ))
        | _ => none)
    else none
  | _ => none
/-- one instruction; d: the frames that are left below -/
def zx (d : Nat) (call : Nat → List Value → zM → Option zR) (q : zRI) (S : zS) : zO :=
  match q with
  | (op, len, a, b, k, ext) => match op with
    | 1 => zo1 len k S
    | 2 => zo1 len k S
    | 3 => zo3 len k S
    | 4 => zo4 len a b S
    | 5 => zo5 len a b S
    | 6 => zo6 len a k S
    | 7 => zo7 b S
    | 8 => zo8 S
    | 9 => zo9 S
    | 10 => zo10 b S
    | 11 => zo11 b S
    | 12 => zo12 b S
    | 13 => zo13 S
    | 14 => zo14 S
    | 15 => zo15 S
    | 16 => zo16 S
    | 17 => zo17 a b S
    | 18 => zo18 a b S
    | 19 => zo19 a S
    | 20 => zo20 a b S
    | 21 => zo21 a b ext S
    | 22 => zo22 b ext S
    | 23 => zo23 a b k S
    | 24 => zo24 a b k S
    | 25 => zo25 a S
    | 26 => zo26 b S
    | 27 => zo27 b S
    | 28 => zo28 S
    | 29 => zo29 a S
    | 30 => zo30 b S
    | 31 => zo31 b S
    | 32 => zo32 call a k.toNat (ext.getD 5 99) S
    | 33 => zo33 S
    | 34 => zo34 S
    | 35 => zo35 d a S
    | 36 => zo36 b S
    | 41 => zo41 b S
    | 37 => zo37 call a k.toNat (ext.getD 5 99) (ext.drop 6) S
    | _ => none
def zfetch (cd : List zRI) (pc : Nat) : zRI := cd.getD pc zno
def zn (d : Nat) (call : Nat → List Value → zM → Option zR) (cd : List zRI) (S : zS) : zO := zx d call (zfetch cd S.1) S
def zrun (d : Nat) (call : Nat → List Value → zM → Option zR) (cd : List zRI) : Nat → zS → Option zR
  | 0, _ => none
  | n + 1, S => match zn d call cd S with
    | some (.inl S') => zrun d call cd n S'
    | some (.inr r) => some r
    | none => none
theorem zrun_mono {d : Nat} {call : Nat → List Value → zM → Option zR} {cd : List zRI} {r : zR} : ∀ {n m : Nat} {S : zS}, n ≤ m → zrun d call cd n S = some r → zrun d call cd m S = some r
  | 0, _, _, _, h => by simp [zrun] at h
  | n + 1, 0, _, hm, _ => absurd hm (by omega)
  | n + 1, m + 1, S, hm, h => by
    simp only [zrun] at h ⊢
    cases hz : zn d call cd S with
    | none => rw [hz] at h; exact h
    | some o =>
      rw [hz] at h
      cases o with
      | inl S' => exact zrun_mono (by omega) h
      | inr r' => exact h

noncomputable def zden1 (d : Nat) (call : Nat → List Value → zM → Option zR) (cd : List zRI) (S : zS) : Option zR :=
  @dite (Option zR) (∃ r n, zrun d call cd n S = some r) (Classical.propDecidable _) (fun h => some (Classical.choose h)) (fun _ => none)
theorem zden1_iff {d : Nat} {call : Nat → List Value → zM → Option zR} {cd : List zRI} {S : zS} {r : zR} : zden1 d call cd S = some r ↔ ∃ n, zrun d call cd n S = some r := by
  unfold zden1
  constructor
  · intro h
    split at h
    · rename_i hx
      have h1 := Classical.choose_spec hx
      rw [Option.some.inj h] at h1
      exact h1
    · cases h
  · rintro ⟨n, hn⟩
    have hx : ∃ r n, zrun d call cd n S = some r := ⟨r, n, hn⟩
    rw [dif_pos hx]
    obtain ⟨m, hm⟩ := Classical.choose_spec hx
    have h1 := zrun_mono (Nat.le_max_left n m) hn
    have h2 := zrun_mono (Nat.le_max_right n m) hm
    rw [h1] at h2
    exact h2.symm
theorem zden1_step {d : Nat} {call : Nat → List Value → zM → Option zR} {cd : List zRI} {S S' : zS} (h : zn d call cd S = some (.inl S')) : zden1 d call cd S = zden1 d call cd S' := by
  have key : ∀ r, zden1 d call cd S = some r ↔ zden1 d call cd S' = some r := by
    intro r
    rw [zden1_iff, zden1_iff]
    constructor
    · rintro ⟨n, hn⟩
      cases n with
      | zero => simp [zrun] at hn
      | succ n => exact ⟨n, by simpa [zrun, h] using hn⟩
    · rintro ⟨n, hn⟩
      exact ⟨n + 1, by simpa [zrun, h] using hn⟩
  cases h1 : zden1 d call cd S with
  | some r => exact ((key r).mp h1).symm
  | none =>
    cases h2 : zden1 d call cd S' with
    | none => rfl
    | some r => rw [(key r).mpr h2] at h1; cases h1
theorem zden1_end {d : Nat} {call : Nat → List Value → zM → Option zR} {cd : List zRI} {S : zS} {r : zR} (h : zn d call cd S = some (.inr r)) : zden1 d call cd S = some r := zden1_iff.mpr ⟨1, by simp [zrun, h]⟩
/-- a method's run, with at most d frames (its own counted); cds: locals and codes by the methods' numbers -/
noncomputable def zden (cds : Nat → Nat × List zRI) : Nat → Nat → List Value → zM → Option zR
  | 0, _, _, _ => none
  | d + 1, m, args, μ => if (args.map fun v => v.category).sum ≤ (cds m).1 then zden1 d (zden cds d) (cds m).2 (0, lv_args 0 args, [], 0, 0, μ) else none
