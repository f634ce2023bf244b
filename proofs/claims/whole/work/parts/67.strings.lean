/-! STRINGS THAT ARE THERE FROM THE START: a string at z, its bytes at y. -/
def zch (x : Int32) : Int32 := ((x &&& 255).toUInt32 % 65536).toInt32
def zstr (μ : zM) (I : zFn) (z y n : Nat) (w : Nat → Int32) : Prop := ztg μ z = 34 ∧ zgr μ z 0 = some y ∧ zni μ z = 1 ∧ I z 0 = 0 ∧ ztg μ y = 31 ∧ zni μ y = n ∧ n < 2 ^ 31 ∧ ∀ i, i < n → zch (I y i) = w i
theorem zch_id (x : Int32) : (((x.toUInt32 % 65536).toInt32).toUInt32 % 65536).toInt32 = (x.toUInt32 % 65536).toInt32 := by
  rw [pk_char x, pk_char]
  rw [pk_tn (Nat.lt_of_lt_of_le (Nat.mod_lt _ (by decide)) (by decide)), Nat.mod_mod]
theorem yalc {d : Nat} {call : Nat → List Value → zM → Option zR} {cd : List zRI} {pc : Nat} {L : zL} {st : List Value} {c sl len a b : Nat} {k : Int} {ext : List Nat} {μ : zM} {I : Nat → Nat → Int32} (pc' : Nat) {r N : Nat} (hf : zfetch cd pc = (28, len, a, b, k, ext)) (ht : ztg μ r = 31) (hn : zni μ r = N) (hp : pc + 1 = pc') : zden1 d call cd (pc, L, .ref r :: st, c, sl, zwi μ I) = zden1 d call cd (pc', L, .int (nI N) :: st, c, sl, zwi μ I) :=
  ys28 (n := N) pc' hf (by unfold zal; rw [ht, hn]; rfl) rfl hp

def vpci (i : Nat) : Int32 :=
  nI i

theorem c_pci {d : Nat} {I : zFn} {μ : zM} {i n : Nat} (hi : i < n) (hn : n < 2 ^ 31) : zden zcds (d + 1) 231 [.int (nI i), .int (nI n), .ref (zUK)] (zwi μ I) = some (0, some (.int ((vpci i))), 0, 0, zwi μ I) := by
  refine (zd_in (d := d + 0) (cd := zc231) (nL := 3) (L := [(0, .int (nI i)), (1, .int (nI n)), (2, .ref (zUK))]) rfl (Nat.le_of_ble_eq_true rfl) rfl).trans ?_
  refine (ys4 1 (v := .int (nI i)) rfl rfl rfl rfl).trans ?_
  refine ys17_2 4 rfl rfl (fun h1 => absurd h1 (nI_pos (by omega))) (fun h1 => ?_)
  refine (ys4 5 (v := .int (nI i)) rfl rfl rfl rfl).trans ?_
  refine (ys4 6 (v := .int (nI n)) rfl rfl rfl rfl).trans ?_
  refine ys18_2 9 rfl rfl (fun h6 => ?_) (fun h6 => absurd (nI_lt hi hn) h6)
  refine (ys4 17 (v := .int (nI i)) rfl rfl rfl rfl).trans ?_
  refine (ys36 rfl rfl).trans ?_
  rw [show vpci i = (nI i) from by unfold vpci; (try dsimp only); first | done | rfl]; (first | done | rfl)

theorem c_cki {d : Nat} {I : zFn} {μ : zM} {i n : Nat} (hi : i < n) (hn : n < 2 ^ 31) : zden zcds (d + 2) 229 [.int (nI i), .int (nI n)] (zwi μ I) = some (0, none, 0, 0, zwi μ I) := by
  refine (zd_in (d := d + 1) (cd := zc229) (nL := 2) (L := [(0, .int (nI i)), (1, .int (nI n))]) rfl (Nat.le_of_ble_eq_true rfl) rfl).trans ?_
  refine (ys4 1 (v := .int (nI i)) rfl rfl rfl rfl).trans ?_
  refine (ys4 2 (v := .int (nI n)) rfl rfl rfl rfl).trans ?_
  refine (ys25 5 rfl (v := .ref (zUK)) rfl rfl).trans ?_
  refine (yc3 8 rfl rfl (Nat.le_of_ble_eq_true rfl) (Or.inl rfl) rfl rfl (c_pci hi hn)).trans ?_
  refine (ys16 9 rfl (Nat.le_of_ble_eq_true rfl) rfl).trans ?_
  refine (ys36v rfl rfl).trans ?_
  rfl

theorem c_lch {d : Nat} {I : zFn} {μ : zM} {z y n : Nat} {w : Nat → Int32} (hz : zstr μ I z y n w) {i : Nat} (hi : i < n) : zden zcds (d + 3) 230 [.ref (y), .int (nI i)] (zwi μ I) = some (0, some (.int (zch (I y i))), 0, 0, zwi μ I) := by
  refine (zd_in (d := d + 2) (cd := zc230) (nL := 2) (L := [(0, .ref (y)), (1, .int (nI i))]) rfl (Nat.le_of_ble_eq_true rfl) rfl).trans ?_
  refine (ys4 1 (v := .int (nI i)) rfl rfl rfl rfl).trans ?_
  refine (ys4 2 (v := .ref (y)) rfl rfl rfl rfl).trans ?_
  refine (yalc 3 (N := n) rfl hz.2.2.2.2.1 hz.2.2.2.2.2.1 rfl).trans ?_
  refine (yc2 6 rfl rfl (Nat.le_of_ble_eq_true rfl) (Or.inl rfl) rfl rfl (c_cki hi hz.2.2.2.2.2.2.1)).trans ?_
  refine (ys4 7 (v := .ref (y)) rfl rfl rfl rfl).trans ?_
  refine (ys4 8 (v := .int (nI i)) rfl rfl rfl rfl).trans ?_
  refine (ylb 9 (N := n) rfl (j := i) rfl (Or.inr hz.2.2.2.2.1) hz.2.2.2.2.2.1 (by omega) hz.2.2.2.2.2.2.1 rfl rfl).trans ?_
  refine (ys1 12 (x := 255) rfl rfl rfl).trans ?_
  refine (ys7_3 13 rfl rfl).trans ?_
  refine (ys10 14 rfl rfl).trans ?_
  refine (ys36 rfl (by exact decide_eq_true (zch_id _))).trans ?_
  rfl

theorem c_lat {d : Nat} {I : zFn} {μ : zM} {z y n : Nat} {w : Nat → Int32} (hz : zstr μ I z y n w) : zden zcds (d + 1) 228 [.ref (z)] (zwi μ I) = some (0, some (.int 1), 0, 0, zwi μ I) := by
  refine (zd_in (d := d + 0) (cd := zc228) (nL := 1) (L := [(0, .ref (z))]) rfl (Nat.le_of_ble_eq_true rfl) rfl).trans ?_
  refine (ys25 3 rfl (v := .int (1)) rfl rfl).trans ?_
  refine ys17_0 6 rfl rfl (fun h3 => absurd h3 (by decide)) (fun h3 => ?_)
  refine (ys4 7 (v := .ref (z)) rfl rfl rfl rfl).trans ?_
  refine (yg 10 rfl hz.1 hz.2.2.1 (by decide) rfl hz.2.2.2.1).trans ?_
  refine ys17_1 13 rfl rfl (fun h10 => ?_) (fun h10 => absurd rfl h10)
  refine (ys1 14 (x := 1) rfl rfl rfl).trans ?_
  refine (ys19 rfl).trans ?_
  refine (ys36 rfl (by decide)).trans ?_
  rfl

theorem c_cod {d : Nat} {I : zFn} {μ : zM} {z y n : Nat} {w : Nat → Int32} (hz : zstr μ I z y n w) : zden zcds (d + 1) 227 [.ref (z)] (zwi μ I) = some (0, some (.int 0), 0, 0, zwi μ I) := by
  refine (zd_in (d := d + 0) (cd := zc227) (nL := 1) (L := [(0, .ref (z))]) rfl (Nat.le_of_ble_eq_true rfl) rfl).trans ?_
  refine (ys25 3 rfl (v := .int (1)) rfl rfl).trans ?_
  refine ys17_0 6 rfl rfl (fun h3 => absurd h3 (by decide)) (fun h3 => ?_)
  refine (ys4 7 (v := .ref (z)) rfl rfl rfl rfl).trans ?_
  refine (yg 10 rfl hz.1 hz.2.2.1 (by decide) rfl hz.2.2.2.1).trans ?_
  refine (ys19 rfl).trans ?_
  refine (ys36 rfl (by decide)).trans ?_
  rfl

theorem c_chr {d : Nat} {I : zFn} {μ : zM} {z y n : Nat} {w : Nat → Int32} (hz : zstr μ I z y n w) {i : Nat} (hi : i < n) : zden zcds (d + 4) 226 [.ref (z), .int (nI i)] (zwi μ I) = some (0, some (.int (w i)), 0, 0, zwi μ I) := by
  refine (zd_in (d := d + 3) (cd := zc226) (nL := 2) (L := [(0, .ref (z)), (1, .int (nI i))]) rfl (Nat.le_of_ble_eq_true rfl) rfl).trans ?_
  refine (ys4 1 (v := .ref (z)) rfl rfl rfl rfl).trans ?_
  refine (yc1 4 rfl rfl (Nat.le_of_ble_eq_true rfl) (Or.inr (by show ztg (zwi _ _) _ = _; rw [ztg_wi]; exact hz.1)) rfl rfl (c_lat hz)).trans ?_
  refine ys17_0 7 rfl rfl (fun h4 => absurd h4 (by decide)) (fun h4 => ?_)
  refine (ys4 8 (v := .ref (z)) rfl rfl rfl rfl).trans ?_
  refine (ygr 11 rfl hz.1 rfl hz.2.1).trans ?_
  refine (ys4 12 (v := .int (nI i)) rfl rfl rfl rfl).trans ?_
  refine (yc2 15 rfl rfl (Nat.le_of_ble_eq_true rfl) (Or.inl rfl) rfl rfl (c_lch hz hi)).trans ?_
  refine (ys36 rfl (by exact decide_eq_true (zch_id _))).trans ?_
  rw [hz.2.2.2.2.2.2.2 i hi]

theorem c_len {d : Nat} {I : zFn} {μ : zM} {z y n : Nat} {w : Nat → Int32} (hz : zstr μ I z y n w) : zden zcds (d + 2) 225 [.ref (z)] (zwi μ I) = some (0, some (.int (nI n)), 0, 0, zwi μ I) := by
  refine (zd_in (d := d + 1) (cd := zc225) (nL := 1) (L := [(0, .ref (z))]) rfl (Nat.le_of_ble_eq_true rfl) rfl).trans ?_
  refine (ys4 1 (v := .ref (z)) rfl rfl rfl rfl).trans ?_
  refine (ygr 4 rfl hz.1 rfl hz.2.1).trans ?_
  refine (yalc 5 (N := n) rfl hz.2.2.2.2.1 hz.2.2.2.2.2.1 rfl).trans ?_
  refine (ys4 6 (v := .ref (z)) rfl rfl rfl rfl).trans ?_
  refine (yc1 9 rfl rfl (Nat.le_of_ble_eq_true rfl) (Or.inr (by show ztg (zwi _ _) _ = _; rw [ztg_wi]; exact hz.1)) rfl rfl (c_cod hz)).trans ?_
  refine (ys7 10 (b := 7) rfl rfl).trans ?_
  rw [show (zbin 7 (nI n) (0)) = (nI n) from sc_shr0 hz.2.2.2.2.2.2.1]
  refine (ys36 rfl rfl).trans ?_
  rfl

/-! Integer.bitCount -/
def vbc (x : Int32) : Int32 :=
  ((((((((x - ((zbin 8 (x) (1)) &&& 1431655765)) &&& 858993459) + ((zbin 8 ((x - ((zbin 8 (x) (1)) &&& 1431655765))) (2)) &&& 858993459)) + (zbin 8 ((((x - ((zbin 8 (x) (1)) &&& 1431655765)) &&& 858993459) + ((zbin 8 ((x - ((zbin 8 (x) (1)) &&& 1431655765))) (2)) &&& 858993459))) (4))) &&& 252645135) + (zbin 8 ((((((x - ((zbin 8 (x) (1)) &&& 1431655765)) &&& 858993459) + ((zbin 8 ((x - ((zbin 8 (x) (1)) &&& 1431655765))) (2)) &&& 858993459)) + (zbin 8 ((((x - ((zbin 8 (x) (1)) &&& 1431655765)) &&& 858993459) + ((zbin 8 ((x - ((zbin 8 (x) (1)) &&& 1431655765))) (2)) &&& 858993459))) (4))) &&& 252645135)) (8))) + (zbin 8 (((((((x - ((zbin 8 (x) (1)) &&& 1431655765)) &&& 858993459) + ((zbin 8 ((x - ((zbin 8 (x) (1)) &&& 1431655765))) (2)) &&& 858993459)) + (zbin 8 ((((x - ((zbin 8 (x) (1)) &&& 1431655765)) &&& 858993459) + ((zbin 8 ((x - ((zbin 8 (x) (1)) &&& 1431655765))) (2)) &&& 858993459))) (4))) &&& 252645135) + (zbin 8 ((((((x - ((zbin 8 (x) (1)) &&& 1431655765)) &&& 858993459) + ((zbin 8 ((x - ((zbin 8 (x) (1)) &&& 1431655765))) (2)) &&& 858993459)) + (zbin 8 ((((x - ((zbin 8 (x) (1)) &&& 1431655765)) &&& 858993459) + ((zbin 8 ((x - ((zbin 8 (x) (1)) &&& 1431655765))) (2)) &&& 858993459))) (4))) &&& 252645135)) (8)))) (16))) &&& 63)

theorem c_bc {d : Nat} {I : zFn} {μ : zM} {x : Int32} : zden zcds (d + 1) 224 [.int (x)] (zwi μ I) = some (0, some (.int ((vbc x))), 0, 0, zwi μ I) := by
  refine (zd_in (d := d + 0) (cd := zc224) (nL := 1) (L := [(0, .int (x))]) rfl (Nat.le_of_ble_eq_true rfl) rfl).trans ?_
  refine (ys4 1 (v := .int (x)) rfl rfl rfl rfl).trans ?_
  refine (ys4 2 (v := .int (x)) rfl rfl rfl rfl).trans ?_
  refine (ys1 3 (x := 1) rfl rfl rfl).trans ?_
  refine (ys7 4 (b := 8) rfl rfl).trans ?_
  refine (ys2 7 (x := 1431655765) rfl rfl rfl).trans ?_
  refine (ys7_3 8 rfl rfl).trans ?_
  refine (ys7_1 9 rfl rfl).trans ?_
  refine (ys5 10 (L2 := [(0, .int ((x - ((zbin 8 (x) (1)) &&& 1431655765))))]) rfl rfl rfl rfl).trans ?_
  refine (ys4 11 (v := .int ((x - ((zbin 8 (x) (1)) &&& 1431655765)))) rfl rfl rfl rfl).trans ?_
  refine (ys2 14 (x := 858993459) rfl rfl rfl).trans ?_
  refine (ys7_3 15 rfl rfl).trans ?_
  refine (ys4 16 (v := .int ((x - ((zbin 8 (x) (1)) &&& 1431655765)))) rfl rfl rfl rfl).trans ?_
  refine (ys1 17 (x := 2) rfl rfl rfl).trans ?_
  refine (ys7 18 (b := 8) rfl rfl).trans ?_
  refine (ys2 21 (x := 858993459) rfl rfl rfl).trans ?_
  refine (ys7_3 22 rfl rfl).trans ?_
  refine (ys7_0 23 rfl rfl).trans ?_
  refine (ys5 24 (L2 := [(0, .int ((((x - ((zbin 8 (x) (1)) &&& 1431655765)) &&& 858993459) + ((zbin 8 ((x - ((zbin 8 (x) (1)) &&& 1431655765))) (2)) &&& 858993459))))]) rfl rfl rfl rfl).trans ?_
  refine (ys4 25 (v := .int ((((x - ((zbin 8 (x) (1)) &&& 1431655765)) &&& 858993459) + ((zbin 8 ((x - ((zbin 8 (x) (1)) &&& 1431655765))) (2)) &&& 858993459)))) rfl rfl rfl rfl).trans ?_
  refine (ys4 26 (v := .int ((((x - ((zbin 8 (x) (1)) &&& 1431655765)) &&& 858993459) + ((zbin 8 ((x - ((zbin 8 (x) (1)) &&& 1431655765))) (2)) &&& 858993459)))) rfl rfl rfl rfl).trans ?_
  refine (ys1 27 (x := 4) rfl rfl rfl).trans ?_
  refine (ys7 28 (b := 8) rfl rfl).trans ?_
  refine (ys7_0 29 rfl rfl).trans ?_
  refine (ys2 32 (x := 252645135) rfl rfl rfl).trans ?_
  refine (ys7_3 33 rfl rfl).trans ?_
  refine (ys5 34 (L2 := [(0, .int ((((((x - ((zbin 8 (x) (1)) &&& 1431655765)) &&& 858993459) + ((zbin 8 ((x - ((zbin 8 (x) (1)) &&& 1431655765))) (2)) &&& 858993459)) + (zbin 8 ((((x - ((zbin 8 (x) (1)) &&& 1431655765)) &&& 858993459) + ((zbin 8 ((x - ((zbin 8 (x) (1)) &&& 1431655765))) (2)) &&& 858993459))) (4))) &&& 252645135)))]) rfl rfl rfl rfl).trans ?_
  refine (ys4 35 (v := .int ((((((x - ((zbin 8 (x) (1)) &&& 1431655765)) &&& 858993459) + ((zbin 8 ((x - ((zbin 8 (x) (1)) &&& 1431655765))) (2)) &&& 858993459)) + (zbin 8 ((((x - ((zbin 8 (x) (1)) &&& 1431655765)) &&& 858993459) + ((zbin 8 ((x - ((zbin 8 (x) (1)) &&& 1431655765))) (2)) &&& 858993459))) (4))) &&& 252645135))) rfl rfl rfl rfl).trans ?_
  refine (ys4 36 (v := .int ((((((x - ((zbin 8 (x) (1)) &&& 1431655765)) &&& 858993459) + ((zbin 8 ((x - ((zbin 8 (x) (1)) &&& 1431655765))) (2)) &&& 858993459)) + (zbin 8 ((((x - ((zbin 8 (x) (1)) &&& 1431655765)) &&& 858993459) + ((zbin 8 ((x - ((zbin 8 (x) (1)) &&& 1431655765))) (2)) &&& 858993459))) (4))) &&& 252645135))) rfl rfl rfl rfl).trans ?_
  refine (ys1 38 (x := 8) rfl rfl rfl).trans ?_
  refine (ys7 39 (b := 8) rfl rfl).trans ?_
  refine (ys7_0 40 rfl rfl).trans ?_
  refine (ys5 41 (L2 := [(0, .int (((((((x - ((zbin 8 (x) (1)) &&& 1431655765)) &&& 858993459) + ((zbin 8 ((x - ((zbin 8 (x) (1)) &&& 1431655765))) (2)) &&& 858993459)) + (zbin 8 ((((x - ((zbin 8 (x) (1)) &&& 1431655765)) &&& 858993459) + ((zbin 8 ((x - ((zbin 8 (x) (1)) &&& 1431655765))) (2)) &&& 858993459))) (4))) &&& 252645135) + (zbin 8 ((((((x - ((zbin 8 (x) (1)) &&& 1431655765)) &&& 858993459) + ((zbin 8 ((x - ((zbin 8 (x) (1)) &&& 1431655765))) (2)) &&& 858993459)) + (zbin 8 ((((x - ((zbin 8 (x) (1)) &&& 1431655765)) &&& 858993459) + ((zbin 8 ((x - ((zbin 8 (x) (1)) &&& 1431655765))) (2)) &&& 858993459))) (4))) &&& 252645135)) (8)))))]) rfl rfl rfl rfl).trans ?_
  refine (ys4 42 (v := .int (((((((x - ((zbin 8 (x) (1)) &&& 1431655765)) &&& 858993459) + ((zbin 8 ((x - ((zbin 8 (x) (1)) &&& 1431655765))) (2)) &&& 858993459)) + (zbin 8 ((((x - ((zbin 8 (x) (1)) &&& 1431655765)) &&& 858993459) + ((zbin 8 ((x - ((zbin 8 (x) (1)) &&& 1431655765))) (2)) &&& 858993459))) (4))) &&& 252645135) + (zbin 8 ((((((x - ((zbin 8 (x) (1)) &&& 1431655765)) &&& 858993459) + ((zbin 8 ((x - ((zbin 8 (x) (1)) &&& 1431655765))) (2)) &&& 858993459)) + (zbin 8 ((((x - ((zbin 8 (x) (1)) &&& 1431655765)) &&& 858993459) + ((zbin 8 ((x - ((zbin 8 (x) (1)) &&& 1431655765))) (2)) &&& 858993459))) (4))) &&& 252645135)) (8))))) rfl rfl rfl rfl).trans ?_
  refine (ys4 43 (v := .int (((((((x - ((zbin 8 (x) (1)) &&& 1431655765)) &&& 858993459) + ((zbin 8 ((x - ((zbin 8 (x) (1)) &&& 1431655765))) (2)) &&& 858993459)) + (zbin 8 ((((x - ((zbin 8 (x) (1)) &&& 1431655765)) &&& 858993459) + ((zbin 8 ((x - ((zbin 8 (x) (1)) &&& 1431655765))) (2)) &&& 858993459))) (4))) &&& 252645135) + (zbin 8 ((((((x - ((zbin 8 (x) (1)) &&& 1431655765)) &&& 858993459) + ((zbin 8 ((x - ((zbin 8 (x) (1)) &&& 1431655765))) (2)) &&& 858993459)) + (zbin 8 ((((x - ((zbin 8 (x) (1)) &&& 1431655765)) &&& 858993459) + ((zbin 8 ((x - ((zbin 8 (x) (1)) &&& 1431655765))) (2)) &&& 858993459))) (4))) &&& 252645135)) (8))))) rfl rfl rfl rfl).trans ?_
  refine (ys1 45 (x := 16) rfl rfl rfl).trans ?_
  refine (ys7 46 (b := 8) rfl rfl).trans ?_
  refine (ys7_0 47 rfl rfl).trans ?_
  refine (ys5 48 (L2 := [(0, .int ((((((((x - ((zbin 8 (x) (1)) &&& 1431655765)) &&& 858993459) + ((zbin 8 ((x - ((zbin 8 (x) (1)) &&& 1431655765))) (2)) &&& 858993459)) + (zbin 8 ((((x - ((zbin 8 (x) (1)) &&& 1431655765)) &&& 858993459) + ((zbin 8 ((x - ((zbin 8 (x) (1)) &&& 1431655765))) (2)) &&& 858993459))) (4))) &&& 252645135) + (zbin 8 ((((((x - ((zbin 8 (x) (1)) &&& 1431655765)) &&& 858993459) + ((zbin 8 ((x - ((zbin 8 (x) (1)) &&& 1431655765))) (2)) &&& 858993459)) + (zbin 8 ((((x - ((zbin 8 (x) (1)) &&& 1431655765)) &&& 858993459) + ((zbin 8 ((x - ((zbin 8 (x) (1)) &&& 1431655765))) (2)) &&& 858993459))) (4))) &&& 252645135)) (8))) + (zbin 8 (((((((x - ((zbin 8 (x) (1)) &&& 1431655765)) &&& 858993459) + ((zbin 8 ((x - ((zbin 8 (x) (1)) &&& 1431655765))) (2)) &&& 858993459)) + (zbin 8 ((((x - ((zbin 8 (x) (1)) &&& 1431655765)) &&& 858993459) + ((zbin 8 ((x - ((zbin 8 (x) (1)) &&& 1431655765))) (2)) &&& 858993459))) (4))) &&& 252645135) + (zbin 8 ((((((x - ((zbin 8 (x) (1)) &&& 1431655765)) &&& 858993459) + ((zbin 8 ((x - ((zbin 8 (x) (1)) &&& 1431655765))) (2)) &&& 858993459)) + (zbin 8 ((((x - ((zbin 8 (x) (1)) &&& 1431655765)) &&& 858993459) + ((zbin 8 ((x - ((zbin 8 (x) (1)) &&& 1431655765))) (2)) &&& 858993459))) (4))) &&& 252645135)) (8)))) (16)))))]) rfl rfl rfl rfl).trans ?_
  refine (ys4 49 (v := .int ((((((((x - ((zbin 8 (x) (1)) &&& 1431655765)) &&& 858993459) + ((zbin 8 ((x - ((zbin 8 (x) (1)) &&& 1431655765))) (2)) &&& 858993459)) + (zbin 8 ((((x - ((zbin 8 (x) (1)) &&& 1431655765)) &&& 858993459) + ((zbin 8 ((x - ((zbin 8 (x) (1)) &&& 1431655765))) (2)) &&& 858993459))) (4))) &&& 252645135) + (zbin 8 ((((((x - ((zbin 8 (x) (1)) &&& 1431655765)) &&& 858993459) + ((zbin 8 ((x - ((zbin 8 (x) (1)) &&& 1431655765))) (2)) &&& 858993459)) + (zbin 8 ((((x - ((zbin 8 (x) (1)) &&& 1431655765)) &&& 858993459) + ((zbin 8 ((x - ((zbin 8 (x) (1)) &&& 1431655765))) (2)) &&& 858993459))) (4))) &&& 252645135)) (8))) + (zbin 8 (((((((x - ((zbin 8 (x) (1)) &&& 1431655765)) &&& 858993459) + ((zbin 8 ((x - ((zbin 8 (x) (1)) &&& 1431655765))) (2)) &&& 858993459)) + (zbin 8 ((((x - ((zbin 8 (x) (1)) &&& 1431655765)) &&& 858993459) + ((zbin 8 ((x - ((zbin 8 (x) (1)) &&& 1431655765))) (2)) &&& 858993459))) (4))) &&& 252645135) + (zbin 8 ((((((x - ((zbin 8 (x) (1)) &&& 1431655765)) &&& 858993459) + ((zbin 8 ((x - ((zbin 8 (x) (1)) &&& 1431655765))) (2)) &&& 858993459)) + (zbin 8 ((((x - ((zbin 8 (x) (1)) &&& 1431655765)) &&& 858993459) + ((zbin 8 ((x - ((zbin 8 (x) (1)) &&& 1431655765))) (2)) &&& 858993459))) (4))) &&& 252645135)) (8)))) (16))))) rfl rfl rfl rfl).trans ?_
  refine (ys1 51 (x := 63) rfl rfl rfl).trans ?_
  refine (ys7_3 52 rfl rfl).trans ?_
  refine (ys36 rfl rfl).trans ?_
  rw [show vbc x = ((((((((x - ((zbin 8 (x) (1)) &&& 1431655765)) &&& 858993459) + ((zbin 8 ((x - ((zbin 8 (x) (1)) &&& 1431655765))) (2)) &&& 858993459)) + (zbin 8 ((((x - ((zbin 8 (x) (1)) &&& 1431655765)) &&& 858993459) + ((zbin 8 ((x - ((zbin 8 (x) (1)) &&& 1431655765))) (2)) &&& 858993459))) (4))) &&& 252645135) + (zbin 8 ((((((x - ((zbin 8 (x) (1)) &&& 1431655765)) &&& 858993459) + ((zbin 8 ((x - ((zbin 8 (x) (1)) &&& 1431655765))) (2)) &&& 858993459)) + (zbin 8 ((((x - ((zbin 8 (x) (1)) &&& 1431655765)) &&& 858993459) + ((zbin 8 ((x - ((zbin 8 (x) (1)) &&& 1431655765))) (2)) &&& 858993459))) (4))) &&& 252645135)) (8))) + (zbin 8 (((((((x - ((zbin 8 (x) (1)) &&& 1431655765)) &&& 858993459) + ((zbin 8 ((x - ((zbin 8 (x) (1)) &&& 1431655765))) (2)) &&& 858993459)) + (zbin 8 ((((x - ((zbin 8 (x) (1)) &&& 1431655765)) &&& 858993459) + ((zbin 8 ((x - ((zbin 8 (x) (1)) &&& 1431655765))) (2)) &&& 858993459))) (4))) &&& 252645135) + (zbin 8 ((((((x - ((zbin 8 (x) (1)) &&& 1431655765)) &&& 858993459) + ((zbin 8 ((x - ((zbin 8 (x) (1)) &&& 1431655765))) (2)) &&& 858993459)) + (zbin 8 ((((x - ((zbin 8 (x) (1)) &&& 1431655765)) &&& 858993459) + ((zbin 8 ((x - ((zbin 8 (x) (1)) &&& 1431655765))) (2)) &&& 858993459))) (4))) &&& 252645135)) (8)))) (16))) &&& 63) from by unfold vbc; (try dsimp only); first | done | rfl]; (first | done | rfl)

