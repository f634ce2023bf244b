/-! LEAVES OF A WORLD: their specifications, functions of V. -/
def vcag (V : zV) (p : Nat) (x : Int32) : Int32 := if V 2 p 0 = 0 then if V 2 p 2 = x then 1 else 0 else 0
def varr (V : zV) (k : Nat) : Int32 := if V 4 k 2 < V 4 k 0 then 0 else 1
def vsize (V : zV) (k : Nat) (x : Int32) : Int32 := if x < 0 then 0 else if nI 6 ≤ x then 0 else V 7 k (zsf x 6)
def vcar (V : zV) (k : Nat) (x y : Int32) : Int32 := V 8 k (zsf (x * 20 + y) 120)
def vbit (x : Int32) : Int32 := if x < 0 then 0 else if 20 ≤ x then 0 else zbin 6 1 x
def vxo (V : zV) (p : Nat) : Int32 := if V 2 p 0 = 0 then V 1 (zsf (V 2 p 2) 6) 1 else V 2 p 5
def vyo (V : zV) (p : Nat) : Int32 := if V 2 p 0 = 0 then V 1 (zsf (V 2 p 2) 6) 2 else V 2 p 6
def vdfh (V : zV) (p : Nat) : Int32 := zdst (vxo V p) (vyo V p) (V 1 (zsf (V 2 p 1) 6) 1) (V 1 (zsf (V 2 p 1) 6) 2)
def vcso (V : zV) (k : Nat) (x : Int32) : Int32 := if vcag V (zsf x 20) (V 4 k 1) = 0 then 0 else if (V 4 k 3 &&& vbit x) = 0 then 1 else 0
def vset (V : zV) (p f h : Nat) : zV :=
  let V1 := zvu V 2 p 0 1
  let V2 := zvu V1 2 p 5 (V1 1 f 1)
  let V3 := zvu V2 2 p 6 (V2 1 f 2)
  let V4 := zvu V3 2 p 7 (V3 1 h 1)
  let V5 := zvu V4 2 p 8 (V4 1 h 2)
  zvu V5 2 p 9 0
def vgo (V : zV) (k : Nat) (x y : Int32) : zV :=
  let V1 := zvu V 4 k 1 x
  let V2 := zvu V1 4 k 2 (V1 4 k 2 + 1)
  let V3 := zvu V2 4 k 3 0
  if varr V3 k = 0 then V3 else zvu V3 4 k 5 y
def vhas (V : zV) (f : Nat) (x : Int32) : Int32 := if x < 0 then 0 else if V 0 0 f ≤ x then 0 else 1

theorem c_has0 {d : Nat} {w : Nat} {V : zV} {J : Nat → Nat → Int32} {μ : zM} (hW : zWS μ w) {x : Int32} : zden zcds (d + 1) 65 [.ref (w), .int (x)] (zwi μ (zpc J w V)) = some (0, some (.int (vhas V 0 x)), 0, 0, zwi μ (zpc J w V)) := by
  refine (zd_in (d := d + 0) (cd := zc65) (nL := 2) (L := [(0, .ref (w)), (1, .int (x))]) rfl (Nat.le_of_ble_eq_true rfl) rfl).trans ?_
  refine (ys4 1 (v := .int (x)) rfl rfl rfl rfl).trans ?_
  refine ys17_2 4 rfl rfl (fun h1 => ?_) (fun h1 => ?_)
  · refine (ys1 17 (x := 0) rfl rfl rfl).trans ?_
    refine (ys36 rfl (by decide)).trans ?_
    unfold vhas; (try dsimp only); rw [if_pos h1]
  · refine (ys4 5 (v := .int (x)) rfl rfl rfl rfl).trans ?_
    refine (ys4 6 (v := .ref (w)) rfl rfl rfl rfl).trans ?_
    refine (yg 9 rfl (zWS.tag hW (o := 0) (by decide) rfl) (zWS.ni hW (o := 0) (by decide) rfl) (by decide) rfl (zpc_at (o := 0) (q := 0) (i := 0) rfl (by decide))).trans ?_
    refine ys18_3 12 rfl rfl (fun h9 => ?_) (fun h9 => ?_)
    · refine (ys1 17 (x := 0) rfl rfl rfl).trans ?_
      refine (ys36 rfl (by decide)).trans ?_
      unfold vhas; (try dsimp only); rw [if_neg h1, if_pos h9]
    · refine (ys1 13 (x := 1) rfl rfl rfl).trans ?_
      refine (ys19 rfl).trans ?_
      refine (ys36 rfl (by decide)).trans ?_
      unfold vhas; (try dsimp only); rw [if_neg h1, if_neg h9]

theorem c_has1 {d : Nat} {w : Nat} {V : zV} {J : Nat → Nat → Int32} {μ : zM} (hW : zWS μ w) {x : Int32} : zden zcds (d + 1) 66 [.ref (w), .int (x)] (zwi μ (zpc J w V)) = some (0, some (.int (vhas V 1 x)), 0, 0, zwi μ (zpc J w V)) := by
  refine (zd_in (d := d + 0) (cd := zc66) (nL := 2) (L := [(0, .ref (w)), (1, .int (x))]) rfl (Nat.le_of_ble_eq_true rfl) rfl).trans ?_
  refine (ys4 1 (v := .int (x)) rfl rfl rfl rfl).trans ?_
  refine ys17_2 4 rfl rfl (fun h1 => ?_) (fun h1 => ?_)
  · refine (ys1 17 (x := 0) rfl rfl rfl).trans ?_
    refine (ys36 rfl (by decide)).trans ?_
    unfold vhas; (try dsimp only); rw [if_pos h1]
  · refine (ys4 5 (v := .int (x)) rfl rfl rfl rfl).trans ?_
    refine (ys4 6 (v := .ref (w)) rfl rfl rfl rfl).trans ?_
    refine (yg 9 rfl (zWS.tag hW (o := 0) (by decide) rfl) (zWS.ni hW (o := 0) (by decide) rfl) (by decide) rfl (zpc_at (o := 0) (q := 0) (i := 0) rfl (by decide))).trans ?_
    refine ys18_3 12 rfl rfl (fun h9 => ?_) (fun h9 => ?_)
    · refine (ys1 17 (x := 0) rfl rfl rfl).trans ?_
      refine (ys36 rfl (by decide)).trans ?_
      unfold vhas; (try dsimp only); rw [if_neg h1, if_pos h9]
    · refine (ys1 13 (x := 1) rfl rfl rfl).trans ?_
      refine (ys19 rfl).trans ?_
      refine (ys36 rfl (by decide)).trans ?_
      unfold vhas; (try dsimp only); rw [if_neg h1, if_neg h9]

theorem c_has2 {d : Nat} {w : Nat} {V : zV} {J : Nat → Nat → Int32} {μ : zM} (hW : zWS μ w) {x : Int32} : zden zcds (d + 1) 67 [.ref (w), .int (x)] (zwi μ (zpc J w V)) = some (0, some (.int (vhas V 2 x)), 0, 0, zwi μ (zpc J w V)) := by
  refine (zd_in (d := d + 0) (cd := zc67) (nL := 2) (L := [(0, .ref (w)), (1, .int (x))]) rfl (Nat.le_of_ble_eq_true rfl) rfl).trans ?_
  refine (ys4 1 (v := .int (x)) rfl rfl rfl rfl).trans ?_
  refine ys17_2 4 rfl rfl (fun h1 => ?_) (fun h1 => ?_)
  · refine (ys1 17 (x := 0) rfl rfl rfl).trans ?_
    refine (ys36 rfl (by decide)).trans ?_
    unfold vhas; (try dsimp only); rw [if_pos h1]
  · refine (ys4 5 (v := .int (x)) rfl rfl rfl rfl).trans ?_
    refine (ys4 6 (v := .ref (w)) rfl rfl rfl rfl).trans ?_
    refine (yg 9 rfl (zWS.tag hW (o := 0) (by decide) rfl) (zWS.ni hW (o := 0) (by decide) rfl) (by decide) rfl (zpc_at (o := 0) (q := 0) (i := 0) rfl (by decide))).trans ?_
    refine ys18_3 12 rfl rfl (fun h9 => ?_) (fun h9 => ?_)
    · refine (ys1 17 (x := 0) rfl rfl rfl).trans ?_
      refine (ys36 rfl (by decide)).trans ?_
      unfold vhas; (try dsimp only); rw [if_neg h1, if_pos h9]
    · refine (ys1 13 (x := 1) rfl rfl rfl).trans ?_
      refine (ys19 rfl).trans ?_
      refine (ys36 rfl (by decide)).trans ?_
      unfold vhas; (try dsimp only); rw [if_neg h1, if_neg h9]

theorem c_has3 {d : Nat} {w : Nat} {V : zV} {J : Nat → Nat → Int32} {μ : zM} (hW : zWS μ w) {x : Int32} : zden zcds (d + 1) 68 [.ref (w), .int (x)] (zwi μ (zpc J w V)) = some (0, some (.int (vhas V 3 x)), 0, 0, zwi μ (zpc J w V)) := by
  refine (zd_in (d := d + 0) (cd := zc68) (nL := 2) (L := [(0, .ref (w)), (1, .int (x))]) rfl (Nat.le_of_ble_eq_true rfl) rfl).trans ?_
  refine (ys4 1 (v := .int (x)) rfl rfl rfl rfl).trans ?_
  refine ys17_2 4 rfl rfl (fun h1 => ?_) (fun h1 => ?_)
  · refine (ys1 17 (x := 0) rfl rfl rfl).trans ?_
    refine (ys36 rfl (by decide)).trans ?_
    unfold vhas; (try dsimp only); rw [if_pos h1]
  · refine (ys4 5 (v := .int (x)) rfl rfl rfl rfl).trans ?_
    refine (ys4 6 (v := .ref (w)) rfl rfl rfl rfl).trans ?_
    refine (yg 9 rfl (zWS.tag hW (o := 0) (by decide) rfl) (zWS.ni hW (o := 0) (by decide) rfl) (by decide) rfl (zpc_at (o := 0) (q := 0) (i := 0) rfl (by decide))).trans ?_
    refine ys18_3 12 rfl rfl (fun h9 => ?_) (fun h9 => ?_)
    · refine (ys1 17 (x := 0) rfl rfl rfl).trans ?_
      refine (ys36 rfl (by decide)).trans ?_
      unfold vhas; (try dsimp only); rw [if_neg h1, if_pos h9]
    · refine (ys1 13 (x := 1) rfl rfl rfl).trans ?_
      refine (ys19 rfl).trans ?_
      refine (ys36 rfl (by decide)).trans ?_
      unfold vhas; (try dsimp only); rw [if_neg h1, if_neg h9]

theorem c_at1 {d : Nat} {w : Nat} {J : Nat → Nat → Int32} {μ : zM} (hW : zWS μ w) {x : Int32} : zden zcds (d + 2) 69 [.ref (w), .int (x)] (zwi μ J) = some (0, some (.ref (w + (5 + 3 * (zsf x 6)))), 0, 0, zwi μ J) := by
  refine (zd_in (d := d + 1) (cd := zc69) (nL := 2) (L := [(0, .ref (w)), (1, .int (x))]) rfl (Nat.le_of_ble_eq_true rfl) rfl).trans ?_
  refine (ys4 1 (v := .ref (w)) rfl rfl rfl rfl).trans ?_
  refine (ygr 4 rfl (zWS.tag hW (o := 0) (by decide) rfl) rfl (zWS.gr hW (o := 0) (k := 0) (by decide) rfl)).trans ?_
  refine (ys4 5 (v := .int (x)) rfl rfl rfl rfl).trans ?_
  refine (ys4 6 (v := .ref (w)) rfl rfl rfl rfl).trans ?_
  refine (ygr 9 rfl (zWS.tag hW (o := 0) (by decide) rfl) rfl (zWS.gr hW (o := 0) (k := 0) (by decide) rfl)).trans ?_
  refine (yar 10 rfl (zWS.tag hW (o := 1) (by decide) rfl) (by decide) (zWS.nr hW (o := 1) (by decide) rfl) rfl).trans ?_
  refine (yc2 13 rfl rfl (Nat.le_of_ble_eq_true rfl) (Or.inl rfl) rfl rfl (c_safe (x := x) (n := 6) (by decide))).trans ?_
  refine (yr 14 (j := (zsf x 6)) rfl (zWS.tag hW (o := 1) (by decide) rfl) (by decide) (zWS.nr hW (o := 1) (by decide) rfl) (zsf_lt (i := x) (n := 6) (by decide) (by decide)) (by decide) rfl (zWS.gr hW (o := 1) (by decide) (zwR_1 _ (zsf_lt (i := x) (n := 6) (by decide) (by decide))))).trans ?_
  refine (ys36 rfl rfl).trans ?_
  rfl

theorem c_at2 {d : Nat} {w : Nat} {J : Nat → Nat → Int32} {μ : zM} (hW : zWS μ w) {x : Int32} : zden zcds (d + 2) 70 [.ref (w), .int (x)] (zwi μ J) = some (0, some (.ref (w + (23 + (zsf x 20)))), 0, 0, zwi μ J) := by
  refine (zd_in (d := d + 1) (cd := zc70) (nL := 2) (L := [(0, .ref (w)), (1, .int (x))]) rfl (Nat.le_of_ble_eq_true rfl) rfl).trans ?_
  refine (ys4 1 (v := .ref (w)) rfl rfl rfl rfl).trans ?_
  refine (ygr 4 rfl (zWS.tag hW (o := 0) (by decide) rfl) rfl (zWS.gr hW (o := 0) (k := 1) (by decide) rfl)).trans ?_
  refine (ys4 5 (v := .int (x)) rfl rfl rfl rfl).trans ?_
  refine (ys4 6 (v := .ref (w)) rfl rfl rfl rfl).trans ?_
  refine (ygr 9 rfl (zWS.tag hW (o := 0) (by decide) rfl) rfl (zWS.gr hW (o := 0) (k := 1) (by decide) rfl)).trans ?_
  refine (yar 10 rfl (zWS.tag hW (o := 2) (by decide) rfl) (by decide) (zWS.nr hW (o := 2) (by decide) rfl) rfl).trans ?_
  refine (yc2 13 rfl rfl (Nat.le_of_ble_eq_true rfl) (Or.inl rfl) rfl rfl (c_safe (x := x) (n := 20) (by decide))).trans ?_
  refine (yr 14 (j := (zsf x 20)) rfl (zWS.tag hW (o := 2) (by decide) rfl) (by decide) (zWS.nr hW (o := 2) (by decide) rfl) (zsf_lt (i := x) (n := 20) (by decide) (by decide)) (by decide) rfl (zWS.gr hW (o := 2) (by decide) (zwR_2 _ (zsf_lt (i := x) (n := 20) (by decide) (by decide))))).trans ?_
  refine (ys36 rfl rfl).trans ?_
  rfl

theorem c_at3 {d : Nat} {w : Nat} {J : Nat → Nat → Int32} {μ : zM} (hW : zWS μ w) {x : Int32} : zden zcds (d + 2) 71 [.ref (w), .int (x)] (zwi μ J) = some (0, some (.ref (w + (43 + (zsf x 6)))), 0, 0, zwi μ J) := by
  refine (zd_in (d := d + 1) (cd := zc71) (nL := 2) (L := [(0, .ref (w)), (1, .int (x))]) rfl (Nat.le_of_ble_eq_true rfl) rfl).trans ?_
  refine (ys4 1 (v := .ref (w)) rfl rfl rfl rfl).trans ?_
  refine (ygr 4 rfl (zWS.tag hW (o := 0) (by decide) rfl) rfl (zWS.gr hW (o := 0) (k := 2) (by decide) rfl)).trans ?_
  refine (ys4 5 (v := .int (x)) rfl rfl rfl rfl).trans ?_
  refine (ys4 6 (v := .ref (w)) rfl rfl rfl rfl).trans ?_
  refine (ygr 9 rfl (zWS.tag hW (o := 0) (by decide) rfl) rfl (zWS.gr hW (o := 0) (k := 2) (by decide) rfl)).trans ?_
  refine (yar 10 rfl (zWS.tag hW (o := 3) (by decide) rfl) (by decide) (zWS.nr hW (o := 3) (by decide) rfl) rfl).trans ?_
  refine (yc2 13 rfl rfl (Nat.le_of_ble_eq_true rfl) (Or.inl rfl) rfl rfl (c_safe (x := x) (n := 6) (by decide))).trans ?_
  refine (yr 14 (j := (zsf x 6)) rfl (zWS.tag hW (o := 3) (by decide) rfl) (by decide) (zWS.nr hW (o := 3) (by decide) rfl) (zsf_lt (i := x) (n := 6) (by decide) (by decide)) (by decide) rfl (zWS.gr hW (o := 3) (by decide) (zwR_3 _ (zsf_lt (i := x) (n := 6) (by decide) (by decide))))).trans ?_
  refine (ys36 rfl rfl).trans ?_
  rfl

theorem c_at4 {d : Nat} {w : Nat} {J : Nat → Nat → Int32} {μ : zM} (hW : zWS μ w) {x : Int32} : zden zcds (d + 2) 72 [.ref (w), .int (x)] (zwi μ J) = some (0, some (.ref (w + (49 + 3 * (zsf x 12)))), 0, 0, zwi μ J) := by
  refine (zd_in (d := d + 1) (cd := zc72) (nL := 2) (L := [(0, .ref (w)), (1, .int (x))]) rfl (Nat.le_of_ble_eq_true rfl) rfl).trans ?_
  refine (ys4 1 (v := .ref (w)) rfl rfl rfl rfl).trans ?_
  refine (ygr 4 rfl (zWS.tag hW (o := 0) (by decide) rfl) rfl (zWS.gr hW (o := 0) (k := 3) (by decide) rfl)).trans ?_
  refine (ys4 5 (v := .int (x)) rfl rfl rfl rfl).trans ?_
  refine (ys4 6 (v := .ref (w)) rfl rfl rfl rfl).trans ?_
  refine (ygr 9 rfl (zWS.tag hW (o := 0) (by decide) rfl) rfl (zWS.gr hW (o := 0) (k := 3) (by decide) rfl)).trans ?_
  refine (yar 10 rfl (zWS.tag hW (o := 4) (by decide) rfl) (by decide) (zWS.nr hW (o := 4) (by decide) rfl) rfl).trans ?_
  refine (yc2 13 rfl rfl (Nat.le_of_ble_eq_true rfl) (Or.inl rfl) rfl rfl (c_safe (x := x) (n := 12) (by decide))).trans ?_
  refine (yr 14 (j := (zsf x 12)) rfl (zWS.tag hW (o := 4) (by decide) rfl) (by decide) (zWS.nr hW (o := 4) (by decide) rfl) (zsf_lt (i := x) (n := 12) (by decide) (by decide)) (by decide) rfl (zWS.gr hW (o := 4) (by decide) (zwR_4 _ (zsf_lt (i := x) (n := 12) (by decide) (by decide))))).trans ?_
  refine (ys36 rfl rfl).trans ?_
  rfl

theorem c_cag {d : Nat} {w : Nat} {V : zV} {J : Nat → Nat → Int32} {μ : zM} (hW : zWS μ w) {p : Nat} (hp : p < 20) {x : Int32} : zden zcds (d + 1) 106 [.ref (w + (23 + p)), .int (x)] (zwi μ (zpc J w V)) = some (0, some (.int (vcag V p x)), 0, 0, zwi μ (zpc J w V)) := by
  refine (zd_in (d := d + 0) (cd := zc106) (nL := 2) (L := [(0, .ref (w + (23 + p))), (1, .int (x))]) rfl (Nat.le_of_ble_eq_true rfl) rfl).trans ?_
  refine (ys4 1 (v := .ref (w + (23 + p))) rfl rfl rfl rfl).trans ?_
  refine (yg 4 rfl (zWS.tag hW (o := 23 + p) (zwT_2 _ hp).2.2 (zwT_2 _ hp).1) (zWS.ni hW (o := 23 + p) (zwT_2 _ hp).2.2 (zwT_2 _ hp).2.1) (by decide) rfl (zpc_at (o := 23 + p) (zpk_2 _ hp) (zwT_2 _ hp).2.2)).trans ?_
  refine ys17_1 7 rfl rfl (fun h4 => ?_) (fun h4 => ?_)
  · refine (ys4 8 (v := .ref (w + (23 + p))) rfl rfl rfl rfl).trans ?_
    refine (yg 11 rfl (zWS.tag hW (o := 23 + p) (zwT_2 _ hp).2.2 (zwT_2 _ hp).1) (zWS.ni hW (o := 23 + p) (zwT_2 _ hp).2.2 (zwT_2 _ hp).2.1) (by decide) rfl (zpc_at (o := 23 + p) (zpk_2 _ hp) (zwT_2 _ hp).2.2)).trans ?_
    refine (ys4 12 (v := .int (x)) rfl rfl rfl rfl).trans ?_
    refine ys18_1 15 rfl rfl (fun h12 => ?_) (fun h12 => ?_)
    · refine (ys1 16 (x := 1) rfl rfl rfl).trans ?_
      refine (ys19 rfl).trans ?_
      refine (ys36 rfl (by decide)).trans ?_
      unfold vcag; (try dsimp only); rw [if_pos h4, if_pos h12]
    · refine (ys1 20 (x := 0) rfl rfl rfl).trans ?_
      refine (ys36 rfl (by decide)).trans ?_
      unfold vcag; (try dsimp only); rw [if_pos h4, if_neg h12]
  · refine (ys1 20 (x := 0) rfl rfl rfl).trans ?_
    refine (ys36 rfl (by decide)).trans ?_
    unfold vcag; (try dsimp only); rw [if_neg h4]

theorem c_arr {d : Nat} {w : Nat} {V : zV} {J : Nat → Nat → Int32} {μ : zM} (hW : zWS μ w) {k : Nat} (hk : k < 12) : zden zcds (d + 1) 116 [.ref (w + (49 + 3 * k))] (zwi μ (zpc J w V)) = some (0, some (.int (varr V k)), 0, 0, zwi μ (zpc J w V)) := by
  refine (zd_in (d := d + 0) (cd := zc116) (nL := 1) (L := [(0, .ref (w + (49 + 3 * k)))]) rfl (Nat.le_of_ble_eq_true rfl) rfl).trans ?_
  refine (ys4 1 (v := .ref (w + (49 + 3 * k))) rfl rfl rfl rfl).trans ?_
  refine (yg 4 rfl (zWS.tag hW (o := 49 + 3 * k) (zwT_4 _ hk).2.2.2.2 (zwT_4 _ hk).1) (zWS.ni hW (o := 49 + 3 * k) (zwT_4 _ hk).2.2.2.2 (zwT_4 _ hk).2.1) (by decide) rfl (zpc_at (o := 49 + 3 * k) (zpk_4 _ hk) (zwT_4 _ hk).2.2.2.2)).trans ?_
  refine (ys4 5 (v := .ref (w + (49 + 3 * k))) rfl rfl rfl rfl).trans ?_
  refine (yg 8 rfl (zWS.tag hW (o := 49 + 3 * k) (zwT_4 _ hk).2.2.2.2 (zwT_4 _ hk).1) (zWS.ni hW (o := 49 + 3 * k) (zwT_4 _ hk).2.2.2.2 (zwT_4 _ hk).2.1) (by decide) rfl (zpc_at (o := 49 + 3 * k) (zpk_4 _ hk) (zwT_4 _ hk).2.2.2.2)).trans ?_
  refine ys18_2 11 rfl rfl (fun h8 => ?_) (fun h8 => ?_)
  · refine (ys1 16 (x := 0) rfl rfl rfl).trans ?_
    refine (ys36 rfl (by decide)).trans ?_
    unfold varr; (try dsimp only); rw [if_pos h8]
  · refine (ys1 12 (x := 1) rfl rfl rfl).trans ?_
    refine (ys19 rfl).trans ?_
    refine (ys36 rfl (by decide)).trans ?_
    unfold varr; (try dsimp only); rw [if_neg h8]

theorem c_size {d : Nat} {w : Nat} {V : zV} {J : Nat → Nat → Int32} {μ : zM} (hW : zWS μ w) {k : Nat} (hk : k < 12) {x : Int32} : zden zcds (d + 1) 120 [.ref (w + (49 + 3 * k)), .int (x)] (zwi μ (zpc J w V)) = some (0, some (.int (vsize V k x)), 0, 0, zwi μ (zpc J w V)) := by
  refine (zd_in (d := d + 0) (cd := zc120) (nL := 2) (L := [(0, .ref (w + (49 + 3 * k))), (1, .int (x))]) rfl (Nat.le_of_ble_eq_true rfl) rfl).trans ?_
  refine (ys4 1 (v := .int (x)) rfl rfl rfl rfl).trans ?_
  refine ys17_2 4 rfl rfl (fun h1 => ?_) (fun h1 => ?_)
  · refine (ys1 23 (x := 0) rfl rfl rfl).trans ?_
    refine (ys36 rfl rfl).trans ?_
    unfold vsize; (try dsimp only); rw [if_pos h1]
  · refine (ys4 5 (v := .int (x)) rfl rfl rfl rfl).trans ?_
    refine (ys4 6 (v := .ref (w + (49 + 3 * k))) rfl rfl rfl rfl).trans ?_
    refine (ygr 9 rfl (zWS.tag hW (o := 49 + 3 * k) (zwT_4 _ hk).2.2.2.2 (zwT_4 _ hk).1) rfl (zWS.gr hW (o := 49 + 3 * k) (k := 0) (zwT_4 _ hk).2.2.2.2 (zwT_4 _ hk).2.2.1)).trans ?_
    refine (yal 10 rfl (zWS.tag hW (o := 50 + 3 * k) (zwT_7 _ hk).2.2 (zwT_7 _ hk).1) (zWS.ni hW (o := 50 + 3 * k) (zwT_7 _ hk).2.2 (zwT_7 _ hk).2.1) rfl).trans ?_
    refine ys18_3 13 rfl rfl (fun h10 => ?_) (fun h10 => ?_)
    · refine (ys1 23 (x := 0) rfl rfl rfl).trans ?_
      refine (ys36 rfl rfl).trans ?_
      unfold vsize; (try dsimp only); rw [if_neg h1, if_pos h10]
    · refine (ys4 14 (v := .ref (w + (49 + 3 * k))) rfl rfl rfl rfl).trans ?_
      refine (ygr 17 rfl (zWS.tag hW (o := 49 + 3 * k) (zwT_4 _ hk).2.2.2.2 (zwT_4 _ hk).1) rfl (zWS.gr hW (o := 49 + 3 * k) (k := 0) (zwT_4 _ hk).2.2.2.2 (zwT_4 _ hk).2.2.1)).trans ?_
      refine (ys4 18 (v := .int (x)) rfl rfl rfl rfl).trans ?_
      refine (ylx 19 (zsf_i (by decide) (i_le h1) (i_lt h10)) (j := zsf x 6) rfl (Or.inl (zWS.tag hW (o := 50 + 3 * k) (zwT_7 _ hk).2.2 (zwT_7 _ hk).1)) (zWS.ni hW (o := 50 + 3 * k) (zwT_7 _ hk).2.2 (zwT_7 _ hk).2.1) (zsf_lt (by decide) (by decide)) (by decide) rfl (zpc_at (o := 50 + 3 * k) (zpk_7 _ hk) (zwT_7 _ hk).2.2)).trans ?_
      refine (ys19 rfl).trans ?_
      refine (ys36 rfl rfl).trans ?_
      unfold vsize; (try dsimp only); rw [if_neg h1, if_neg h10]

theorem c_car {d : Nat} {w : Nat} {V : zV} {J : Nat → Nat → Int32} {μ : zM} (hW : zWS μ w) {k : Nat} (hk : k < 12) {x y : Int32} : zden zcds (d + 2) 121 [.ref (w + (49 + 3 * k)), .int (x), .int (y)] (zwi μ (zpc J w V)) = some (0, some (.int (vcar V k x y)), 0, 0, zwi μ (zpc J w V)) := by
  refine (zd_in (d := d + 1) (cd := zc121) (nL := 3) (L := [(0, .ref (w + (49 + 3 * k))), (1, .int (x)), (2, .int (y))]) rfl (Nat.le_of_ble_eq_true rfl) rfl).trans ?_
  refine (ys4 1 (v := .ref (w + (49 + 3 * k))) rfl rfl rfl rfl).trans ?_
  refine (ygr 4 rfl (zWS.tag hW (o := 49 + 3 * k) (zwT_4 _ hk).2.2.2.2 (zwT_4 _ hk).1) rfl (zWS.gr hW (o := 49 + 3 * k) (k := 1) (zwT_4 _ hk).2.2.2.2 (zwT_4 _ hk).2.2.2.1)).trans ?_
  refine (ys4 5 (v := .int (x)) rfl rfl rfl rfl).trans ?_
  refine (ys1 7 (x := 20) rfl rfl rfl).trans ?_
  refine (ys7_2 8 rfl rfl).trans ?_
  refine (ys4 9 (v := .int (y)) rfl rfl rfl rfl).trans ?_
  refine (ys7_0 10 rfl rfl).trans ?_
  refine (ys4 11 (v := .ref (w + (49 + 3 * k))) rfl rfl rfl rfl).trans ?_
  refine (ygr 14 rfl (zWS.tag hW (o := 49 + 3 * k) (zwT_4 _ hk).2.2.2.2 (zwT_4 _ hk).1) rfl (zWS.gr hW (o := 49 + 3 * k) (k := 1) (zwT_4 _ hk).2.2.2.2 (zwT_4 _ hk).2.2.2.1)).trans ?_
  refine (yal 15 rfl (zWS.tag hW (o := 51 + 3 * k) (zwT_8 _ hk).2.2 (zwT_8 _ hk).1) (zWS.ni hW (o := 51 + 3 * k) (zwT_8 _ hk).2.2 (zwT_8 _ hk).2.1) rfl).trans ?_
  refine (yc2 18 rfl rfl (Nat.le_of_ble_eq_true rfl) (Or.inl rfl) rfl rfl (c_safe (x := ((x * 20) + y)) (n := 120) (by decide))).trans ?_
  refine (yl 19 (j := zsf ((x * 20) + y) 120) rfl (Or.inl (zWS.tag hW (o := 51 + 3 * k) (zwT_8 _ hk).2.2 (zwT_8 _ hk).1)) (zWS.ni hW (o := 51 + 3 * k) (zwT_8 _ hk).2.2 (zwT_8 _ hk).2.1) (zsf_lt (by decide) (by decide)) (by decide) rfl (zpc_at (o := 51 + 3 * k) (zpk_8 _ hk) (zwT_8 _ hk).2.2)).trans ?_
  refine (ys36 rfl rfl).trans ?_
  rfl

theorem c_bit {d : Nat} {x : Int32} {μ : zM} : zden zcds (d + 1) 27 [.int (x)] (μ) = some (0, some (.int (vbit x)), 0, 0, μ) := by
  refine (zd_in (d := d + 0) (cd := zc27) (nL := 1) (L := [(0, .int (x))]) rfl (Nat.le_of_ble_eq_true rfl) rfl).trans ?_
  refine (ys4 1 (v := .int (x)) rfl rfl rfl rfl).trans ?_
  refine ys17_2 4 rfl rfl (fun h1 => ?_) (fun h1 => ?_)
  · refine (ys1 17 (x := 0) rfl rfl rfl).trans ?_
    refine (ys36 rfl rfl).trans ?_
    unfold vbit; (try dsimp only); rw [if_pos h1]
  · refine (ys4 5 (v := .int (x)) rfl rfl rfl rfl).trans ?_
    refine (ys1 7 (x := 20) rfl rfl rfl).trans ?_
    refine ys18_3 10 rfl rfl (fun h7 => ?_) (fun h7 => ?_)
    · refine (ys1 17 (x := 0) rfl rfl rfl).trans ?_
      refine (ys36 rfl rfl).trans ?_
      unfold vbit; (try dsimp only); rw [if_neg h1, if_pos h7]
    · refine (ys1 11 (x := 1) rfl rfl rfl).trans ?_
      refine (ys4 12 (v := .int (x)) rfl rfl rfl rfl).trans ?_
      refine (ys7 13 (b := 6) rfl rfl).trans ?_
      refine (ys19 rfl).trans ?_
      refine (ys36 rfl rfl).trans ?_
      unfold vbit; (try dsimp only); rw [if_neg h1, if_neg h7]

theorem c_set {d : Nat} {w : Nat} {V : zV} {J : Nat → Nat → Int32} {μ : zM} (hW : zWS μ w) {p f h : Nat} (hp : p < 20) (hf : f < 6) (hh : h < 6) : zden zcds (d + 1) 107 [.ref (w + (23 + p)), .ref (w + (5 + 3 * f)), .ref (w + (5 + 3 * h))] (zwi μ (zpc J w V)) = some (0, none, 0, 0, zwi μ (zpc J w (vset V p f h))) := by
  refine (zd_in (d := d + 0) (cd := zc107) (nL := 3) (L := [(0, .ref (w + (23 + p))), (1, .ref (w + (5 + 3 * f))), (2, .ref (w + (5 + 3 * h)))]) rfl (Nat.le_of_ble_eq_true rfl) rfl).trans ?_
  refine (ys4 1 (v := .ref (w + (23 + p))) rfl rfl rfl rfl).trans ?_
  refine (ys1 2 (x := 1) rfl rfl rfl).trans ?_
  refine (yq 5 rfl (zWS.tag hW (o := 23 + p) (zwT_2 _ hp).2.2 (zwT_2 _ hp).1) (zWS.k0 hW (o := 23 + p)) (zWS.ni hW (o := 23 + p) (zwT_2 _ hp).2.2 (zwT_2 _ hp).2.1) (by decide) rfl (zpc_up (o := 23 + p) (zpk_2 _ hp) (zwT_2 _ hp).2.2)).trans ?_
  generalize hV1 : zvu V 2 p 0 (1) = V1
  refine (ys4 6 (v := .ref (w + (23 + p))) rfl rfl rfl rfl).trans ?_
  refine (ys4 7 (v := .ref (w + (5 + 3 * f))) rfl rfl rfl rfl).trans ?_
  refine (yg 10 rfl (zWS.tag hW (o := 5 + 3 * f) (zwT_1 _ hf).2.2.2.2 (zwT_1 _ hf).1) (zWS.ni hW (o := 5 + 3 * f) (zwT_1 _ hf).2.2.2.2 (zwT_1 _ hf).2.1) (by decide) rfl (zpc_at (o := 5 + 3 * f) (zpk_1 _ hf) (zwT_1 _ hf).2.2.2.2)).trans ?_
  refine (yq 13 rfl (zWS.tag hW (o := 23 + p) (zwT_2 _ hp).2.2 (zwT_2 _ hp).1) (zWS.k0 hW (o := 23 + p)) (zWS.ni hW (o := 23 + p) (zwT_2 _ hp).2.2 (zwT_2 _ hp).2.1) (by decide) rfl (zpc_up (o := 23 + p) (zpk_2 _ hp) (zwT_2 _ hp).2.2)).trans ?_
  generalize hV2 : zvu V1 2 p 5 ((V1 1 f 1)) = V2
  refine (ys4 14 (v := .ref (w + (23 + p))) rfl rfl rfl rfl).trans ?_
  refine (ys4 15 (v := .ref (w + (5 + 3 * f))) rfl rfl rfl rfl).trans ?_
  refine (yg 18 rfl (zWS.tag hW (o := 5 + 3 * f) (zwT_1 _ hf).2.2.2.2 (zwT_1 _ hf).1) (zWS.ni hW (o := 5 + 3 * f) (zwT_1 _ hf).2.2.2.2 (zwT_1 _ hf).2.1) (by decide) rfl (zpc_at (o := 5 + 3 * f) (zpk_1 _ hf) (zwT_1 _ hf).2.2.2.2)).trans ?_
  refine (yq 21 rfl (zWS.tag hW (o := 23 + p) (zwT_2 _ hp).2.2 (zwT_2 _ hp).1) (zWS.k0 hW (o := 23 + p)) (zWS.ni hW (o := 23 + p) (zwT_2 _ hp).2.2 (zwT_2 _ hp).2.1) (by decide) rfl (zpc_up (o := 23 + p) (zpk_2 _ hp) (zwT_2 _ hp).2.2)).trans ?_
  generalize hV3 : zvu V2 2 p 6 ((V2 1 f 2)) = V3
  refine (ys4 22 (v := .ref (w + (23 + p))) rfl rfl rfl rfl).trans ?_
  refine (ys4 23 (v := .ref (w + (5 + 3 * h))) rfl rfl rfl rfl).trans ?_
  refine (yg 26 rfl (zWS.tag hW (o := 5 + 3 * h) (zwT_1 _ hh).2.2.2.2 (zwT_1 _ hh).1) (zWS.ni hW (o := 5 + 3 * h) (zwT_1 _ hh).2.2.2.2 (zwT_1 _ hh).2.1) (by decide) rfl (zpc_at (o := 5 + 3 * h) (zpk_1 _ hh) (zwT_1 _ hh).2.2.2.2)).trans ?_
  refine (yq 29 rfl (zWS.tag hW (o := 23 + p) (zwT_2 _ hp).2.2 (zwT_2 _ hp).1) (zWS.k0 hW (o := 23 + p)) (zWS.ni hW (o := 23 + p) (zwT_2 _ hp).2.2 (zwT_2 _ hp).2.1) (by decide) rfl (zpc_up (o := 23 + p) (zpk_2 _ hp) (zwT_2 _ hp).2.2)).trans ?_
  generalize hV4 : zvu V3 2 p 7 ((V3 1 h 1)) = V4
  refine (ys4 30 (v := .ref (w + (23 + p))) rfl rfl rfl rfl).trans ?_
  refine (ys4 31 (v := .ref (w + (5 + 3 * h))) rfl rfl rfl rfl).trans ?_
  refine (yg 34 rfl (zWS.tag hW (o := 5 + 3 * h) (zwT_1 _ hh).2.2.2.2 (zwT_1 _ hh).1) (zWS.ni hW (o := 5 + 3 * h) (zwT_1 _ hh).2.2.2.2 (zwT_1 _ hh).2.1) (by decide) rfl (zpc_at (o := 5 + 3 * h) (zpk_1 _ hh) (zwT_1 _ hh).2.2.2.2)).trans ?_
  refine (yq 37 rfl (zWS.tag hW (o := 23 + p) (zwT_2 _ hp).2.2 (zwT_2 _ hp).1) (zWS.k0 hW (o := 23 + p)) (zWS.ni hW (o := 23 + p) (zwT_2 _ hp).2.2 (zwT_2 _ hp).2.1) (by decide) rfl (zpc_up (o := 23 + p) (zpk_2 _ hp) (zwT_2 _ hp).2.2)).trans ?_
  generalize hV5 : zvu V4 2 p 8 ((V4 1 h 2)) = V5
  refine (ys4 38 (v := .ref (w + (23 + p))) rfl rfl rfl rfl).trans ?_
  refine (ys1 39 (x := 0) rfl rfl rfl).trans ?_
  refine (yq 42 rfl (zWS.tag hW (o := 23 + p) (zwT_2 _ hp).2.2 (zwT_2 _ hp).1) (zWS.k0 hW (o := 23 + p)) (zWS.ni hW (o := 23 + p) (zwT_2 _ hp).2.2 (zwT_2 _ hp).2.1) (by decide) rfl (zpc_up (o := 23 + p) (zpk_2 _ hp) (zwT_2 _ hp).2.2)).trans ?_
  generalize hV6 : zvu V5 2 p 9 (0) = V6
  refine (ys36v rfl rfl).trans ?_
  subst hV6 hV5 hV4 hV3 hV2 hV1; unfold vset; (try dsimp only); (first | done | rfl)

theorem c_go {d : Nat} {w : Nat} {V : zV} {J : Nat → Nat → Int32} {μ : zM} (hW : zWS μ w) {k : Nat} (hk : k < 12) {x y : Int32} : zden zcds (d + 2) 122 [.ref (w + (49 + 3 * k)), .int (x), .int (y)] (zwi μ (zpc J w V)) = some (0, none, 0, 0, zwi μ (zpc J w (vgo V k x y))) := by
  refine (zd_in (d := d + 1) (cd := zc122) (nL := 3) (L := [(0, .ref (w + (49 + 3 * k))), (1, .int (x)), (2, .int (y))]) rfl (Nat.le_of_ble_eq_true rfl) rfl).trans ?_
  refine (ys4 1 (v := .ref (w + (49 + 3 * k))) rfl rfl rfl rfl).trans ?_
  refine (ys4 2 (v := .int (x)) rfl rfl rfl rfl).trans ?_
  refine (yq 5 rfl (zWS.tag hW (o := 49 + 3 * k) (zwT_4 _ hk).2.2.2.2 (zwT_4 _ hk).1) (zWS.k0 hW (o := 49 + 3 * k)) (zWS.ni hW (o := 49 + 3 * k) (zwT_4 _ hk).2.2.2.2 (zwT_4 _ hk).2.1) (by decide) rfl (zpc_up (o := 49 + 3 * k) (zpk_4 _ hk) (zwT_4 _ hk).2.2.2.2)).trans ?_
  generalize hV1 : zvu V 4 k 1 (x) = V1
  refine (ys4 6 (v := .ref (w + (49 + 3 * k))) rfl rfl rfl rfl).trans ?_
  refine (ys14 7 rfl (Nat.le_of_ble_eq_true rfl) rfl).trans ?_
  refine (yg 10 rfl (zWS.tag hW (o := 49 + 3 * k) (zwT_4 _ hk).2.2.2.2 (zwT_4 _ hk).1) (zWS.ni hW (o := 49 + 3 * k) (zwT_4 _ hk).2.2.2.2 (zwT_4 _ hk).2.1) (by decide) rfl (zpc_at (o := 49 + 3 * k) (zpk_4 _ hk) (zwT_4 _ hk).2.2.2.2)).trans ?_
  refine (ys1 11 (x := 1) rfl rfl rfl).trans ?_
  refine (ys7_0 12 rfl rfl).trans ?_
  refine (yq 15 rfl (zWS.tag hW (o := 49 + 3 * k) (zwT_4 _ hk).2.2.2.2 (zwT_4 _ hk).1) (zWS.k0 hW (o := 49 + 3 * k)) (zWS.ni hW (o := 49 + 3 * k) (zwT_4 _ hk).2.2.2.2 (zwT_4 _ hk).2.1) (by decide) rfl (zpc_up (o := 49 + 3 * k) (zpk_4 _ hk) (zwT_4 _ hk).2.2.2.2)).trans ?_
  generalize hV2 : zvu V1 4 k 2 (((V1 4 k 2) + 1)) = V2
  refine (ys4 16 (v := .ref (w + (49 + 3 * k))) rfl rfl rfl rfl).trans ?_
  refine (ys1 17 (x := 0) rfl rfl rfl).trans ?_
  refine (yq 20 rfl (zWS.tag hW (o := 49 + 3 * k) (zwT_4 _ hk).2.2.2.2 (zwT_4 _ hk).1) (zWS.k0 hW (o := 49 + 3 * k)) (zWS.ni hW (o := 49 + 3 * k) (zwT_4 _ hk).2.2.2.2 (zwT_4 _ hk).2.1) (by decide) rfl (zpc_up (o := 49 + 3 * k) (zpk_4 _ hk) (zwT_4 _ hk).2.2.2.2)).trans ?_
  generalize hV3 : zvu V2 4 k 3 (0) = V3
  refine (ys4 21 (v := .ref (w + (49 + 3 * k))) rfl rfl rfl rfl).trans ?_
  refine (yc1 24 rfl rfl (Nat.le_of_ble_eq_true rfl) (Or.inr (by show ztg (zwi _ _) _ = _; rw [ztg_wi]; exact (zWS.tag hW (o := 49 + 3 * k) (zwT_4 _ hk).2.2.2.2 (zwT_4 _ hk).1))) rfl rfl (c_arr hW hk)).trans ?_
  refine ys17_0 27 rfl rfl (fun h24 => ?_) (fun h24 => ?_)
  · refine (ys36v rfl rfl).trans ?_
    subst hV3 hV2 hV1; unfold vgo; (try dsimp only); rw [if_pos h24]
  · refine (ys4 28 (v := .ref (w + (49 + 3 * k))) rfl rfl rfl rfl).trans ?_
    refine (ys4 29 (v := .int (y)) rfl rfl rfl rfl).trans ?_
    refine (yq 32 rfl (zWS.tag hW (o := 49 + 3 * k) (zwT_4 _ hk).2.2.2.2 (zwT_4 _ hk).1) (zWS.k0 hW (o := 49 + 3 * k)) (zWS.ni hW (o := 49 + 3 * k) (zwT_4 _ hk).2.2.2.2 (zwT_4 _ hk).2.1) (by decide) rfl (zpc_up (o := 49 + 3 * k) (zpk_4 _ hk) (zwT_4 _ hk).2.2.2.2)).trans ?_
    generalize hV4 : zvu V3 4 k 5 (y) = V4
    refine (ys36v rfl rfl).trans ?_
    subst hV4 hV3 hV2 hV1; unfold vgo; (try dsimp only); rw [if_neg h24]

theorem c_xOf {d : Nat} {w : Nat} {V : zV} {J : Nat → Nat → Int32} {μ : zM} (hW : zWS μ w) {p : Nat} (hp : p < 20) : zden zcds (d + 3) 89 [.ref (w), .ref (w + (23 + p))] (zwi μ (zpc J w V)) = some (0, some (.int (vxo V p)), 0, 0, zwi μ (zpc J w V)) := by
  refine (zd_in (d := d + 2) (cd := zc89) (nL := 2) (L := [(0, .ref (w)), (1, .ref (w + (23 + p)))]) rfl (Nat.le_of_ble_eq_true rfl) rfl).trans ?_
  refine (ys4 1 (v := .ref (w + (23 + p))) rfl rfl rfl rfl).trans ?_
  refine (yg 4 rfl (zWS.tag hW (o := 23 + p) (zwT_2 _ hp).2.2 (zwT_2 _ hp).1) (zWS.ni hW (o := 23 + p) (zwT_2 _ hp).2.2 (zwT_2 _ hp).2.1) (by decide) rfl (zpc_at (o := 23 + p) (zpk_2 _ hp) (zwT_2 _ hp).2.2)).trans ?_
  refine ys17_1 7 rfl rfl (fun h4 => ?_) (fun h4 => ?_)
  · refine (ys4 8 (v := .ref (w)) rfl rfl rfl rfl).trans ?_
    refine (ys4 9 (v := .ref (w + (23 + p))) rfl rfl rfl rfl).trans ?_
    refine (yg 12 rfl (zWS.tag hW (o := 23 + p) (zwT_2 _ hp).2.2 (zwT_2 _ hp).1) (zWS.ni hW (o := 23 + p) (zwT_2 _ hp).2.2 (zwT_2 _ hp).2.1) (by decide) rfl (zpc_at (o := 23 + p) (zpk_2 _ hp) (zwT_2 _ hp).2.2)).trans ?_
    refine (yc2 15 rfl rfl (Nat.le_of_ble_eq_true rfl) (Or.inr (by show ztg (zwi _ _) _ = _; rw [ztg_wi]; exact (zWS.tag hW (o := 0) (by decide) rfl))) rfl rfl (c_at1 hW)).trans ?_
    refine (yg 18 rfl (zWS.tag hW (o := 5 + 3 * (zsf (V 2 p 2) 6)) (zwT_1 _ (zsf_lt (i := (V 2 p 2)) (n := 6) (by decide) (by decide))).2.2.2.2 (zwT_1 _ (zsf_lt (i := (V 2 p 2)) (n := 6) (by decide) (by decide))).1) (zWS.ni hW (o := 5 + 3 * (zsf (V 2 p 2) 6)) (zwT_1 _ (zsf_lt (i := (V 2 p 2)) (n := 6) (by decide) (by decide))).2.2.2.2 (zwT_1 _ (zsf_lt (i := (V 2 p 2)) (n := 6) (by decide) (by decide))).2.1) (by decide) rfl (zpc_at (o := 5 + 3 * (zsf (V 2 p 2) 6)) (zpk_1 _ (zsf_lt (i := (V 2 p 2)) (n := 6) (by decide) (by decide))) (zwT_1 _ (zsf_lt (i := (V 2 p 2)) (n := 6) (by decide) (by decide))).2.2.2.2)).trans ?_
    refine (ys19 rfl).trans ?_
    refine (ys36 rfl rfl).trans ?_
    unfold vxo; (try dsimp only); rw [if_pos h4]
  · refine (ys4 22 (v := .ref (w + (23 + p))) rfl rfl rfl rfl).trans ?_
    refine (yg 25 rfl (zWS.tag hW (o := 23 + p) (zwT_2 _ hp).2.2 (zwT_2 _ hp).1) (zWS.ni hW (o := 23 + p) (zwT_2 _ hp).2.2 (zwT_2 _ hp).2.1) (by decide) rfl (zpc_at (o := 23 + p) (zpk_2 _ hp) (zwT_2 _ hp).2.2)).trans ?_
    refine (ys36 rfl rfl).trans ?_
    unfold vxo; (try dsimp only); rw [if_neg h4]

theorem c_yOf {d : Nat} {w : Nat} {V : zV} {J : Nat → Nat → Int32} {μ : zM} (hW : zWS μ w) {p : Nat} (hp : p < 20) : zden zcds (d + 3) 90 [.ref (w), .ref (w + (23 + p))] (zwi μ (zpc J w V)) = some (0, some (.int (vyo V p)), 0, 0, zwi μ (zpc J w V)) := by
  refine (zd_in (d := d + 2) (cd := zc90) (nL := 2) (L := [(0, .ref (w)), (1, .ref (w + (23 + p)))]) rfl (Nat.le_of_ble_eq_true rfl) rfl).trans ?_
  refine (ys4 1 (v := .ref (w + (23 + p))) rfl rfl rfl rfl).trans ?_
  refine (yg 4 rfl (zWS.tag hW (o := 23 + p) (zwT_2 _ hp).2.2 (zwT_2 _ hp).1) (zWS.ni hW (o := 23 + p) (zwT_2 _ hp).2.2 (zwT_2 _ hp).2.1) (by decide) rfl (zpc_at (o := 23 + p) (zpk_2 _ hp) (zwT_2 _ hp).2.2)).trans ?_
  refine ys17_1 7 rfl rfl (fun h4 => ?_) (fun h4 => ?_)
  · refine (ys4 8 (v := .ref (w)) rfl rfl rfl rfl).trans ?_
    refine (ys4 9 (v := .ref (w + (23 + p))) rfl rfl rfl rfl).trans ?_
    refine (yg 12 rfl (zWS.tag hW (o := 23 + p) (zwT_2 _ hp).2.2 (zwT_2 _ hp).1) (zWS.ni hW (o := 23 + p) (zwT_2 _ hp).2.2 (zwT_2 _ hp).2.1) (by decide) rfl (zpc_at (o := 23 + p) (zpk_2 _ hp) (zwT_2 _ hp).2.2)).trans ?_
    refine (yc2 15 rfl rfl (Nat.le_of_ble_eq_true rfl) (Or.inr (by show ztg (zwi _ _) _ = _; rw [ztg_wi]; exact (zWS.tag hW (o := 0) (by decide) rfl))) rfl rfl (c_at1 hW)).trans ?_
    refine (yg 18 rfl (zWS.tag hW (o := 5 + 3 * (zsf (V 2 p 2) 6)) (zwT_1 _ (zsf_lt (i := (V 2 p 2)) (n := 6) (by decide) (by decide))).2.2.2.2 (zwT_1 _ (zsf_lt (i := (V 2 p 2)) (n := 6) (by decide) (by decide))).1) (zWS.ni hW (o := 5 + 3 * (zsf (V 2 p 2) 6)) (zwT_1 _ (zsf_lt (i := (V 2 p 2)) (n := 6) (by decide) (by decide))).2.2.2.2 (zwT_1 _ (zsf_lt (i := (V 2 p 2)) (n := 6) (by decide) (by decide))).2.1) (by decide) rfl (zpc_at (o := 5 + 3 * (zsf (V 2 p 2) 6)) (zpk_1 _ (zsf_lt (i := (V 2 p 2)) (n := 6) (by decide) (by decide))) (zwT_1 _ (zsf_lt (i := (V 2 p 2)) (n := 6) (by decide) (by decide))).2.2.2.2)).trans ?_
    refine (ys19 rfl).trans ?_
    refine (ys36 rfl rfl).trans ?_
    unfold vyo; (try dsimp only); rw [if_pos h4]
  · refine (ys4 22 (v := .ref (w + (23 + p))) rfl rfl rfl rfl).trans ?_
    refine (yg 25 rfl (zWS.tag hW (o := 23 + p) (zwT_2 _ hp).2.2 (zwT_2 _ hp).1) (zWS.ni hW (o := 23 + p) (zwT_2 _ hp).2.2 (zwT_2 _ hp).2.1) (by decide) rfl (zpc_at (o := 23 + p) (zpk_2 _ hp) (zwT_2 _ hp).2.2)).trans ?_
    refine (ys36 rfl rfl).trans ?_
    unfold vyo; (try dsimp only); rw [if_neg h4]

theorem c_dfh {d : Nat} {w : Nat} {V : zV} {J : Nat → Nat → Int32} {μ : zM} (hW : zWS μ w) {p : Nat} (hp : p < 20) : zden zcds (d + 4) 91 [.ref (w), .ref (w + (23 + p))] (zwi μ (zpc J w V)) = some (0, some (.int (vdfh V p)), 0, 0, zwi μ (zpc J w V)) := by
  refine (zd_in (d := d + 3) (cd := zc91) (nL := 3) (L := [(0, .ref (w)), (1, .ref (w + (23 + p)))]) rfl (Nat.le_of_ble_eq_true rfl) rfl).trans ?_
  refine (ys4 1 (v := .ref (w)) rfl rfl rfl rfl).trans ?_
  refine (ys4 2 (v := .ref (w + (23 + p))) rfl rfl rfl rfl).trans ?_
  refine (yg 5 rfl (zWS.tag hW (o := 23 + p) (zwT_2 _ hp).2.2 (zwT_2 _ hp).1) (zWS.ni hW (o := 23 + p) (zwT_2 _ hp).2.2 (zwT_2 _ hp).2.1) (by decide) rfl (zpc_at (o := 23 + p) (zpk_2 _ hp) (zwT_2 _ hp).2.2)).trans ?_
  refine (yc2 8 rfl rfl (Nat.le_of_ble_eq_true rfl) (Or.inr (by show ztg (zwi _ _) _ = _; rw [ztg_wi]; exact (zWS.tag hW (o := 0) (by decide) rfl))) rfl rfl (c_at1 hW)).trans ?_
  refine (ys5 9 (L2 := [(2, .ref (w + (5 + 3 * (zsf (V 2 p 1) 6)))), (0, .ref (w)), (1, .ref (w + (23 + p)))]) rfl rfl rfl rfl).trans ?_
  refine (ys4 10 (v := .ref (w)) rfl rfl rfl rfl).trans ?_
  refine (ys4 11 (v := .ref (w + (23 + p))) rfl rfl rfl rfl).trans ?_
  refine (yc2 14 rfl rfl (Nat.le_of_ble_eq_true rfl) (Or.inr (by show ztg (zwi _ _) _ = _; rw [ztg_wi]; exact (zWS.tag hW (o := 0) (by decide) rfl))) rfl rfl (c_xOf hW hp)).trans ?_
  refine (ys4 15 (v := .ref (w)) rfl rfl rfl rfl).trans ?_
  refine (ys4 16 (v := .ref (w + (23 + p))) rfl rfl rfl rfl).trans ?_
  refine (yc2 19 rfl rfl (Nat.le_of_ble_eq_true rfl) (Or.inr (by show ztg (zwi _ _) _ = _; rw [ztg_wi]; exact (zWS.tag hW (o := 0) (by decide) rfl))) rfl rfl (c_yOf hW hp)).trans ?_
  refine (ys4 20 (v := .ref (w + (5 + 3 * (zsf (V 2 p 1) 6)))) rfl rfl rfl rfl).trans ?_
  refine (yg 23 rfl (zWS.tag hW (o := 5 + 3 * (zsf (V 2 p 1) 6)) (zwT_1 _ (zsf_lt (i := (V 2 p 1)) (n := 6) (by decide) (by decide))).2.2.2.2 (zwT_1 _ (zsf_lt (i := (V 2 p 1)) (n := 6) (by decide) (by decide))).1) (zWS.ni hW (o := 5 + 3 * (zsf (V 2 p 1) 6)) (zwT_1 _ (zsf_lt (i := (V 2 p 1)) (n := 6) (by decide) (by decide))).2.2.2.2 (zwT_1 _ (zsf_lt (i := (V 2 p 1)) (n := 6) (by decide) (by decide))).2.1) (by decide) rfl (zpc_at (o := 5 + 3 * (zsf (V 2 p 1) 6)) (zpk_1 _ (zsf_lt (i := (V 2 p 1)) (n := 6) (by decide) (by decide))) (zwT_1 _ (zsf_lt (i := (V 2 p 1)) (n := 6) (by decide) (by decide))).2.2.2.2)).trans ?_
  refine (ys4 24 (v := .ref (w + (5 + 3 * (zsf (V 2 p 1) 6)))) rfl rfl rfl rfl).trans ?_
  refine (yg 27 rfl (zWS.tag hW (o := 5 + 3 * (zsf (V 2 p 1) 6)) (zwT_1 _ (zsf_lt (i := (V 2 p 1)) (n := 6) (by decide) (by decide))).2.2.2.2 (zwT_1 _ (zsf_lt (i := (V 2 p 1)) (n := 6) (by decide) (by decide))).1) (zWS.ni hW (o := 5 + 3 * (zsf (V 2 p 1) 6)) (zwT_1 _ (zsf_lt (i := (V 2 p 1)) (n := 6) (by decide) (by decide))).2.2.2.2 (zwT_1 _ (zsf_lt (i := (V 2 p 1)) (n := 6) (by decide) (by decide))).2.1) (by decide) rfl (zpc_at (o := 5 + 3 * (zsf (V 2 p 1) 6)) (zpk_1 _ (zsf_lt (i := (V 2 p 1)) (n := 6) (by decide) (by decide))) (zwT_1 _ (zsf_lt (i := (V 2 p 1)) (n := 6) (by decide) (by decide))).2.2.2.2)).trans ?_
  refine (yc4 30 rfl rfl (Nat.le_of_ble_eq_true rfl) (Or.inl rfl) rfl rfl c_dst).trans ?_
  refine (ys36 rfl rfl).trans ?_
  rfl

theorem c_cso {d : Nat} {w : Nat} {V : zV} {J : Nat → Nat → Int32} {μ : zM} (hW : zWS μ w) {k : Nat} (hk : k < 12) {x : Int32} : zden zcds (d + 3) 87 [.ref (w), .ref (w + (49 + 3 * k)), .int (x)] (zwi μ (zpc J w V)) = some (0, some (.int (vcso V k x)), 0, 0, zwi μ (zpc J w V)) := by
  refine (zd_in (d := d + 2) (cd := zc87) (nL := 3) (L := [(0, .ref (w)), (1, .ref (w + (49 + 3 * k))), (2, .int (x))]) rfl (Nat.le_of_ble_eq_true rfl) rfl).trans ?_
  refine (ys4 1 (v := .ref (w)) rfl rfl rfl rfl).trans ?_
  refine (ys4 2 (v := .int (x)) rfl rfl rfl rfl).trans ?_
  refine (yc2 5 rfl rfl (Nat.le_of_ble_eq_true rfl) (Or.inr (by show ztg (zwi _ _) _ = _; rw [ztg_wi]; exact (zWS.tag hW (o := 0) (by decide) rfl))) rfl rfl (c_at2 hW)).trans ?_
  refine (ys4 6 (v := .ref (w + (49 + 3 * k))) rfl rfl rfl rfl).trans ?_
  refine (yg 9 rfl (zWS.tag hW (o := 49 + 3 * k) (zwT_4 _ hk).2.2.2.2 (zwT_4 _ hk).1) (zWS.ni hW (o := 49 + 3 * k) (zwT_4 _ hk).2.2.2.2 (zwT_4 _ hk).2.1) (by decide) rfl (zpc_at (o := 49 + 3 * k) (zpk_4 _ hk) (zwT_4 _ hk).2.2.2.2)).trans ?_
  refine (yc2 12 rfl rfl (Nat.le_of_ble_eq_true rfl) (Or.inr (by show ztg (zwi _ _) _ = _; rw [ztg_wi]; exact (zWS.tag hW (o := 23 + (zsf x 20)) (zwT_2 _ (zsf_lt (i := x) (n := 20) (by decide) (by decide))).2.2 (zwT_2 _ (zsf_lt (i := x) (n := 20) (by decide) (by decide))).1))) rfl rfl (c_cag hW (zsf_lt (i := x) (n := 20) (by decide) (by decide)))).trans ?_
  refine ys17_0 15 rfl rfl (fun h12 => ?_) (fun h12 => ?_)
  · refine (ys1 32 (x := 0) rfl rfl rfl).trans ?_
    refine (ys36 rfl (by decide)).trans ?_
    unfold vcso; (try dsimp only); rw [if_pos h12]
  · refine (ys4 16 (v := .ref (w + (49 + 3 * k))) rfl rfl rfl rfl).trans ?_
    refine (yg 19 rfl (zWS.tag hW (o := 49 + 3 * k) (zwT_4 _ hk).2.2.2.2 (zwT_4 _ hk).1) (zWS.ni hW (o := 49 + 3 * k) (zwT_4 _ hk).2.2.2.2 (zwT_4 _ hk).2.1) (by decide) rfl (zpc_at (o := 49 + 3 * k) (zpk_4 _ hk) (zwT_4 _ hk).2.2.2.2)).trans ?_
    refine (ys4 20 (v := .int (x)) rfl rfl rfl rfl).trans ?_
    refine (yc1 23 rfl rfl (Nat.le_of_ble_eq_true rfl) (Or.inl rfl) rfl rfl c_bit).trans ?_
    refine (ys7_3 24 rfl rfl).trans ?_
    refine ys17_1 27 rfl rfl (fun h24 => ?_) (fun h24 => ?_)
    · refine (ys1 28 (x := 1) rfl rfl rfl).trans ?_
      refine (ys19 rfl).trans ?_
      refine (ys36 rfl (by decide)).trans ?_
      unfold vcso; (try dsimp only); rw [if_neg h12, if_pos h24]
    · refine (ys1 32 (x := 0) rfl rfl rfl).trans ?_
      refine (ys36 rfl (by decide)).trans ?_
      unfold vcso; (try dsimp only); rw [if_neg h12, if_neg h24]

