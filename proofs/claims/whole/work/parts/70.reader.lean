/-! THE READER at r, its tape at r + 1, a draft world at w. -/
def zrl (I : zFn) (r : Nat) (P : zFn) : zFn := fun a k => if a = r then P 0 k else if r + 6 ≤ a ∧ a < r + 9 then P (a - r - 5) k else I a k
def zRR (μ : zM) (r : Nat) : Prop := zFS μ r [1, 2, 21, 23, 20, 20, 20, 20, 20] [6, 2, 2000, 0, 401, 401, 6, 20, 12] ∧ zgr μ (r + 0) 0 = some (r + 1 + 0) ∧ zgr μ (r + 0) 1 = some (r + 6) ∧ zgr μ (r + 0) 2 = some (r + 7) ∧ zgr μ (r + 0) 3 = some (r + 8) ∧ zTP μ (r + 1)
def zTZ (Q : zFn) : Prop := ∀ x, ∃ n, n < 2 ^ 31 ∧ vsiz Q x = nI n
def zRC (μ : zM) (r w : Nat) (J Q : zFn) (K : Nat → Nat) : Prop := zRR μ r ∧ zWS μ w ∧ (r + 9 ≤ w ∨ w + 85 ≤ r) ∧ (∀ j k, j < 5 → J (r + 1 + j) k = Q j k) ∧ zKD μ (r + 1) K (Q 0 1) ∧ zTZ Q
theorem zrl_at {I : zFn} {r : Nat} {P : zFn} {o j k : Nat} (ho : o = 0 ∧ j = 0 ∨ 6 ≤ o ∧ o < 9 ∧ o = j + 5) : zrl I r P (r + o) k = P j k := by
  unfold zrl
  rcases ho with ⟨rfl, rfl⟩ | ⟨h1, h2, rfl⟩
  · rw [if_pos (Nat.add_zero r)]
  · rw [if_neg (by omega), if_pos ⟨by omega, by omega⟩, show r + (j + 5) - r - 5 = j by omega]
theorem zrl_out {I : zFn} {r : Nat} {P : zFn} {a k : Nat} (h : a ≠ r ∧ (a < r + 6 ∨ r + 9 ≤ a)) : zrl I r P a k = I a k := by
  unfold zrl
  rw [if_neg h.1, if_neg (by omega)]
theorem zrw_at {I : zFn} {r w : Nat} {P : zFn} {V : zV} {o j k : Nat} (ho : o = 0 ∧ j = 0 ∨ 6 ≤ o ∧ o < 9 ∧ o = j + 5) (hD : r + 9 ≤ w ∨ w + 85 ≤ r) : zpc (zrl I r P) w V (r + o) k = P j k := by
  rw [zpc_out (by omega)]
  exact zrl_at ho
theorem zrw_up {I : zFn} {r w : Nat} {P : zFn} {V : zV} {o j k : Nat} {x : Int32} (ho : o = 0 ∧ j = 0 ∨ 6 ≤ o ∧ o < 9 ∧ o = j + 5) (hD : r + 9 ≤ w ∨ w + 85 ≤ r) : zup (zpc (zrl I r P) w V) (r + o) k x = zpc (zrl I r (zup P j k x)) w V := by
  funext a i
  unfold zup zpc zrl
  dsimp only
  by_cases hw : w ≤ a ∧ a < w + 85
  · rw [if_neg (by omega), if_pos hw, if_pos hw]
  · rw [if_neg hw, if_neg hw]
    by_cases h1 : a = r
    · subst h1
      rw [if_pos rfl, if_pos rfl]
      rcases ho with ⟨rfl, rfl⟩ | ⟨h1, h2, rfl⟩
      · by_cases hk : i = k
        · rw [if_pos ⟨rfl, hk⟩, if_pos ⟨rfl, hk⟩]
        · rw [if_neg (fun h => hk h.2), if_neg (fun h => hk h.2)]
      · rw [if_neg (by omega), if_neg (by omega)]
    · rw [if_neg h1, if_neg h1]
      by_cases h2 : r + 6 ≤ a ∧ a < r + 9
      · rw [if_pos h2, if_pos h2]
        rcases ho with ⟨rfl, rfl⟩ | ⟨h3, h4, rfl⟩
        · rw [if_neg (by omega), if_neg (by omega)]
        · by_cases h5 : a = r + (j + 5) ∧ i = k
          · rw [if_pos h5, if_pos ⟨by omega, h5.2⟩]
          · rw [if_neg h5, if_neg (fun h => h5 ⟨by omega, h.2⟩)]
      · rw [if_neg h2, if_neg h2, if_neg (by omega)]
theorem zrc_eq {μ : zM} {r w : Nat} {J Q P : zFn} {K : Nat → Nat} {V : zV} (hC : zRC μ r w J Q K) : zfl (zpc (zrl J r P) w V) (r + 1) 5 Q = zpc (zrl J r P) w V := by
  funext a k
  unfold zfl
  split
  · rename_i h
    have hD := hC.2.2.1
    rw [zpc_out (by omega), zrl_out (by omega), ← hC.2.2.2.1 _ _ (by omega), show r + 1 + (a - (r + 1)) = a by omega]
  · rfl
theorem zlt {d m : Nat} {a : List Value} {μ : zM} {I J : zFn} {v : Option Value} {c s : Nat} (e : I = J) (h : zden zcds d m a (zwi μ I) = some (0, v, c, s, zwi μ I)) : zden zcds d m a (zwi μ J) = some (0, v, c, s, zwi μ J) := e ▸ h
theorem vko_lt {μ : zM} {b : Nat} {Q : zFn} {K : Nat → Nat} {x : Int32} (hK : zKD μ b K (Q 0 1)) : vko Q K x < 20 := by
  unfold vko
  by_cases h1 : x < 0
  · rw [if_pos h1]; decide
  · rw [if_neg h1]
    by_cases h2 : Q 0 1 ≤ x
    · rw [if_pos h2]; decide
    · rw [if_neg h2]
      split
      · decide
      · exact (hK.at h1 h2).2.1

theorem c_nx1 {d : Nat} {r w : Nat} {P Q J : zFn} {V : zV} {K : zKn} {μ : zM} (hC : zRC μ r w J Q K) {q : Nat} (hq : q < 20) (h : vko Q K (P 0 0) = q) : zden zcds (d + 2) 31 [.ref (r + 0), .ref (q)] (zwi μ (zpc (zrl J r P) w V)) = some (0, some (.int 1), 0, 0, zwi μ (zpc (zrl J r P) w V)) := by
  refine (zd_in (d := d + 1) (cd := zc31) (nL := 2) (L := [(0, .ref (r + 0)), (1, .ref (q))]) rfl (Nat.le_of_ble_eq_true rfl) rfl).trans ?_
  refine (ys4 1 (v := .ref (r + 0)) rfl rfl rfl rfl).trans ?_
  refine (ygr 4 rfl (zFS.tag hC.1.1 (j := 0) (by decide) rfl) rfl hC.1.2.1).trans ?_
  refine (ys4 5 (v := .ref (r + 0)) rfl rfl rfl rfl).trans ?_
  refine (yg 8 rfl (zFS.tag hC.1.1 (j := 0) (by decide) rfl) (zFS.ni hC.1.1 (j := 0) (by decide) rfl) (by decide) rfl (zrw_at (o := 0) (j := 0) (by decide) hC.2.2.1)).trans ?_
  refine (yc2 11 rfl rfl (Nat.le_of_ble_eq_true rfl) (Or.inr (by show ztg (zwi _ _) _ = _; rw [ztg_wi]; exact (zFS.tag hC.1.2.2.2.2.2.1 (j := 0) (by decide) rfl))) rfl rfl (zlt (zrc_eq hC) (c_ko hC.1.2.2.2.2.2 hC.2.2.2.2.1))).trans ?_
  refine (ys4 12 (v := .ref (q)) rfl rfl rfl rfl).trans ?_
  refine ys20_1 15 rfl (vko_lt hC.2.2.2.2.1) hq rfl (fun h12 => ?_) (fun h12 => absurd h h12)
  refine (ys1 16 (x := 1) rfl rfl rfl).trans ?_
  refine (ys19 rfl).trans ?_
  refine (ys36 rfl (by decide)).trans ?_
  rfl

theorem c_nx0 {d : Nat} {r w : Nat} {P Q J : zFn} {V : zV} {K : zKn} {μ : zM} (hC : zRC μ r w J Q K) {q : Nat} (hq : q < 20) (h : ¬ vko Q K (P 0 0) = q) : zden zcds (d + 2) 31 [.ref (r + 0), .ref (q)] (zwi μ (zpc (zrl J r P) w V)) = some (0, some (.int 0), 0, 0, zwi μ (zpc (zrl J r P) w V)) := by
  refine (zd_in (d := d + 1) (cd := zc31) (nL := 2) (L := [(0, .ref (r + 0)), (1, .ref (q))]) rfl (Nat.le_of_ble_eq_true rfl) rfl).trans ?_
  refine (ys4 1 (v := .ref (r + 0)) rfl rfl rfl rfl).trans ?_
  refine (ygr 4 rfl (zFS.tag hC.1.1 (j := 0) (by decide) rfl) rfl hC.1.2.1).trans ?_
  refine (ys4 5 (v := .ref (r + 0)) rfl rfl rfl rfl).trans ?_
  refine (yg 8 rfl (zFS.tag hC.1.1 (j := 0) (by decide) rfl) (zFS.ni hC.1.1 (j := 0) (by decide) rfl) (by decide) rfl (zrw_at (o := 0) (j := 0) (by decide) hC.2.2.1)).trans ?_
  refine (yc2 11 rfl rfl (Nat.le_of_ble_eq_true rfl) (Or.inr (by show ztg (zwi _ _) _ = _; rw [ztg_wi]; exact (zFS.tag hC.1.2.2.2.2.2.1 (j := 0) (by decide) rfl))) rfl rfl (zlt (zrc_eq hC) (c_ko hC.1.2.2.2.2.2 hC.2.2.2.2.1))).trans ?_
  refine (ys4 12 (v := .ref (q)) rfl rfl rfl rfl).trans ?_
  refine ys20_1 15 rfl (vko_lt hC.2.2.2.2.1) hq rfl (fun h12 => absurd h12 h) (fun h12 => ?_)
  refine (ys1 20 (x := 0) rfl rfl rfl).trans ?_
  refine (ys36 rfl (by decide)).trans ?_
  rfl

theorem c_ac0 {d : Nat} {r w : Nat} {P Q J : zFn} {V : zV} {K : zKn} {μ : zM} (hC : zRC μ r w J Q K) {q : Nat} (hq : q < 20) (h : ¬ vko Q K (P 0 0) = q) : zden zcds (d + 3) 32 [.ref (r + 0), .ref (q)] (zwi μ (zpc (zrl J r P) w V)) = some (0, some (.int 0), 0, 0, zwi μ (zpc (zrl J r P) w V)) := by
  refine (zd_in (d := d + 2) (cd := zc32) (nL := 2) (L := [(0, .ref (r + 0)), (1, .ref (q))]) rfl (Nat.le_of_ble_eq_true rfl) rfl).trans ?_
  refine (ys4 1 (v := .ref (r + 0)) rfl rfl rfl rfl).trans ?_
  refine (ys4 2 (v := .ref (q)) rfl rfl rfl rfl).trans ?_
  refine (yc2 5 rfl rfl (Nat.le_of_ble_eq_true rfl) (Or.inr (by show ztg (zwi _ _) _ = _; rw [ztg_wi]; exact (zFS.tag hC.1.1 (j := 0) (by decide) rfl))) rfl rfl (c_nx0 hC hq h)).trans ?_
  refine ys17_1 8 rfl rfl (fun h5 => ?_) (fun h5 => absurd (by decide) h5)
  refine (ys1 9 (x := 0) rfl rfl rfl).trans ?_
  refine (ys36 rfl (by decide)).trans ?_
  rfl

def vat (P : zFn) : zFn :=
  let P1 := zup P 0 0 (((P 0 0) + 1))
  P1

theorem c_ac1 {d : Nat} {r w : Nat} {P Q J : zFn} {V : zV} {K : zKn} {μ : zM} (hC : zRC μ r w J Q K) {q : Nat} (hq : q < 20) (h : vko Q K (P 0 0) = q) : zden zcds (d + 3) 32 [.ref (r + 0), .ref (q)] (zwi μ (zpc (zrl J r P) w V)) = some (0, some (.int 1), 0, 0, zwi μ (zpc (zrl J r ((vat P))) w V)) := by
  refine (zd_in (d := d + 2) (cd := zc32) (nL := 2) (L := [(0, .ref (r + 0)), (1, .ref (q))]) rfl (Nat.le_of_ble_eq_true rfl) rfl).trans ?_
  refine (ys4 1 (v := .ref (r + 0)) rfl rfl rfl rfl).trans ?_
  refine (ys4 2 (v := .ref (q)) rfl rfl rfl rfl).trans ?_
  refine (yc2 5 rfl rfl (Nat.le_of_ble_eq_true rfl) (Or.inr (by show ztg (zwi _ _) _ = _; rw [ztg_wi]; exact (zFS.tag hC.1.1 (j := 0) (by decide) rfl))) rfl rfl (c_nx1 hC hq h)).trans ?_
  refine ys17_1 8 rfl rfl (fun h5 => absurd h5 (by decide)) (fun h5 => ?_)
  refine (ys4 11 (v := .ref (r + 0)) rfl rfl rfl rfl).trans ?_
  refine (ys14 12 rfl (Nat.le_of_ble_eq_true rfl) rfl).trans ?_
  refine (yg 15 rfl (zFS.tag hC.1.1 (j := 0) (by decide) rfl) (zFS.ni hC.1.1 (j := 0) (by decide) rfl) (by decide) rfl (zrw_at (o := 0) (j := 0) (by decide) hC.2.2.1)).trans ?_
  refine (ys1 16 (x := 1) rfl rfl rfl).trans ?_
  refine (ys7_0 17 rfl rfl).trans ?_
  refine (yq 20 rfl (zFS.tag hC.1.1 (j := 0) (by decide) rfl) (zFS.k0 hC.1.1 (j := 0)) (zFS.ni hC.1.1 (j := 0) (by decide) rfl) (by decide) rfl (zrw_up (o := 0) (j := 0) (by decide) hC.2.2.1)).trans ?_
  generalize hP1 : zup P 0 0 (((P 0 0) + 1)) = P1
  refine (ys1 21 (x := 1) rfl rfl rfl).trans ?_
  refine (ys36 rfl (by decide)).trans ?_
  rw [show vat P = P1 from by subst hP1; unfold vat; (try dsimp only); first | done | rfl]; (first | done | rfl)

def vte (P : zFn) (Q : zFn) (x : Int32) : zFn :=
  if (P 0 1) = 0 then
    let P1 := zup P 0 1 (x)
    let P2 := zup P1 0 2 ((vsta Q ((P1 0 0) - 1)))
    P2
  else
    P

theorem c_tell {d : Nat} {r w : Nat} {P Q J : zFn} {V : zV} {K : zKn} {μ : zM} (hC : zRC μ r w J Q K) {x : Int32} : zden zcds (d + 2) 33 [.ref (r + 0), .int (x)] (zwi μ (zpc (zrl J r P) w V)) = some (0, none, 0, 0, zwi μ (zpc (zrl J r ((vte P Q x))) w V)) := by
  refine (zd_in (d := d + 1) (cd := zc33) (nL := 2) (L := [(0, .ref (r + 0)), (1, .int (x))]) rfl (Nat.le_of_ble_eq_true rfl) rfl).trans ?_
  refine (ys4 1 (v := .ref (r + 0)) rfl rfl rfl rfl).trans ?_
  refine (yg 4 rfl (zFS.tag hC.1.1 (j := 0) (by decide) rfl) (zFS.ni hC.1.1 (j := 0) (by decide) rfl) (by decide) rfl (zrw_at (o := 0) (j := 0) (by decide) hC.2.2.1)).trans ?_
  refine ys17_1 7 rfl rfl (fun h4 => ?_) (fun h4 => ?_)
  · refine (ys4 8 (v := .ref (r + 0)) rfl rfl rfl rfl).trans ?_
    refine (ys4 9 (v := .int (x)) rfl rfl rfl rfl).trans ?_
    refine (yq 12 rfl (zFS.tag hC.1.1 (j := 0) (by decide) rfl) (zFS.k0 hC.1.1 (j := 0)) (zFS.ni hC.1.1 (j := 0) (by decide) rfl) (by decide) rfl (zrw_up (o := 0) (j := 0) (by decide) hC.2.2.1)).trans ?_
    generalize hP1 : zup P 0 1 (x) = P1
    refine (ys4 13 (v := .ref (r + 0)) rfl rfl rfl rfl).trans ?_
    refine (ys4 14 (v := .ref (r + 0)) rfl rfl rfl rfl).trans ?_
    refine (ygr 17 rfl (zFS.tag hC.1.1 (j := 0) (by decide) rfl) rfl hC.1.2.1).trans ?_
    refine (ys4 18 (v := .ref (r + 0)) rfl rfl rfl rfl).trans ?_
    refine (yg 21 rfl (zFS.tag hC.1.1 (j := 0) (by decide) rfl) (zFS.ni hC.1.1 (j := 0) (by decide) rfl) (by decide) rfl (zrw_at (o := 0) (j := 0) (by decide) hC.2.2.1)).trans ?_
    refine (ys1 22 (x := 1) rfl rfl rfl).trans ?_
    refine (ys7_1 23 rfl rfl).trans ?_
    refine (yc2 26 rfl rfl (Nat.le_of_ble_eq_true rfl) (Or.inr (by show ztg (zwi _ _) _ = _; rw [ztg_wi]; exact (zFS.tag hC.1.2.2.2.2.2.1 (j := 0) (by decide) rfl))) rfl rfl (zlt (zrc_eq hC) (c_st hC.1.2.2.2.2.2))).trans ?_
    refine (yq 29 rfl (zFS.tag hC.1.1 (j := 0) (by decide) rfl) (zFS.k0 hC.1.1 (j := 0)) (zFS.ni hC.1.1 (j := 0) (by decide) rfl) (by decide) rfl (zrw_up (o := 0) (j := 0) (by decide) hC.2.2.1)).trans ?_
    generalize hP2 : zup P1 0 2 ((vsta Q ((P1 0 0) - 1))) = P2
    refine (ys36v rfl rfl).trans ?_
    rw [show vte P Q x = P2 from by subst hP2 hP1; unfold vte; (try dsimp only); rw [if_pos h4]]; (first | done | rfl)
  · refine (ys36v rfl rfl).trans ?_
    rw [show vte P Q x = P from by unfold vte; (try dsimp only); rw [if_neg h4]]; (first | done | rfl)

def vnum (Q : zFn) (x : Int32) : Int32 := vno Q x (vsiz Q x).toNatClampNeg 0 0
def vsame (Q : zFn) (x u : Int32) : Int32 := vasm Q (vsiz Q x).toNatClampNeg x u
theorem c_num {d b : Nat} {Q J : zFn} {μ : zM} {x : Int32} (hb : zTP μ b) (hZ : zTZ Q) : zden zcds (d + 3) 61 [.ref (b + 0), .int x] (zwi μ (zfl J b 5 Q)) = some (0, some (.int (vnum Q x)), 0, 0, zwi μ (zfl J b 5 Q)) := by
  obtain ⟨n, hn, e⟩ := hZ x
  have h := c_no (d := d) (J := J) (x := x) hb hn e
  unfold vnum
  rw [e, nI_clamp hn]
  exact h
theorem c_same {d b : Nat} {Q J : zFn} {μ : zM} {x u : Int32} (hb : zTP μ b) (hZ : zTZ Q) : zden zcds (d + 3) 60 [.ref (b + 0), .int x, .int u] (zwi μ (zfl J b 5 Q)) = some (0, some (.int (vsame Q x u)), 0, 0, zwi μ (zfl J b 5 Q)) := by
  obtain ⟨n, hn, e⟩ := hZ x
  have h := c_as (d := d) (J := J) (x := x) (u := u) hb hn e
  unfold vsame
  rw [e, nI_clamp hn]
  exact h

theorem c_rn0 {d : Nat} {r w : Nat} {P Q J : zFn} {V : zV} {K : zKn} {μ : zM} (hC : zRC μ r w J Q K) {x y : Int32} (h : ¬ vko Q K (P 0 0) = 3) : zden zcds (d + 4) 44 [.ref (r + 0), .int (x), .int (y)] (zwi μ (zpc (zrl J r P) w V)) = some (0, some (.int 0), 0, 0, zwi μ (zpc (zrl J r P) w V)) := by
  refine (zd_in (d := d + 3) (cd := zc44) (nL := 3) (L := [(0, .ref (r + 0)), (1, .int (x)), (2, .int (y))]) rfl (Nat.le_of_ble_eq_true rfl) rfl).trans ?_
  refine (ys4 1 (v := .ref (r + 0)) rfl rfl rfl rfl).trans ?_
  refine (ys25 4 rfl (v := .ref (3)) rfl rfl).trans ?_
  refine (yc2 7 rfl rfl (Nat.le_of_ble_eq_true rfl) (Or.inr (by show ztg (zwi _ _) _ = _; rw [ztg_wi]; exact (zFS.tag hC.1.1 (j := 0) (by decide) rfl))) rfl rfl (c_ac0 hC (by decide) h)).trans ?_
  refine ys17_1 10 rfl rfl (fun h7 => ?_) (fun h7 => absurd (by decide) h7)
  refine (ys1 11 (x := 0) rfl rfl rfl).trans ?_
  refine (ys36 rfl (by decide)).trans ?_
  rfl

def vrn (P : zFn) (Q : zFn) (x : Int32) (y : Int32) : zFn :=
  let P1 := vat P
  let P2 := zup P1 0 3 ((vnum Q ((P1 0 0) - 1)))
  if (P2 0 3) < x then
    let P3 := vte P2 Q 5
    P3
  else
    if (P2 0 3) ≤ y then
      P2
    else
      let P4 := vte P2 Q 5
      P4

theorem c_rn1 {d : Nat} {r w : Nat} {P Q J : zFn} {V : zV} {K : zKn} {μ : zM} (hC : zRC μ r w J Q K) {x y : Int32} (h : vko Q K (P 0 0) = 3) : zden zcds (d + 4) 44 [.ref (r + 0), .int (x), .int (y)] (zwi μ (zpc (zrl J r P) w V)) = some (0, some (.int 1), 0, 0, zwi μ (zpc (zrl J r ((vrn P Q x y))) w V)) := by
  refine (zd_in (d := d + 3) (cd := zc44) (nL := 3) (L := [(0, .ref (r + 0)), (1, .int (x)), (2, .int (y))]) rfl (Nat.le_of_ble_eq_true rfl) rfl).trans ?_
  refine (ys4 1 (v := .ref (r + 0)) rfl rfl rfl rfl).trans ?_
  refine (ys25 4 rfl (v := .ref (3)) rfl rfl).trans ?_
  refine (yc2 7 rfl rfl (Nat.le_of_ble_eq_true rfl) (Or.inr (by show ztg (zwi _ _) _ = _; rw [ztg_wi]; exact (zFS.tag hC.1.1 (j := 0) (by decide) rfl))) rfl rfl (c_ac1 hC (by decide) h)).trans ?_
  generalize hP1 : vat P = P1
  refine ys17_1 10 rfl rfl (fun h7 => absurd h7 (by decide)) (fun h7 => ?_)
  refine (ys4 13 (v := .ref (r + 0)) rfl rfl rfl rfl).trans ?_
  refine (ys4 14 (v := .ref (r + 0)) rfl rfl rfl rfl).trans ?_
  refine (ygr 17 rfl (zFS.tag hC.1.1 (j := 0) (by decide) rfl) rfl hC.1.2.1).trans ?_
  refine (ys4 18 (v := .ref (r + 0)) rfl rfl rfl rfl).trans ?_
  refine (yg 21 rfl (zFS.tag hC.1.1 (j := 0) (by decide) rfl) (zFS.ni hC.1.1 (j := 0) (by decide) rfl) (by decide) rfl (zrw_at (o := 0) (j := 0) (by decide) hC.2.2.1)).trans ?_
  refine (ys1 22 (x := 1) rfl rfl rfl).trans ?_
  refine (ys7_1 23 rfl rfl).trans ?_
  refine (yc2 26 rfl rfl (Nat.le_of_ble_eq_true rfl) (Or.inr (by show ztg (zwi _ _) _ = _; rw [ztg_wi]; exact (zFS.tag hC.1.2.2.2.2.2.1 (j := 0) (by decide) rfl))) rfl rfl (zlt (zrc_eq hC) (c_num hC.1.2.2.2.2.2 hC.2.2.2.2.2))).trans ?_
  refine (yq 29 rfl (zFS.tag hC.1.1 (j := 0) (by decide) rfl) (zFS.k0 hC.1.1 (j := 0)) (zFS.ni hC.1.1 (j := 0) (by decide) rfl) (by decide) rfl (zrw_up (o := 0) (j := 0) (by decide) hC.2.2.1)).trans ?_
  generalize hP2 : zup P1 0 3 ((vnum Q ((P1 0 0) - 1))) = P2
  refine (ys4 30 (v := .ref (r + 0)) rfl rfl rfl rfl).trans ?_
  refine (yg 33 rfl (zFS.tag hC.1.1 (j := 0) (by decide) rfl) (zFS.ni hC.1.1 (j := 0) (by decide) rfl) (by decide) rfl (zrw_at (o := 0) (j := 0) (by decide) hC.2.2.1)).trans ?_
  refine (ys4 34 (v := .int (x)) rfl rfl rfl rfl).trans ?_
  refine ys18_2 37 rfl rfl (fun h34 => ?_) (fun h34 => ?_)
  · refine (ys4 46 (v := .ref (r + 0)) rfl rfl rfl rfl).trans ?_
    refine (ys1 47 (x := 5) rfl rfl rfl).trans ?_
    refine (yc2 50 rfl rfl (Nat.le_of_ble_eq_true rfl) (Or.inr (by show ztg (zwi _ _) _ = _; rw [ztg_wi]; exact (zFS.tag hC.1.1 (j := 0) (by decide) rfl))) rfl rfl (c_tell hC)).trans ?_
    generalize hP3 : vte P2 Q 5 = P3
    refine (ys1 51 (x := 1) rfl rfl rfl).trans ?_
    refine (ys36 rfl (by decide)).trans ?_
    rw [show vrn P Q x y = P3 from by subst hP3 hP2 hP1; unfold vrn; (try dsimp only); rw [if_pos h34]]; (first | done | rfl)
  · refine (ys4 38 (v := .ref (r + 0)) rfl rfl rfl rfl).trans ?_
    refine (yg 41 rfl (zFS.tag hC.1.1 (j := 0) (by decide) rfl) (zFS.ni hC.1.1 (j := 0) (by decide) rfl) (by decide) rfl (zrw_at (o := 0) (j := 0) (by decide) hC.2.2.1)).trans ?_
    refine (ys4 42 (v := .int (y)) rfl rfl rfl rfl).trans ?_
    refine ys18_5 45 rfl rfl (fun h42 => ?_) (fun h42 => ?_)
    · refine (ys1 51 (x := 1) rfl rfl rfl).trans ?_
      refine (ys36 rfl (by decide)).trans ?_
      rw [show vrn P Q x y = P2 from by subst hP2 hP1; unfold vrn; (try dsimp only); rw [if_neg h34, if_pos h42]]; (first | done | rfl)
    · refine (ys4 46 (v := .ref (r + 0)) rfl rfl rfl rfl).trans ?_
      refine (ys1 47 (x := 5) rfl rfl rfl).trans ?_
      refine (yc2 50 rfl rfl (Nat.le_of_ble_eq_true rfl) (Or.inr (by show ztg (zwi _ _) _ = _; rw [ztg_wi]; exact (zFS.tag hC.1.1 (j := 0) (by decide) rfl))) rfl rfl (c_tell hC)).trans ?_
      generalize hP4 : vte P2 Q 5 = P4
      refine (ys1 51 (x := 1) rfl rfl rfl).trans ?_
      refine (ys36 rfl (by decide)).trans ?_
      rw [show vrn P Q x y = P4 from by subst hP4 hP2 hP1; unfold vrn; (try dsimp only); rw [if_neg h34, if_neg h42]]; (first | done | rfl)

def vrs (P : zFn) (Q : zFn) (K : zKn) : Int32 × zFn :=
  if vko Q K (P 0 0) = 3 then
    let P1 := vrn P Q 0 63
    let P2 := zup P1 0 4 ((P1 0 3))
    if vko Q K (P2 0 0) = 4 then
      let P3 := vat P2
      if vko Q K (P3 0 0) = 3 then
        let P4 := vrn P3 Q 0 63
        let P5 := zup P4 0 5 ((P4 0 3))
        (1, P5)
      else
        (0, P3)
    else
      (0, P2)
  else
    (0, P)

theorem c_rs {d : Nat} {r w : Nat} {P Q J : zFn} {V : zV} {K : zKn} {μ : zM} (hC : zRC μ r w J Q K) : zden zcds (d + 5) 42 [.ref (r + 0)] (zwi μ (zpc (zrl J r P) w V)) = some (0, some (.int ((vrs P Q K).1)), 0, 0, zwi μ (zpc (zrl J r ((vrs P Q K).2)) w V)) := by
  refine (zd_in (d := d + 4) (cd := zc42) (nL := 1) (L := [(0, .ref (r + 0))]) rfl (Nat.le_of_ble_eq_true rfl) rfl).trans ?_
  refine (ys4 1 (v := .ref (r + 0)) rfl rfl rfl rfl).trans ?_
  refine (ys1 2 (x := 0) rfl rfl rfl).trans ?_
  refine (ys1 4 (x := 63) rfl rfl rfl).trans ?_
  by_cases h4 : vko Q K (P 0 0) = 3
  · refine (yc3 7 rfl rfl (Nat.le_of_ble_eq_true rfl) (Or.inr (by show ztg (zwi _ _) _ = _; rw [ztg_wi]; exact (zFS.tag hC.1.1 (j := 0) (by decide) rfl))) rfl rfl (c_rn1 hC h4)).trans ?_
    generalize hP1 : vrn P Q 0 63 = P1
    refine ys17_1 10 rfl rfl (fun h7 => absurd h7 (by decide)) (fun h7 => ?_)
    refine (ys4 13 (v := .ref (r + 0)) rfl rfl rfl rfl).trans ?_
    refine (ys4 14 (v := .ref (r + 0)) rfl rfl rfl rfl).trans ?_
    refine (yg 17 rfl (zFS.tag hC.1.1 (j := 0) (by decide) rfl) (zFS.ni hC.1.1 (j := 0) (by decide) rfl) (by decide) rfl (zrw_at (o := 0) (j := 0) (by decide) hC.2.2.1)).trans ?_
    refine (yq 20 rfl (zFS.tag hC.1.1 (j := 0) (by decide) rfl) (zFS.k0 hC.1.1 (j := 0)) (zFS.ni hC.1.1 (j := 0) (by decide) rfl) (by decide) rfl (zrw_up (o := 0) (j := 0) (by decide) hC.2.2.1)).trans ?_
    generalize hP2 : zup P1 0 4 ((P1 0 3)) = P2
    refine (ys4 21 (v := .ref (r + 0)) rfl rfl rfl rfl).trans ?_
    refine (ys25 24 rfl (v := .ref (4)) rfl rfl).trans ?_
    by_cases h24 : vko Q K (P2 0 0) = 4
    · refine (yc2 27 rfl rfl (Nat.le_of_ble_eq_true rfl) (Or.inr (by show ztg (zwi _ _) _ = _; rw [ztg_wi]; exact (zFS.tag hC.1.1 (j := 0) (by decide) rfl))) rfl rfl (c_ac1 hC (by decide) h24)).trans ?_
      generalize hP3 : vat P2 = P3
      refine ys17_0 30 rfl rfl (fun h27 => absurd h27 (by decide)) (fun h27 => ?_)
      refine (ys4 31 (v := .ref (r + 0)) rfl rfl rfl rfl).trans ?_
      refine (ys1 32 (x := 0) rfl rfl rfl).trans ?_
      refine (ys1 34 (x := 63) rfl rfl rfl).trans ?_
      by_cases h34 : vko Q K (P3 0 0) = 3
      · refine (yc3 37 rfl rfl (Nat.le_of_ble_eq_true rfl) (Or.inr (by show ztg (zwi _ _) _ = _; rw [ztg_wi]; exact (zFS.tag hC.1.1 (j := 0) (by decide) rfl))) rfl rfl (c_rn1 hC h34)).trans ?_
        generalize hP4 : vrn P3 Q 0 63 = P4
        refine ys17_1 40 rfl rfl (fun h37 => absurd h37 (by decide)) (fun h37 => ?_)
        refine (ys4 43 (v := .ref (r + 0)) rfl rfl rfl rfl).trans ?_
        refine (ys4 44 (v := .ref (r + 0)) rfl rfl rfl rfl).trans ?_
        refine (yg 47 rfl (zFS.tag hC.1.1 (j := 0) (by decide) rfl) (zFS.ni hC.1.1 (j := 0) (by decide) rfl) (by decide) rfl (zrw_at (o := 0) (j := 0) (by decide) hC.2.2.1)).trans ?_
        refine (yq 50 rfl (zFS.tag hC.1.1 (j := 0) (by decide) rfl) (zFS.k0 hC.1.1 (j := 0)) (zFS.ni hC.1.1 (j := 0) (by decide) rfl) (by decide) rfl (zrw_up (o := 0) (j := 0) (by decide) hC.2.2.1)).trans ?_
        generalize hP5 : zup P4 0 5 ((P4 0 3)) = P5
        refine (ys1 51 (x := 1) rfl rfl rfl).trans ?_
        refine (ys36 rfl (by decide)).trans ?_
        rw [show vrs P Q K = (1, P5) from by subst hP5 hP4 hP3 hP2 hP1; unfold vrs; (try dsimp only); rw [if_pos h4, if_pos h24, if_pos h34]]; (first | done | rfl)
      · refine (yc3 37 rfl rfl (Nat.le_of_ble_eq_true rfl) (Or.inr (by show ztg (zwi _ _) _ = _; rw [ztg_wi]; exact (zFS.tag hC.1.1 (j := 0) (by decide) rfl))) rfl rfl (c_rn0 hC h34)).trans ?_
        refine ys17_1 40 rfl rfl (fun h37 => ?_) (fun h37 => absurd (by decide) h37)
        refine (ys1 41 (x := 0) rfl rfl rfl).trans ?_
        refine (ys36 rfl (by decide)).trans ?_
        rw [show vrs P Q K = (0, P3) from by subst hP3 hP2 hP1; unfold vrs; (try dsimp only); rw [if_pos h4, if_pos h24, if_neg h34]]; (first | done | rfl)
    · refine (yc2 27 rfl rfl (Nat.le_of_ble_eq_true rfl) (Or.inr (by show ztg (zwi _ _) _ = _; rw [ztg_wi]; exact (zFS.tag hC.1.1 (j := 0) (by decide) rfl))) rfl rfl (c_ac0 hC (by decide) h24)).trans ?_
      refine ys17_0 30 rfl rfl (fun h27 => ?_) (fun h27 => absurd (by decide) h27)
      refine (ys1 41 (x := 0) rfl rfl rfl).trans ?_
      refine (ys36 rfl (by decide)).trans ?_
      rw [show vrs P Q K = (0, P2) from by subst hP2 hP1; unfold vrs; (try dsimp only); rw [if_pos h4, if_neg h24]]; (first | done | rfl)
  · refine (yc3 7 rfl rfl (Nat.le_of_ble_eq_true rfl) (Or.inr (by show ztg (zwi _ _) _ = _; rw [ztg_wi]; exact (zFS.tag hC.1.1 (j := 0) (by decide) rfl))) rfl rfl (c_rn0 hC h4)).trans ?_
    refine ys17_1 10 rfl rfl (fun h7 => ?_) (fun h7 => absurd (by decide) h7)
    refine (ys1 11 (x := 0) rfl rfl rfl).trans ?_
    refine (ys36 rfl (by decide)).trans ?_
    rw [show vrs P Q K = (0, P) from by unfold vrs; (try dsimp only); rw [if_neg h4]]; (first | done | rfl)

def vro (P : zFn) (Q : zFn) (K : zKn) (q : Nat) (x : Int32) (y : Int32) (z : Int32) : Int32 × zFn :=
  if vko Q K (P 0 0) = q then
    let P1 := vat P
    if vko Q K (P1 0 0) = 3 then
      let P2 := vrn P1 Q x y
      (1, P2)
    else
      (0, P1)
  else
    let P3 := zup P 0 3 (z)
    (1, P3)

theorem c_ro {d : Nat} {r w : Nat} {P Q J : zFn} {V : zV} {K : zKn} {μ : zM} (hC : zRC μ r w J Q K) {q : Nat} {x y z : Int32} (hq : q < 20) : zden zcds (d + 5) 43 [.ref (r + 0), .ref (q), .int (x), .int (y), .int (z)] (zwi μ (zpc (zrl J r P) w V)) = some (0, some (.int ((vro P Q K q x y z).1)), 0, 0, zwi μ (zpc (zrl J r ((vro P Q K q x y z).2)) w V)) := by
  refine (zd_in (d := d + 4) (cd := zc43) (nL := 5) (L := [(0, .ref (r + 0)), (1, .ref (q)), (2, .int (x)), (3, .int (y)), (4, .int (z))]) rfl (Nat.le_of_ble_eq_true rfl) rfl).trans ?_
  refine (ys4 1 (v := .ref (r + 0)) rfl rfl rfl rfl).trans ?_
  refine (ys4 2 (v := .ref (q)) rfl rfl rfl rfl).trans ?_
  by_cases h2 : vko Q K (P 0 0) = q
  · refine (yc2 5 rfl rfl (Nat.le_of_ble_eq_true rfl) (Or.inr (by show ztg (zwi _ _) _ = _; rw [ztg_wi]; exact (zFS.tag hC.1.1 (j := 0) (by decide) rfl))) rfl rfl (c_ac1 hC hq h2)).trans ?_
    generalize hP1 : vat P = P1
    refine ys17_0 8 rfl rfl (fun h5 => absurd h5 (by decide)) (fun h5 => ?_)
    refine (ys4 9 (v := .ref (r + 0)) rfl rfl rfl rfl).trans ?_
    refine (ys4 10 (v := .int (x)) rfl rfl rfl rfl).trans ?_
    refine (ys4 11 (v := .int (y)) rfl rfl rfl rfl).trans ?_
    by_cases h11 : vko Q K (P1 0 0) = 3
    · refine (yc3 14 rfl rfl (Nat.le_of_ble_eq_true rfl) (Or.inr (by show ztg (zwi _ _) _ = _; rw [ztg_wi]; exact (zFS.tag hC.1.1 (j := 0) (by decide) rfl))) rfl rfl (c_rn1 hC h11)).trans ?_
      generalize hP2 : vrn P1 Q x y = P2
      refine (ys36 rfl (by decide)).trans ?_
      rw [show vro P Q K q x y z = (1, P2) from by subst hP2 hP1; unfold vro; (try dsimp only); rw [if_pos h2, if_pos h11]]; (first | done | rfl)
    · refine (yc3 14 rfl rfl (Nat.le_of_ble_eq_true rfl) (Or.inr (by show ztg (zwi _ _) _ = _; rw [ztg_wi]; exact (zFS.tag hC.1.1 (j := 0) (by decide) rfl))) rfl rfl (c_rn0 hC h11)).trans ?_
      refine (ys36 rfl (by decide)).trans ?_
      rw [show vro P Q K q x y z = (0, P1) from by subst hP1; unfold vro; (try dsimp only); rw [if_pos h2, if_neg h11]]; (first | done | rfl)
  · refine (yc2 5 rfl rfl (Nat.le_of_ble_eq_true rfl) (Or.inr (by show ztg (zwi _ _) _ = _; rw [ztg_wi]; exact (zFS.tag hC.1.1 (j := 0) (by decide) rfl))) rfl rfl (c_ac0 hC hq h2)).trans ?_
    refine ys17_0 8 rfl rfl (fun h5 => ?_) (fun h5 => absurd (by decide) h5)
    refine (ys4 16 (v := .ref (r + 0)) rfl rfl rfl rfl).trans ?_
    refine (ys4 18 (v := .int (z)) rfl rfl rfl rfl).trans ?_
    refine (yq 21 rfl (zFS.tag hC.1.1 (j := 0) (by decide) rfl) (zFS.k0 hC.1.1 (j := 0)) (zFS.ni hC.1.1 (j := 0) (by decide) rfl) (by decide) rfl (zrw_up (o := 0) (j := 0) (by decide) hC.2.2.1)).trans ?_
    generalize hP3 : zup P 0 3 (z) = P3
    refine (ys1 22 (x := 1) rfl rfl rfl).trans ?_
    refine (ys36 rfl (by decide)).trans ?_
    rw [show vro P Q K q x y z = (1, P3) from by subst hP3; unfold vro; (try dsimp only); rw [if_neg h2]]; (first | done | rfl)

def vfi1 (P : zFn) (Q : zFn) : Nat → Nat → Int32
  | 0, i =>
    (-1)
  | m + 1, i =>
    if (vsame Q (P 1 i) ((P 0 0) - 1)) = 0 then
      vfi1 P Q m (i + 1)
    else
      nI i

theorem l_fi1 {d c sl : Nat} {r w : Nat} {P Q J : zFn} {V : zV} {K : zKn} {μ : zM} (hC : zRC μ r w J Q K) {n : Nat} (hn : n ≤ 6) : ∀ (m i : Nat), i + m = n → zden1 (d + 4) (zden zcds (d + 4)) zc41 (2, [(3, .int (nI i)), (0, .ref (r + 0)), (1, .ref (r + 6)), (2, .int (nI n))], [], c, sl, zwi μ (zpc (zrl J r P) w V)) = some (0, some (.int ((vfi1 P Q m i))), c, sl, zwi μ (zpc (zrl J r P) w V))
  | 0, i, e => by
    refine (ys4 3 (v := .int (nI i)) rfl rfl rfl rfl).trans ?_
    refine (ys4 4 (v := .int (nI n)) rfl rfl rfl rfl).trans ?_
    refine ys18_3 7 rfl rfl (fun h4 => ?_) (fun h4 => absurd (nI_le (by omega) (by omega)) h4)
    refine (ys1 41 (x := (-1)) rfl rfl rfl).trans ?_
    refine (ys36 rfl rfl).trans ?_
    rw [show vfi1 P Q 0 i = (-1) from by rw [vfi1]; (try dsimp only); first | done | rfl]; (first | done | rfl)
  | m + 1, i, e => by
    refine (ys4 3 (v := .int (nI i)) rfl rfl rfl rfl).trans ?_
    refine (ys4 4 (v := .int (nI n)) rfl rfl rfl rfl).trans ?_
    refine ys18_3 7 rfl rfl (fun h4 => absurd h4 (nI_ge (by omega) (by omega))) (fun h4 => ?_)
    refine (ys4 8 (v := .int (nI i)) rfl rfl rfl rfl).trans ?_
    refine (ys4 9 (v := .ref (r + 6)) rfl rfl rfl rfl).trans ?_
    refine (yal 10 (N := 6) rfl (zFS.tag hC.1.1 (j := 6) (by decide) rfl) (zFS.ni hC.1.1 (j := 6) (by decide) rfl) rfl).trans ?_
    refine ys18_3 13 rfl rfl (fun h10 => absurd h10 (nI_ge (by omega) (by omega))) (fun h10 => ?_)
    refine (ys4 14 (v := .ref (r + 0)) rfl rfl rfl rfl).trans ?_
    refine (ygr 17 rfl (zFS.tag hC.1.1 (j := 0) (by decide) rfl) rfl hC.1.2.1).trans ?_
    refine (ys4 18 (v := .ref (r + 6)) rfl rfl rfl rfl).trans ?_
    refine (ys4 19 (v := .int (nI i)) rfl rfl rfl rfl).trans ?_
    refine (ylx 20 (N := 6) rfl (j := i) rfl (Or.inl (zFS.tag hC.1.1 (j := 6) (by decide) rfl)) (zFS.ni hC.1.1 (j := 6) (by decide) rfl) (by omega) (by decide) rfl (zrw_at (o := 6) (j := 1) (by decide) hC.2.2.1)).trans ?_
    refine (ys4 21 (v := .ref (r + 0)) rfl rfl rfl rfl).trans ?_
    refine (yg 24 rfl (zFS.tag hC.1.1 (j := 0) (by decide) rfl) (zFS.ni hC.1.1 (j := 0) (by decide) rfl) (by decide) rfl (zrw_at (o := 0) (j := 0) (by decide) hC.2.2.1)).trans ?_
    refine (ys1 25 (x := 1) rfl rfl rfl).trans ?_
    refine (ys7_1 26 rfl rfl).trans ?_
    refine (yc3 29 rfl rfl (Nat.le_of_ble_eq_true rfl) (Or.inr (by show ztg (zwi _ _) _ = _; rw [ztg_wi]; exact (zFS.tag hC.1.2.2.2.2.2.1 (j := 0) (by decide) rfl))) rfl rfl (zlt (zrc_eq hC) (c_same hC.1.2.2.2.2.2 hC.2.2.2.2.2))).trans ?_
    refine ys17_0 32 rfl rfl (fun h29 => ?_) (fun h29 => ?_)
    · refine (ys6 37 (y := nI (i + 1)) (L2 := [(3, .int (nI (i + 1))), (0, .ref (r + 0)), (1, .ref (r + 6)), (2, .int (nI n))]) rfl rfl (nI_1 _) rfl rfl).trans ?_
      refine (ys19 rfl).trans ?_
      rw [show vfi1 P Q (m + 1) i = vfi1 P Q m (i + 1) from by rw [vfi1]; (try dsimp only); rw [if_pos h29]]; exact l_fi1 hC hn m (i + 1)    (by omega)
    · refine (ys4 33 (v := .int (nI i)) rfl rfl rfl rfl).trans ?_
      refine (ys36 rfl rfl).trans ?_
      rw [show vfi1 P Q (m + 1) i = (nI i) from by rw [vfi1]; (try dsimp only); rw [if_neg h29]]; (first | done | rfl)

theorem c_fi1 {d : Nat} {r w : Nat} {P Q J : zFn} {V : zV} {K : zKn} {μ : zM} (hC : zRC μ r w J Q K) {n : Nat} (hn : n ≤ 6) : zden zcds (d + 5) 41 [.ref (r + 0), .ref (r + 6), .int (nI n)] (zwi μ (zpc (zrl J r P) w V)) = some (0, some (.int (vfi1 P Q n 0)), 0, 0, zwi μ (zpc (zrl J r P) w V)) := by
  refine (zd_in (d := d + 4) (cd := zc41) (nL := 4) (L := [(0, .ref (r + 0)), (1, .ref (r + 6)), (2, .int (nI n))]) rfl (Nat.le_of_ble_eq_true rfl) rfl).trans ?_
  refine (ys1 1 (x := nI 0) rfl rfl rfl).trans ?_
  refine (ys5 2 (L2 := [(3, .int (nI 0)), (0, .ref (r + 0)), (1, .ref (r + 6)), (2, .int (nI n))]) rfl rfl rfl rfl).trans ?_
  exact l_fi1 hC hn n 0 (by omega)

theorem c_nn01 {d : Nat} {r w : Nat} {P Q J : zFn} {V : zV} {K : zKn} {μ : zM} (hC : zRC μ r w J Q K) {n : Nat} (hn : n ≤ 6) (h : ¬ vko Q K (P 0 0) = 2) : zden zcds (d + 6) 39 [.ref (r + 0), .ref (r + 6), .int (nI n)] (zwi μ (zpc (zrl J r P) w V)) = some (0, some (.int 0), 0, 0, zwi μ (zpc (zrl J r P) w V)) := by
  refine (zd_in (d := d + 5) (cd := zc39) (nL := 3) (L := [(0, .ref (r + 0)), (1, .ref (r + 6)), (2, .int (nI n))]) rfl (Nat.le_of_ble_eq_true rfl) rfl).trans ?_
  refine (ys4 1 (v := .ref (r + 0)) rfl rfl rfl rfl).trans ?_
  refine (ys25 4 rfl (v := .ref (2)) rfl rfl).trans ?_
  refine (yc2 7 rfl rfl (Nat.le_of_ble_eq_true rfl) (Or.inr (by show ztg (zwi _ _) _ = _; rw [ztg_wi]; exact (zFS.tag hC.1.1 (j := 0) (by decide) rfl))) rfl rfl (c_ac0 hC (by decide) h)).trans ?_
  refine ys17_1 10 rfl rfl (fun h7 => ?_) (fun h7 => absurd (by decide) h7)
  refine (ys1 11 (x := 0) rfl rfl rfl).trans ?_
  refine (ys36 rfl (by decide)).trans ?_
  rfl

def vnn1 (P : zFn) (Q : zFn) (n : Nat) : zFn :=
  let P1 := vat P
  if (vfi1 P1 Q n 0) < 0 then
    if (nI 6) ≤ (nI n) then
      let P2 := vte P1 Q 4
      P2
    else
      let P3 := zup P1 1 n (((P1 0 0) - 1))
      P3
  else
    let P4 := vte P1 Q 2
    if (nI 6) ≤ (nI n) then
      let P5 := vte P4 Q 4
      P5
    else
      let P6 := zup P4 1 n (((P4 0 0) - 1))
      P6

theorem c_nn11 {d : Nat} {r w : Nat} {P Q J : zFn} {V : zV} {K : zKn} {μ : zM} (hC : zRC μ r w J Q K) {n : Nat} (hn : n ≤ 6) (h : vko Q K (P 0 0) = 2) : zden zcds (d + 6) 39 [.ref (r + 0), .ref (r + 6), .int (nI n)] (zwi μ (zpc (zrl J r P) w V)) = some (0, some (.int 1), 0, 0, zwi μ (zpc (zrl J r ((vnn1 P Q n))) w V)) := by
  refine (zd_in (d := d + 5) (cd := zc39) (nL := 3) (L := [(0, .ref (r + 0)), (1, .ref (r + 6)), (2, .int (nI n))]) rfl (Nat.le_of_ble_eq_true rfl) rfl).trans ?_
  refine (ys4 1 (v := .ref (r + 0)) rfl rfl rfl rfl).trans ?_
  refine (ys25 4 rfl (v := .ref (2)) rfl rfl).trans ?_
  refine (yc2 7 rfl rfl (Nat.le_of_ble_eq_true rfl) (Or.inr (by show ztg (zwi _ _) _ = _; rw [ztg_wi]; exact (zFS.tag hC.1.1 (j := 0) (by decide) rfl))) rfl rfl (c_ac1 hC (by decide) h)).trans ?_
  generalize hP1 : vat P = P1
  refine ys17_1 10 rfl rfl (fun h7 => absurd h7 (by decide)) (fun h7 => ?_)
  refine (ys4 13 (v := .ref (r + 0)) rfl rfl rfl rfl).trans ?_
  refine (ys4 14 (v := .ref (r + 6)) rfl rfl rfl rfl).trans ?_
  refine (ys4 15 (v := .int (nI n)) rfl rfl rfl rfl).trans ?_
  refine (yc3 18 rfl rfl (Nat.le_of_ble_eq_true rfl) (Or.inr (by show ztg (zwi _ _) _ = _; rw [ztg_wi]; exact (zFS.tag hC.1.1 (j := 0) (by decide) rfl))) rfl rfl (c_fi1 hC hn)).trans ?_
  refine ys17_2 21 rfl rfl (fun h18 => ?_) (fun h18 => ?_)
  · refine (ys4 27 (v := .int (nI n)) rfl rfl rfl rfl).trans ?_
    refine ys17_2 30 rfl rfl (fun h27 => absurd h27 (nI_pos (by omega))) (fun h27 => ?_)
    refine (ys4 31 (v := .int (nI n)) rfl rfl rfl rfl).trans ?_
    refine (ys4 32 (v := .ref (r + 6)) rfl rfl rfl rfl).trans ?_
    refine (yal 33 (N := 6) rfl (zFS.tag hC.1.1 (j := 6) (by decide) rfl) (zFS.ni hC.1.1 (j := 6) (by decide) rfl) rfl).trans ?_
    refine ys18_3 36 rfl rfl (fun h33 => ?_) (fun h33 => ?_)
    · refine (ys4 49 (v := .ref (r + 0)) rfl rfl rfl rfl).trans ?_
      refine (ys1 50 (x := 4) rfl rfl rfl).trans ?_
      refine (yc2 53 rfl rfl (Nat.le_of_ble_eq_true rfl) (Or.inr (by show ztg (zwi _ _) _ = _; rw [ztg_wi]; exact (zFS.tag hC.1.1 (j := 0) (by decide) rfl))) rfl rfl (c_tell hC)).trans ?_
      generalize hP2 : vte P1 Q 4 = P2
      refine (ys1 54 (x := 1) rfl rfl rfl).trans ?_
      refine (ys36 rfl (by decide)).trans ?_
      rw [show vnn1 P Q n = P2 from by subst hP2 hP1; unfold vnn1; (try dsimp only); rw [if_pos h18, if_pos h33]]; (first | done | rfl)
    · refine (ys4 37 (v := .ref (r + 6)) rfl rfl rfl rfl).trans ?_
      refine (ys4 38 (v := .int (nI n)) rfl rfl rfl rfl).trans ?_
      refine (ys4 39 (v := .ref (r + 0)) rfl rfl rfl rfl).trans ?_
      refine (yg 42 rfl (zFS.tag hC.1.1 (j := 0) (by decide) rfl) (zFS.ni hC.1.1 (j := 0) (by decide) rfl) (by decide) rfl (zrw_at (o := 0) (j := 0) (by decide) hC.2.2.1)).trans ?_
      refine (ys1 43 (x := 1) rfl rfl rfl).trans ?_
      refine (ys7_1 44 rfl rfl).trans ?_
      refine (ywx 45 (N := 6) rfl (j := n) rfl (zFS.tag hC.1.1 (j := 6) (by decide) rfl) (zFS.k0 hC.1.1 (j := 6)) (zFS.ni hC.1.1 (j := 6) (by decide) rfl) (by rcases Nat.lt_or_ge n 6 with h | h; exact h; exact absurd (nI_le h (by omega)) h33) (by decide) rfl (zrw_up (o := 6) (j := 1) (by decide) hC.2.2.1)).trans ?_
      generalize hP3 : zup P1 1 n (((P1 0 0) - 1)) = P3
      refine (ys19 rfl).trans ?_
      refine (ys1 54 (x := 1) rfl rfl rfl).trans ?_
      refine (ys36 rfl (by decide)).trans ?_
      rw [show vnn1 P Q n = P3 from by subst hP3 hP1; unfold vnn1; (try dsimp only); rw [if_pos h18, if_neg h33]]; (first | done | rfl)
  · refine (ys4 22 (v := .ref (r + 0)) rfl rfl rfl rfl).trans ?_
    refine (ys1 23 (x := 2) rfl rfl rfl).trans ?_
    refine (yc2 26 rfl rfl (Nat.le_of_ble_eq_true rfl) (Or.inr (by show ztg (zwi _ _) _ = _; rw [ztg_wi]; exact (zFS.tag hC.1.1 (j := 0) (by decide) rfl))) rfl rfl (c_tell hC)).trans ?_
    generalize hP4 : vte P1 Q 2 = P4
    refine (ys4 27 (v := .int (nI n)) rfl rfl rfl rfl).trans ?_
    refine ys17_2 30 rfl rfl (fun h27 => absurd h27 (nI_pos (by omega))) (fun h27 => ?_)
    refine (ys4 31 (v := .int (nI n)) rfl rfl rfl rfl).trans ?_
    refine (ys4 32 (v := .ref (r + 6)) rfl rfl rfl rfl).trans ?_
    refine (yal 33 (N := 6) rfl (zFS.tag hC.1.1 (j := 6) (by decide) rfl) (zFS.ni hC.1.1 (j := 6) (by decide) rfl) rfl).trans ?_
    refine ys18_3 36 rfl rfl (fun h33 => ?_) (fun h33 => ?_)
    · refine (ys4 49 (v := .ref (r + 0)) rfl rfl rfl rfl).trans ?_
      refine (ys1 50 (x := 4) rfl rfl rfl).trans ?_
      refine (yc2 53 rfl rfl (Nat.le_of_ble_eq_true rfl) (Or.inr (by show ztg (zwi _ _) _ = _; rw [ztg_wi]; exact (zFS.tag hC.1.1 (j := 0) (by decide) rfl))) rfl rfl (c_tell hC)).trans ?_
      generalize hP5 : vte P4 Q 4 = P5
      refine (ys1 54 (x := 1) rfl rfl rfl).trans ?_
      refine (ys36 rfl (by decide)).trans ?_
      rw [show vnn1 P Q n = P5 from by subst hP5 hP4 hP1; unfold vnn1; (try dsimp only); rw [if_neg h18, if_pos h33]]; (first | done | rfl)
    · refine (ys4 37 (v := .ref (r + 6)) rfl rfl rfl rfl).trans ?_
      refine (ys4 38 (v := .int (nI n)) rfl rfl rfl rfl).trans ?_
      refine (ys4 39 (v := .ref (r + 0)) rfl rfl rfl rfl).trans ?_
      refine (yg 42 rfl (zFS.tag hC.1.1 (j := 0) (by decide) rfl) (zFS.ni hC.1.1 (j := 0) (by decide) rfl) (by decide) rfl (zrw_at (o := 0) (j := 0) (by decide) hC.2.2.1)).trans ?_
      refine (ys1 43 (x := 1) rfl rfl rfl).trans ?_
      refine (ys7_1 44 rfl rfl).trans ?_
      refine (ywx 45 (N := 6) rfl (j := n) rfl (zFS.tag hC.1.1 (j := 6) (by decide) rfl) (zFS.k0 hC.1.1 (j := 6)) (zFS.ni hC.1.1 (j := 6) (by decide) rfl) (by rcases Nat.lt_or_ge n 6 with h | h; exact h; exact absurd (nI_le h (by omega)) h33) (by decide) rfl (zrw_up (o := 6) (j := 1) (by decide) hC.2.2.1)).trans ?_
      generalize hP6 : zup P4 1 n (((P4 0 0) - 1)) = P6
      refine (ys19 rfl).trans ?_
      refine (ys1 54 (x := 1) rfl rfl rfl).trans ?_
      refine (ys36 rfl (by decide)).trans ?_
      rw [show vnn1 P Q n = P6 from by subst hP6 hP4 hP1; unfold vnn1; (try dsimp only); rw [if_neg h18, if_neg h33]]; (first | done | rfl)

theorem c_on01 {d : Nat} {r w : Nat} {P Q J : zFn} {V : zV} {K : zKn} {μ : zM} (hC : zRC μ r w J Q K) {n : Nat} (hn : n ≤ 6) (h : ¬ vko Q K (P 0 0) = 2) : zden zcds (d + 6) 40 [.ref (r + 0), .ref (r + 6), .int (nI n)] (zwi μ (zpc (zrl J r P) w V)) = some (0, some (.int 0), 0, 0, zwi μ (zpc (zrl J r P) w V)) := by
  refine (zd_in (d := d + 5) (cd := zc40) (nL := 3) (L := [(0, .ref (r + 0)), (1, .ref (r + 6)), (2, .int (nI n))]) rfl (Nat.le_of_ble_eq_true rfl) rfl).trans ?_
  refine (ys4 1 (v := .ref (r + 0)) rfl rfl rfl rfl).trans ?_
  refine (ys25 4 rfl (v := .ref (2)) rfl rfl).trans ?_
  refine (yc2 7 rfl rfl (Nat.le_of_ble_eq_true rfl) (Or.inr (by show ztg (zwi _ _) _ = _; rw [ztg_wi]; exact (zFS.tag hC.1.1 (j := 0) (by decide) rfl))) rfl rfl (c_ac0 hC (by decide) h)).trans ?_
  refine ys17_1 10 rfl rfl (fun h7 => ?_) (fun h7 => absurd (by decide) h7)
  refine (ys1 11 (x := 0) rfl rfl rfl).trans ?_
  refine (ys36 rfl (by decide)).trans ?_
  rfl

def von1 (P : zFn) (Q : zFn) (n : Nat) : zFn :=
  let P1 := vat P
  let P2 := zup P1 0 3 ((vfi1 P1 Q n 0))
  if 0 ≤ (P2 0 3) then
    P2
  else
    let P3 := vte P2 Q 3
    let P4 := zup P3 0 3 (0)
    P4

theorem c_on11 {d : Nat} {r w : Nat} {P Q J : zFn} {V : zV} {K : zKn} {μ : zM} (hC : zRC μ r w J Q K) {n : Nat} (hn : n ≤ 6) (h : vko Q K (P 0 0) = 2) : zden zcds (d + 6) 40 [.ref (r + 0), .ref (r + 6), .int (nI n)] (zwi μ (zpc (zrl J r P) w V)) = some (0, some (.int 1), 0, 0, zwi μ (zpc (zrl J r ((von1 P Q n))) w V)) := by
  refine (zd_in (d := d + 5) (cd := zc40) (nL := 3) (L := [(0, .ref (r + 0)), (1, .ref (r + 6)), (2, .int (nI n))]) rfl (Nat.le_of_ble_eq_true rfl) rfl).trans ?_
  refine (ys4 1 (v := .ref (r + 0)) rfl rfl rfl rfl).trans ?_
  refine (ys25 4 rfl (v := .ref (2)) rfl rfl).trans ?_
  refine (yc2 7 rfl rfl (Nat.le_of_ble_eq_true rfl) (Or.inr (by show ztg (zwi _ _) _ = _; rw [ztg_wi]; exact (zFS.tag hC.1.1 (j := 0) (by decide) rfl))) rfl rfl (c_ac1 hC (by decide) h)).trans ?_
  generalize hP1 : vat P = P1
  refine ys17_1 10 rfl rfl (fun h7 => absurd h7 (by decide)) (fun h7 => ?_)
  refine (ys4 13 (v := .ref (r + 0)) rfl rfl rfl rfl).trans ?_
  refine (ys4 14 (v := .ref (r + 0)) rfl rfl rfl rfl).trans ?_
  refine (ys4 15 (v := .ref (r + 6)) rfl rfl rfl rfl).trans ?_
  refine (ys4 16 (v := .int (nI n)) rfl rfl rfl rfl).trans ?_
  refine (yc3 19 rfl rfl (Nat.le_of_ble_eq_true rfl) (Or.inr (by show ztg (zwi _ _) _ = _; rw [ztg_wi]; exact (zFS.tag hC.1.1 (j := 0) (by decide) rfl))) rfl rfl (c_fi1 hC hn)).trans ?_
  refine (yq 22 rfl (zFS.tag hC.1.1 (j := 0) (by decide) rfl) (zFS.k0 hC.1.1 (j := 0)) (zFS.ni hC.1.1 (j := 0) (by decide) rfl) (by decide) rfl (zrw_up (o := 0) (j := 0) (by decide) hC.2.2.1)).trans ?_
  generalize hP2 : zup P1 0 3 ((vfi1 P1 Q n 0)) = P2
  refine (ys4 23 (v := .ref (r + 0)) rfl rfl rfl rfl).trans ?_
  refine (yg 26 rfl (zFS.tag hC.1.1 (j := 0) (by decide) rfl) (zFS.ni hC.1.1 (j := 0) (by decide) rfl) (by decide) rfl (zrw_at (o := 0) (j := 0) (by decide) hC.2.2.1)).trans ?_
  refine ys17_3 29 rfl rfl (fun h26 => ?_) (fun h26 => ?_)
  · refine (ys1 40 (x := 1) rfl rfl rfl).trans ?_
    refine (ys36 rfl (by decide)).trans ?_
    rw [show von1 P Q n = P2 from by subst hP2 hP1; unfold von1; (try dsimp only); rw [if_pos h26]]; (first | done | rfl)
  · refine (ys4 30 (v := .ref (r + 0)) rfl rfl rfl rfl).trans ?_
    refine (ys1 31 (x := 3) rfl rfl rfl).trans ?_
    refine (yc2 34 rfl rfl (Nat.le_of_ble_eq_true rfl) (Or.inr (by show ztg (zwi _ _) _ = _; rw [ztg_wi]; exact (zFS.tag hC.1.1 (j := 0) (by decide) rfl))) rfl rfl (c_tell hC)).trans ?_
    generalize hP3 : vte P2 Q 3 = P3
    refine (ys4 35 (v := .ref (r + 0)) rfl rfl rfl rfl).trans ?_
    refine (ys1 36 (x := 0) rfl rfl rfl).trans ?_
    refine (yq 39 rfl (zFS.tag hC.1.1 (j := 0) (by decide) rfl) (zFS.k0 hC.1.1 (j := 0)) (zFS.ni hC.1.1 (j := 0) (by decide) rfl) (by decide) rfl (zrw_up (o := 0) (j := 0) (by decide) hC.2.2.1)).trans ?_
    generalize hP4 : zup P3 0 3 (0) = P4
    refine (ys1 40 (x := 1) rfl rfl rfl).trans ?_
    refine (ys36 rfl (by decide)).trans ?_
    rw [show von1 P Q n = P4 from by subst hP4 hP3 hP2 hP1; unfold von1; (try dsimp only); rw [if_neg h26]]; (first | done | rfl)

def vfi2 (P : zFn) (Q : zFn) : Nat → Nat → Int32
  | 0, i =>
    (-1)
  | m + 1, i =>
    if (vsame Q (P 2 i) ((P 0 0) - 1)) = 0 then
      vfi2 P Q m (i + 1)
    else
      nI i

theorem l_fi2 {d c sl : Nat} {r w : Nat} {P Q J : zFn} {V : zV} {K : zKn} {μ : zM} (hC : zRC μ r w J Q K) {n : Nat} (hn : n ≤ 20) : ∀ (m i : Nat), i + m = n → zden1 (d + 4) (zden zcds (d + 4)) zc41 (2, [(3, .int (nI i)), (0, .ref (r + 0)), (1, .ref (r + 7)), (2, .int (nI n))], [], c, sl, zwi μ (zpc (zrl J r P) w V)) = some (0, some (.int ((vfi2 P Q m i))), c, sl, zwi μ (zpc (zrl J r P) w V))
  | 0, i, e => by
    refine (ys4 3 (v := .int (nI i)) rfl rfl rfl rfl).trans ?_
    refine (ys4 4 (v := .int (nI n)) rfl rfl rfl rfl).trans ?_
    refine ys18_3 7 rfl rfl (fun h4 => ?_) (fun h4 => absurd (nI_le (by omega) (by omega)) h4)
    refine (ys1 41 (x := (-1)) rfl rfl rfl).trans ?_
    refine (ys36 rfl rfl).trans ?_
    rw [show vfi2 P Q 0 i = (-1) from by rw [vfi2]; (try dsimp only); first | done | rfl]; (first | done | rfl)
  | m + 1, i, e => by
    refine (ys4 3 (v := .int (nI i)) rfl rfl rfl rfl).trans ?_
    refine (ys4 4 (v := .int (nI n)) rfl rfl rfl rfl).trans ?_
    refine ys18_3 7 rfl rfl (fun h4 => absurd h4 (nI_ge (by omega) (by omega))) (fun h4 => ?_)
    refine (ys4 8 (v := .int (nI i)) rfl rfl rfl rfl).trans ?_
    refine (ys4 9 (v := .ref (r + 7)) rfl rfl rfl rfl).trans ?_
    refine (yal 10 (N := 20) rfl (zFS.tag hC.1.1 (j := 7) (by decide) rfl) (zFS.ni hC.1.1 (j := 7) (by decide) rfl) rfl).trans ?_
    refine ys18_3 13 rfl rfl (fun h10 => absurd h10 (nI_ge (by omega) (by omega))) (fun h10 => ?_)
    refine (ys4 14 (v := .ref (r + 0)) rfl rfl rfl rfl).trans ?_
    refine (ygr 17 rfl (zFS.tag hC.1.1 (j := 0) (by decide) rfl) rfl hC.1.2.1).trans ?_
    refine (ys4 18 (v := .ref (r + 7)) rfl rfl rfl rfl).trans ?_
    refine (ys4 19 (v := .int (nI i)) rfl rfl rfl rfl).trans ?_
    refine (ylx 20 (N := 20) rfl (j := i) rfl (Or.inl (zFS.tag hC.1.1 (j := 7) (by decide) rfl)) (zFS.ni hC.1.1 (j := 7) (by decide) rfl) (by omega) (by decide) rfl (zrw_at (o := 7) (j := 2) (by decide) hC.2.2.1)).trans ?_
    refine (ys4 21 (v := .ref (r + 0)) rfl rfl rfl rfl).trans ?_
    refine (yg 24 rfl (zFS.tag hC.1.1 (j := 0) (by decide) rfl) (zFS.ni hC.1.1 (j := 0) (by decide) rfl) (by decide) rfl (zrw_at (o := 0) (j := 0) (by decide) hC.2.2.1)).trans ?_
    refine (ys1 25 (x := 1) rfl rfl rfl).trans ?_
    refine (ys7_1 26 rfl rfl).trans ?_
    refine (yc3 29 rfl rfl (Nat.le_of_ble_eq_true rfl) (Or.inr (by show ztg (zwi _ _) _ = _; rw [ztg_wi]; exact (zFS.tag hC.1.2.2.2.2.2.1 (j := 0) (by decide) rfl))) rfl rfl (zlt (zrc_eq hC) (c_same hC.1.2.2.2.2.2 hC.2.2.2.2.2))).trans ?_
    refine ys17_0 32 rfl rfl (fun h29 => ?_) (fun h29 => ?_)
    · refine (ys6 37 (y := nI (i + 1)) (L2 := [(3, .int (nI (i + 1))), (0, .ref (r + 0)), (1, .ref (r + 7)), (2, .int (nI n))]) rfl rfl (nI_1 _) rfl rfl).trans ?_
      refine (ys19 rfl).trans ?_
      rw [show vfi2 P Q (m + 1) i = vfi2 P Q m (i + 1) from by rw [vfi2]; (try dsimp only); rw [if_pos h29]]; exact l_fi2 hC hn m (i + 1)    (by omega)
    · refine (ys4 33 (v := .int (nI i)) rfl rfl rfl rfl).trans ?_
      refine (ys36 rfl rfl).trans ?_
      rw [show vfi2 P Q (m + 1) i = (nI i) from by rw [vfi2]; (try dsimp only); rw [if_neg h29]]; (first | done | rfl)

theorem c_fi2 {d : Nat} {r w : Nat} {P Q J : zFn} {V : zV} {K : zKn} {μ : zM} (hC : zRC μ r w J Q K) {n : Nat} (hn : n ≤ 20) : zden zcds (d + 5) 41 [.ref (r + 0), .ref (r + 7), .int (nI n)] (zwi μ (zpc (zrl J r P) w V)) = some (0, some (.int (vfi2 P Q n 0)), 0, 0, zwi μ (zpc (zrl J r P) w V)) := by
  refine (zd_in (d := d + 4) (cd := zc41) (nL := 4) (L := [(0, .ref (r + 0)), (1, .ref (r + 7)), (2, .int (nI n))]) rfl (Nat.le_of_ble_eq_true rfl) rfl).trans ?_
  refine (ys1 1 (x := nI 0) rfl rfl rfl).trans ?_
  refine (ys5 2 (L2 := [(3, .int (nI 0)), (0, .ref (r + 0)), (1, .ref (r + 7)), (2, .int (nI n))]) rfl rfl rfl rfl).trans ?_
  exact l_fi2 hC hn n 0 (by omega)

theorem c_nn02 {d : Nat} {r w : Nat} {P Q J : zFn} {V : zV} {K : zKn} {μ : zM} (hC : zRC μ r w J Q K) {n : Nat} (hn : n ≤ 20) (h : ¬ vko Q K (P 0 0) = 2) : zden zcds (d + 6) 39 [.ref (r + 0), .ref (r + 7), .int (nI n)] (zwi μ (zpc (zrl J r P) w V)) = some (0, some (.int 0), 0, 0, zwi μ (zpc (zrl J r P) w V)) := by
  refine (zd_in (d := d + 5) (cd := zc39) (nL := 3) (L := [(0, .ref (r + 0)), (1, .ref (r + 7)), (2, .int (nI n))]) rfl (Nat.le_of_ble_eq_true rfl) rfl).trans ?_
  refine (ys4 1 (v := .ref (r + 0)) rfl rfl rfl rfl).trans ?_
  refine (ys25 4 rfl (v := .ref (2)) rfl rfl).trans ?_
  refine (yc2 7 rfl rfl (Nat.le_of_ble_eq_true rfl) (Or.inr (by show ztg (zwi _ _) _ = _; rw [ztg_wi]; exact (zFS.tag hC.1.1 (j := 0) (by decide) rfl))) rfl rfl (c_ac0 hC (by decide) h)).trans ?_
  refine ys17_1 10 rfl rfl (fun h7 => ?_) (fun h7 => absurd (by decide) h7)
  refine (ys1 11 (x := 0) rfl rfl rfl).trans ?_
  refine (ys36 rfl (by decide)).trans ?_
  rfl

def vnn2 (P : zFn) (Q : zFn) (n : Nat) : zFn :=
  let P1 := vat P
  if (vfi2 P1 Q n 0) < 0 then
    if (nI 20) ≤ (nI n) then
      let P2 := vte P1 Q 4
      P2
    else
      let P3 := zup P1 2 n (((P1 0 0) - 1))
      P3
  else
    let P4 := vte P1 Q 2
    if (nI 20) ≤ (nI n) then
      let P5 := vte P4 Q 4
      P5
    else
      let P6 := zup P4 2 n (((P4 0 0) - 1))
      P6

theorem c_nn12 {d : Nat} {r w : Nat} {P Q J : zFn} {V : zV} {K : zKn} {μ : zM} (hC : zRC μ r w J Q K) {n : Nat} (hn : n ≤ 20) (h : vko Q K (P 0 0) = 2) : zden zcds (d + 6) 39 [.ref (r + 0), .ref (r + 7), .int (nI n)] (zwi μ (zpc (zrl J r P) w V)) = some (0, some (.int 1), 0, 0, zwi μ (zpc (zrl J r ((vnn2 P Q n))) w V)) := by
  refine (zd_in (d := d + 5) (cd := zc39) (nL := 3) (L := [(0, .ref (r + 0)), (1, .ref (r + 7)), (2, .int (nI n))]) rfl (Nat.le_of_ble_eq_true rfl) rfl).trans ?_
  refine (ys4 1 (v := .ref (r + 0)) rfl rfl rfl rfl).trans ?_
  refine (ys25 4 rfl (v := .ref (2)) rfl rfl).trans ?_
  refine (yc2 7 rfl rfl (Nat.le_of_ble_eq_true rfl) (Or.inr (by show ztg (zwi _ _) _ = _; rw [ztg_wi]; exact (zFS.tag hC.1.1 (j := 0) (by decide) rfl))) rfl rfl (c_ac1 hC (by decide) h)).trans ?_
  generalize hP1 : vat P = P1
  refine ys17_1 10 rfl rfl (fun h7 => absurd h7 (by decide)) (fun h7 => ?_)
  refine (ys4 13 (v := .ref (r + 0)) rfl rfl rfl rfl).trans ?_
  refine (ys4 14 (v := .ref (r + 7)) rfl rfl rfl rfl).trans ?_
  refine (ys4 15 (v := .int (nI n)) rfl rfl rfl rfl).trans ?_
  refine (yc3 18 rfl rfl (Nat.le_of_ble_eq_true rfl) (Or.inr (by show ztg (zwi _ _) _ = _; rw [ztg_wi]; exact (zFS.tag hC.1.1 (j := 0) (by decide) rfl))) rfl rfl (c_fi2 hC hn)).trans ?_
  refine ys17_2 21 rfl rfl (fun h18 => ?_) (fun h18 => ?_)
  · refine (ys4 27 (v := .int (nI n)) rfl rfl rfl rfl).trans ?_
    refine ys17_2 30 rfl rfl (fun h27 => absurd h27 (nI_pos (by omega))) (fun h27 => ?_)
    refine (ys4 31 (v := .int (nI n)) rfl rfl rfl rfl).trans ?_
    refine (ys4 32 (v := .ref (r + 7)) rfl rfl rfl rfl).trans ?_
    refine (yal 33 (N := 20) rfl (zFS.tag hC.1.1 (j := 7) (by decide) rfl) (zFS.ni hC.1.1 (j := 7) (by decide) rfl) rfl).trans ?_
    refine ys18_3 36 rfl rfl (fun h33 => ?_) (fun h33 => ?_)
    · refine (ys4 49 (v := .ref (r + 0)) rfl rfl rfl rfl).trans ?_
      refine (ys1 50 (x := 4) rfl rfl rfl).trans ?_
      refine (yc2 53 rfl rfl (Nat.le_of_ble_eq_true rfl) (Or.inr (by show ztg (zwi _ _) _ = _; rw [ztg_wi]; exact (zFS.tag hC.1.1 (j := 0) (by decide) rfl))) rfl rfl (c_tell hC)).trans ?_
      generalize hP2 : vte P1 Q 4 = P2
      refine (ys1 54 (x := 1) rfl rfl rfl).trans ?_
      refine (ys36 rfl (by decide)).trans ?_
      rw [show vnn2 P Q n = P2 from by subst hP2 hP1; unfold vnn2; (try dsimp only); rw [if_pos h18, if_pos h33]]; (first | done | rfl)
    · refine (ys4 37 (v := .ref (r + 7)) rfl rfl rfl rfl).trans ?_
      refine (ys4 38 (v := .int (nI n)) rfl rfl rfl rfl).trans ?_
      refine (ys4 39 (v := .ref (r + 0)) rfl rfl rfl rfl).trans ?_
      refine (yg 42 rfl (zFS.tag hC.1.1 (j := 0) (by decide) rfl) (zFS.ni hC.1.1 (j := 0) (by decide) rfl) (by decide) rfl (zrw_at (o := 0) (j := 0) (by decide) hC.2.2.1)).trans ?_
      refine (ys1 43 (x := 1) rfl rfl rfl).trans ?_
      refine (ys7_1 44 rfl rfl).trans ?_
      refine (ywx 45 (N := 20) rfl (j := n) rfl (zFS.tag hC.1.1 (j := 7) (by decide) rfl) (zFS.k0 hC.1.1 (j := 7)) (zFS.ni hC.1.1 (j := 7) (by decide) rfl) (by rcases Nat.lt_or_ge n 20 with h | h; exact h; exact absurd (nI_le h (by omega)) h33) (by decide) rfl (zrw_up (o := 7) (j := 2) (by decide) hC.2.2.1)).trans ?_
      generalize hP3 : zup P1 2 n (((P1 0 0) - 1)) = P3
      refine (ys19 rfl).trans ?_
      refine (ys1 54 (x := 1) rfl rfl rfl).trans ?_
      refine (ys36 rfl (by decide)).trans ?_
      rw [show vnn2 P Q n = P3 from by subst hP3 hP1; unfold vnn2; (try dsimp only); rw [if_pos h18, if_neg h33]]; (first | done | rfl)
  · refine (ys4 22 (v := .ref (r + 0)) rfl rfl rfl rfl).trans ?_
    refine (ys1 23 (x := 2) rfl rfl rfl).trans ?_
    refine (yc2 26 rfl rfl (Nat.le_of_ble_eq_true rfl) (Or.inr (by show ztg (zwi _ _) _ = _; rw [ztg_wi]; exact (zFS.tag hC.1.1 (j := 0) (by decide) rfl))) rfl rfl (c_tell hC)).trans ?_
    generalize hP4 : vte P1 Q 2 = P4
    refine (ys4 27 (v := .int (nI n)) rfl rfl rfl rfl).trans ?_
    refine ys17_2 30 rfl rfl (fun h27 => absurd h27 (nI_pos (by omega))) (fun h27 => ?_)
    refine (ys4 31 (v := .int (nI n)) rfl rfl rfl rfl).trans ?_
    refine (ys4 32 (v := .ref (r + 7)) rfl rfl rfl rfl).trans ?_
    refine (yal 33 (N := 20) rfl (zFS.tag hC.1.1 (j := 7) (by decide) rfl) (zFS.ni hC.1.1 (j := 7) (by decide) rfl) rfl).trans ?_
    refine ys18_3 36 rfl rfl (fun h33 => ?_) (fun h33 => ?_)
    · refine (ys4 49 (v := .ref (r + 0)) rfl rfl rfl rfl).trans ?_
      refine (ys1 50 (x := 4) rfl rfl rfl).trans ?_
      refine (yc2 53 rfl rfl (Nat.le_of_ble_eq_true rfl) (Or.inr (by show ztg (zwi _ _) _ = _; rw [ztg_wi]; exact (zFS.tag hC.1.1 (j := 0) (by decide) rfl))) rfl rfl (c_tell hC)).trans ?_
      generalize hP5 : vte P4 Q 4 = P5
      refine (ys1 54 (x := 1) rfl rfl rfl).trans ?_
      refine (ys36 rfl (by decide)).trans ?_
      rw [show vnn2 P Q n = P5 from by subst hP5 hP4 hP1; unfold vnn2; (try dsimp only); rw [if_neg h18, if_pos h33]]; (first | done | rfl)
    · refine (ys4 37 (v := .ref (r + 7)) rfl rfl rfl rfl).trans ?_
      refine (ys4 38 (v := .int (nI n)) rfl rfl rfl rfl).trans ?_
      refine (ys4 39 (v := .ref (r + 0)) rfl rfl rfl rfl).trans ?_
      refine (yg 42 rfl (zFS.tag hC.1.1 (j := 0) (by decide) rfl) (zFS.ni hC.1.1 (j := 0) (by decide) rfl) (by decide) rfl (zrw_at (o := 0) (j := 0) (by decide) hC.2.2.1)).trans ?_
      refine (ys1 43 (x := 1) rfl rfl rfl).trans ?_
      refine (ys7_1 44 rfl rfl).trans ?_
      refine (ywx 45 (N := 20) rfl (j := n) rfl (zFS.tag hC.1.1 (j := 7) (by decide) rfl) (zFS.k0 hC.1.1 (j := 7)) (zFS.ni hC.1.1 (j := 7) (by decide) rfl) (by rcases Nat.lt_or_ge n 20 with h | h; exact h; exact absurd (nI_le h (by omega)) h33) (by decide) rfl (zrw_up (o := 7) (j := 2) (by decide) hC.2.2.1)).trans ?_
      generalize hP6 : zup P4 2 n (((P4 0 0) - 1)) = P6
      refine (ys19 rfl).trans ?_
      refine (ys1 54 (x := 1) rfl rfl rfl).trans ?_
      refine (ys36 rfl (by decide)).trans ?_
      rw [show vnn2 P Q n = P6 from by subst hP6 hP4 hP1; unfold vnn2; (try dsimp only); rw [if_neg h18, if_neg h33]]; (first | done | rfl)

theorem c_on02 {d : Nat} {r w : Nat} {P Q J : zFn} {V : zV} {K : zKn} {μ : zM} (hC : zRC μ r w J Q K) {n : Nat} (hn : n ≤ 20) (h : ¬ vko Q K (P 0 0) = 2) : zden zcds (d + 6) 40 [.ref (r + 0), .ref (r + 7), .int (nI n)] (zwi μ (zpc (zrl J r P) w V)) = some (0, some (.int 0), 0, 0, zwi μ (zpc (zrl J r P) w V)) := by
  refine (zd_in (d := d + 5) (cd := zc40) (nL := 3) (L := [(0, .ref (r + 0)), (1, .ref (r + 7)), (2, .int (nI n))]) rfl (Nat.le_of_ble_eq_true rfl) rfl).trans ?_
  refine (ys4 1 (v := .ref (r + 0)) rfl rfl rfl rfl).trans ?_
  refine (ys25 4 rfl (v := .ref (2)) rfl rfl).trans ?_
  refine (yc2 7 rfl rfl (Nat.le_of_ble_eq_true rfl) (Or.inr (by show ztg (zwi _ _) _ = _; rw [ztg_wi]; exact (zFS.tag hC.1.1 (j := 0) (by decide) rfl))) rfl rfl (c_ac0 hC (by decide) h)).trans ?_
  refine ys17_1 10 rfl rfl (fun h7 => ?_) (fun h7 => absurd (by decide) h7)
  refine (ys1 11 (x := 0) rfl rfl rfl).trans ?_
  refine (ys36 rfl (by decide)).trans ?_
  rfl

def von2 (P : zFn) (Q : zFn) (n : Nat) : zFn :=
  let P1 := vat P
  let P2 := zup P1 0 3 ((vfi2 P1 Q n 0))
  if 0 ≤ (P2 0 3) then
    P2
  else
    let P3 := vte P2 Q 3
    let P4 := zup P3 0 3 (0)
    P4

theorem c_on12 {d : Nat} {r w : Nat} {P Q J : zFn} {V : zV} {K : zKn} {μ : zM} (hC : zRC μ r w J Q K) {n : Nat} (hn : n ≤ 20) (h : vko Q K (P 0 0) = 2) : zden zcds (d + 6) 40 [.ref (r + 0), .ref (r + 7), .int (nI n)] (zwi μ (zpc (zrl J r P) w V)) = some (0, some (.int 1), 0, 0, zwi μ (zpc (zrl J r ((von2 P Q n))) w V)) := by
  refine (zd_in (d := d + 5) (cd := zc40) (nL := 3) (L := [(0, .ref (r + 0)), (1, .ref (r + 7)), (2, .int (nI n))]) rfl (Nat.le_of_ble_eq_true rfl) rfl).trans ?_
  refine (ys4 1 (v := .ref (r + 0)) rfl rfl rfl rfl).trans ?_
  refine (ys25 4 rfl (v := .ref (2)) rfl rfl).trans ?_
  refine (yc2 7 rfl rfl (Nat.le_of_ble_eq_true rfl) (Or.inr (by show ztg (zwi _ _) _ = _; rw [ztg_wi]; exact (zFS.tag hC.1.1 (j := 0) (by decide) rfl))) rfl rfl (c_ac1 hC (by decide) h)).trans ?_
  generalize hP1 : vat P = P1
  refine ys17_1 10 rfl rfl (fun h7 => absurd h7 (by decide)) (fun h7 => ?_)
  refine (ys4 13 (v := .ref (r + 0)) rfl rfl rfl rfl).trans ?_
  refine (ys4 14 (v := .ref (r + 0)) rfl rfl rfl rfl).trans ?_
  refine (ys4 15 (v := .ref (r + 7)) rfl rfl rfl rfl).trans ?_
  refine (ys4 16 (v := .int (nI n)) rfl rfl rfl rfl).trans ?_
  refine (yc3 19 rfl rfl (Nat.le_of_ble_eq_true rfl) (Or.inr (by show ztg (zwi _ _) _ = _; rw [ztg_wi]; exact (zFS.tag hC.1.1 (j := 0) (by decide) rfl))) rfl rfl (c_fi2 hC hn)).trans ?_
  refine (yq 22 rfl (zFS.tag hC.1.1 (j := 0) (by decide) rfl) (zFS.k0 hC.1.1 (j := 0)) (zFS.ni hC.1.1 (j := 0) (by decide) rfl) (by decide) rfl (zrw_up (o := 0) (j := 0) (by decide) hC.2.2.1)).trans ?_
  generalize hP2 : zup P1 0 3 ((vfi2 P1 Q n 0)) = P2
  refine (ys4 23 (v := .ref (r + 0)) rfl rfl rfl rfl).trans ?_
  refine (yg 26 rfl (zFS.tag hC.1.1 (j := 0) (by decide) rfl) (zFS.ni hC.1.1 (j := 0) (by decide) rfl) (by decide) rfl (zrw_at (o := 0) (j := 0) (by decide) hC.2.2.1)).trans ?_
  refine ys17_3 29 rfl rfl (fun h26 => ?_) (fun h26 => ?_)
  · refine (ys1 40 (x := 1) rfl rfl rfl).trans ?_
    refine (ys36 rfl (by decide)).trans ?_
    rw [show von2 P Q n = P2 from by subst hP2 hP1; unfold von2; (try dsimp only); rw [if_pos h26]]; (first | done | rfl)
  · refine (ys4 30 (v := .ref (r + 0)) rfl rfl rfl rfl).trans ?_
    refine (ys1 31 (x := 3) rfl rfl rfl).trans ?_
    refine (yc2 34 rfl rfl (Nat.le_of_ble_eq_true rfl) (Or.inr (by show ztg (zwi _ _) _ = _; rw [ztg_wi]; exact (zFS.tag hC.1.1 (j := 0) (by decide) rfl))) rfl rfl (c_tell hC)).trans ?_
    generalize hP3 : vte P2 Q 3 = P3
    refine (ys4 35 (v := .ref (r + 0)) rfl rfl rfl rfl).trans ?_
    refine (ys1 36 (x := 0) rfl rfl rfl).trans ?_
    refine (yq 39 rfl (zFS.tag hC.1.1 (j := 0) (by decide) rfl) (zFS.k0 hC.1.1 (j := 0)) (zFS.ni hC.1.1 (j := 0) (by decide) rfl) (by decide) rfl (zrw_up (o := 0) (j := 0) (by decide) hC.2.2.1)).trans ?_
    generalize hP4 : zup P3 0 3 (0) = P4
    refine (ys1 40 (x := 1) rfl rfl rfl).trans ?_
    refine (ys36 rfl (by decide)).trans ?_
    rw [show von2 P Q n = P4 from by subst hP4 hP3 hP2 hP1; unfold von2; (try dsimp only); rw [if_neg h26]]; (first | done | rfl)

def vfi3 (P : zFn) (Q : zFn) : Nat → Nat → Int32
  | 0, i =>
    (-1)
  | m + 1, i =>
    if (vsame Q (P 3 i) ((P 0 0) - 1)) = 0 then
      vfi3 P Q m (i + 1)
    else
      nI i

theorem l_fi3 {d c sl : Nat} {r w : Nat} {P Q J : zFn} {V : zV} {K : zKn} {μ : zM} (hC : zRC μ r w J Q K) {n : Nat} (hn : n ≤ 12) : ∀ (m i : Nat), i + m = n → zden1 (d + 4) (zden zcds (d + 4)) zc41 (2, [(3, .int (nI i)), (0, .ref (r + 0)), (1, .ref (r + 8)), (2, .int (nI n))], [], c, sl, zwi μ (zpc (zrl J r P) w V)) = some (0, some (.int ((vfi3 P Q m i))), c, sl, zwi μ (zpc (zrl J r P) w V))
  | 0, i, e => by
    refine (ys4 3 (v := .int (nI i)) rfl rfl rfl rfl).trans ?_
    refine (ys4 4 (v := .int (nI n)) rfl rfl rfl rfl).trans ?_
    refine ys18_3 7 rfl rfl (fun h4 => ?_) (fun h4 => absurd (nI_le (by omega) (by omega)) h4)
    refine (ys1 41 (x := (-1)) rfl rfl rfl).trans ?_
    refine (ys36 rfl rfl).trans ?_
    rw [show vfi3 P Q 0 i = (-1) from by rw [vfi3]; (try dsimp only); first | done | rfl]; (first | done | rfl)
  | m + 1, i, e => by
    refine (ys4 3 (v := .int (nI i)) rfl rfl rfl rfl).trans ?_
    refine (ys4 4 (v := .int (nI n)) rfl rfl rfl rfl).trans ?_
    refine ys18_3 7 rfl rfl (fun h4 => absurd h4 (nI_ge (by omega) (by omega))) (fun h4 => ?_)
    refine (ys4 8 (v := .int (nI i)) rfl rfl rfl rfl).trans ?_
    refine (ys4 9 (v := .ref (r + 8)) rfl rfl rfl rfl).trans ?_
    refine (yal 10 (N := 12) rfl (zFS.tag hC.1.1 (j := 8) (by decide) rfl) (zFS.ni hC.1.1 (j := 8) (by decide) rfl) rfl).trans ?_
    refine ys18_3 13 rfl rfl (fun h10 => absurd h10 (nI_ge (by omega) (by omega))) (fun h10 => ?_)
    refine (ys4 14 (v := .ref (r + 0)) rfl rfl rfl rfl).trans ?_
    refine (ygr 17 rfl (zFS.tag hC.1.1 (j := 0) (by decide) rfl) rfl hC.1.2.1).trans ?_
    refine (ys4 18 (v := .ref (r + 8)) rfl rfl rfl rfl).trans ?_
    refine (ys4 19 (v := .int (nI i)) rfl rfl rfl rfl).trans ?_
    refine (ylx 20 (N := 12) rfl (j := i) rfl (Or.inl (zFS.tag hC.1.1 (j := 8) (by decide) rfl)) (zFS.ni hC.1.1 (j := 8) (by decide) rfl) (by omega) (by decide) rfl (zrw_at (o := 8) (j := 3) (by decide) hC.2.2.1)).trans ?_
    refine (ys4 21 (v := .ref (r + 0)) rfl rfl rfl rfl).trans ?_
    refine (yg 24 rfl (zFS.tag hC.1.1 (j := 0) (by decide) rfl) (zFS.ni hC.1.1 (j := 0) (by decide) rfl) (by decide) rfl (zrw_at (o := 0) (j := 0) (by decide) hC.2.2.1)).trans ?_
    refine (ys1 25 (x := 1) rfl rfl rfl).trans ?_
    refine (ys7_1 26 rfl rfl).trans ?_
    refine (yc3 29 rfl rfl (Nat.le_of_ble_eq_true rfl) (Or.inr (by show ztg (zwi _ _) _ = _; rw [ztg_wi]; exact (zFS.tag hC.1.2.2.2.2.2.1 (j := 0) (by decide) rfl))) rfl rfl (zlt (zrc_eq hC) (c_same hC.1.2.2.2.2.2 hC.2.2.2.2.2))).trans ?_
    refine ys17_0 32 rfl rfl (fun h29 => ?_) (fun h29 => ?_)
    · refine (ys6 37 (y := nI (i + 1)) (L2 := [(3, .int (nI (i + 1))), (0, .ref (r + 0)), (1, .ref (r + 8)), (2, .int (nI n))]) rfl rfl (nI_1 _) rfl rfl).trans ?_
      refine (ys19 rfl).trans ?_
      rw [show vfi3 P Q (m + 1) i = vfi3 P Q m (i + 1) from by rw [vfi3]; (try dsimp only); rw [if_pos h29]]; exact l_fi3 hC hn m (i + 1)    (by omega)
    · refine (ys4 33 (v := .int (nI i)) rfl rfl rfl rfl).trans ?_
      refine (ys36 rfl rfl).trans ?_
      rw [show vfi3 P Q (m + 1) i = (nI i) from by rw [vfi3]; (try dsimp only); rw [if_neg h29]]; (first | done | rfl)

theorem c_fi3 {d : Nat} {r w : Nat} {P Q J : zFn} {V : zV} {K : zKn} {μ : zM} (hC : zRC μ r w J Q K) {n : Nat} (hn : n ≤ 12) : zden zcds (d + 5) 41 [.ref (r + 0), .ref (r + 8), .int (nI n)] (zwi μ (zpc (zrl J r P) w V)) = some (0, some (.int (vfi3 P Q n 0)), 0, 0, zwi μ (zpc (zrl J r P) w V)) := by
  refine (zd_in (d := d + 4) (cd := zc41) (nL := 4) (L := [(0, .ref (r + 0)), (1, .ref (r + 8)), (2, .int (nI n))]) rfl (Nat.le_of_ble_eq_true rfl) rfl).trans ?_
  refine (ys1 1 (x := nI 0) rfl rfl rfl).trans ?_
  refine (ys5 2 (L2 := [(3, .int (nI 0)), (0, .ref (r + 0)), (1, .ref (r + 8)), (2, .int (nI n))]) rfl rfl rfl rfl).trans ?_
  exact l_fi3 hC hn n 0 (by omega)

theorem c_nn03 {d : Nat} {r w : Nat} {P Q J : zFn} {V : zV} {K : zKn} {μ : zM} (hC : zRC μ r w J Q K) {n : Nat} (hn : n ≤ 12) (h : ¬ vko Q K (P 0 0) = 2) : zden zcds (d + 6) 39 [.ref (r + 0), .ref (r + 8), .int (nI n)] (zwi μ (zpc (zrl J r P) w V)) = some (0, some (.int 0), 0, 0, zwi μ (zpc (zrl J r P) w V)) := by
  refine (zd_in (d := d + 5) (cd := zc39) (nL := 3) (L := [(0, .ref (r + 0)), (1, .ref (r + 8)), (2, .int (nI n))]) rfl (Nat.le_of_ble_eq_true rfl) rfl).trans ?_
  refine (ys4 1 (v := .ref (r + 0)) rfl rfl rfl rfl).trans ?_
  refine (ys25 4 rfl (v := .ref (2)) rfl rfl).trans ?_
  refine (yc2 7 rfl rfl (Nat.le_of_ble_eq_true rfl) (Or.inr (by show ztg (zwi _ _) _ = _; rw [ztg_wi]; exact (zFS.tag hC.1.1 (j := 0) (by decide) rfl))) rfl rfl (c_ac0 hC (by decide) h)).trans ?_
  refine ys17_1 10 rfl rfl (fun h7 => ?_) (fun h7 => absurd (by decide) h7)
  refine (ys1 11 (x := 0) rfl rfl rfl).trans ?_
  refine (ys36 rfl (by decide)).trans ?_
  rfl

def vnn3 (P : zFn) (Q : zFn) (n : Nat) : zFn :=
  let P1 := vat P
  if (vfi3 P1 Q n 0) < 0 then
    if (nI 12) ≤ (nI n) then
      let P2 := vte P1 Q 4
      P2
    else
      let P3 := zup P1 3 n (((P1 0 0) - 1))
      P3
  else
    let P4 := vte P1 Q 2
    if (nI 12) ≤ (nI n) then
      let P5 := vte P4 Q 4
      P5
    else
      let P6 := zup P4 3 n (((P4 0 0) - 1))
      P6

theorem c_nn13 {d : Nat} {r w : Nat} {P Q J : zFn} {V : zV} {K : zKn} {μ : zM} (hC : zRC μ r w J Q K) {n : Nat} (hn : n ≤ 12) (h : vko Q K (P 0 0) = 2) : zden zcds (d + 6) 39 [.ref (r + 0), .ref (r + 8), .int (nI n)] (zwi μ (zpc (zrl J r P) w V)) = some (0, some (.int 1), 0, 0, zwi μ (zpc (zrl J r ((vnn3 P Q n))) w V)) := by
  refine (zd_in (d := d + 5) (cd := zc39) (nL := 3) (L := [(0, .ref (r + 0)), (1, .ref (r + 8)), (2, .int (nI n))]) rfl (Nat.le_of_ble_eq_true rfl) rfl).trans ?_
  refine (ys4 1 (v := .ref (r + 0)) rfl rfl rfl rfl).trans ?_
  refine (ys25 4 rfl (v := .ref (2)) rfl rfl).trans ?_
  refine (yc2 7 rfl rfl (Nat.le_of_ble_eq_true rfl) (Or.inr (by show ztg (zwi _ _) _ = _; rw [ztg_wi]; exact (zFS.tag hC.1.1 (j := 0) (by decide) rfl))) rfl rfl (c_ac1 hC (by decide) h)).trans ?_
  generalize hP1 : vat P = P1
  refine ys17_1 10 rfl rfl (fun h7 => absurd h7 (by decide)) (fun h7 => ?_)
  refine (ys4 13 (v := .ref (r + 0)) rfl rfl rfl rfl).trans ?_
  refine (ys4 14 (v := .ref (r + 8)) rfl rfl rfl rfl).trans ?_
  refine (ys4 15 (v := .int (nI n)) rfl rfl rfl rfl).trans ?_
  refine (yc3 18 rfl rfl (Nat.le_of_ble_eq_true rfl) (Or.inr (by show ztg (zwi _ _) _ = _; rw [ztg_wi]; exact (zFS.tag hC.1.1 (j := 0) (by decide) rfl))) rfl rfl (c_fi3 hC hn)).trans ?_
  refine ys17_2 21 rfl rfl (fun h18 => ?_) (fun h18 => ?_)
  · refine (ys4 27 (v := .int (nI n)) rfl rfl rfl rfl).trans ?_
    refine ys17_2 30 rfl rfl (fun h27 => absurd h27 (nI_pos (by omega))) (fun h27 => ?_)
    refine (ys4 31 (v := .int (nI n)) rfl rfl rfl rfl).trans ?_
    refine (ys4 32 (v := .ref (r + 8)) rfl rfl rfl rfl).trans ?_
    refine (yal 33 (N := 12) rfl (zFS.tag hC.1.1 (j := 8) (by decide) rfl) (zFS.ni hC.1.1 (j := 8) (by decide) rfl) rfl).trans ?_
    refine ys18_3 36 rfl rfl (fun h33 => ?_) (fun h33 => ?_)
    · refine (ys4 49 (v := .ref (r + 0)) rfl rfl rfl rfl).trans ?_
      refine (ys1 50 (x := 4) rfl rfl rfl).trans ?_
      refine (yc2 53 rfl rfl (Nat.le_of_ble_eq_true rfl) (Or.inr (by show ztg (zwi _ _) _ = _; rw [ztg_wi]; exact (zFS.tag hC.1.1 (j := 0) (by decide) rfl))) rfl rfl (c_tell hC)).trans ?_
      generalize hP2 : vte P1 Q 4 = P2
      refine (ys1 54 (x := 1) rfl rfl rfl).trans ?_
      refine (ys36 rfl (by decide)).trans ?_
      rw [show vnn3 P Q n = P2 from by subst hP2 hP1; unfold vnn3; (try dsimp only); rw [if_pos h18, if_pos h33]]; (first | done | rfl)
    · refine (ys4 37 (v := .ref (r + 8)) rfl rfl rfl rfl).trans ?_
      refine (ys4 38 (v := .int (nI n)) rfl rfl rfl rfl).trans ?_
      refine (ys4 39 (v := .ref (r + 0)) rfl rfl rfl rfl).trans ?_
      refine (yg 42 rfl (zFS.tag hC.1.1 (j := 0) (by decide) rfl) (zFS.ni hC.1.1 (j := 0) (by decide) rfl) (by decide) rfl (zrw_at (o := 0) (j := 0) (by decide) hC.2.2.1)).trans ?_
      refine (ys1 43 (x := 1) rfl rfl rfl).trans ?_
      refine (ys7_1 44 rfl rfl).trans ?_
      refine (ywx 45 (N := 12) rfl (j := n) rfl (zFS.tag hC.1.1 (j := 8) (by decide) rfl) (zFS.k0 hC.1.1 (j := 8)) (zFS.ni hC.1.1 (j := 8) (by decide) rfl) (by rcases Nat.lt_or_ge n 12 with h | h; exact h; exact absurd (nI_le h (by omega)) h33) (by decide) rfl (zrw_up (o := 8) (j := 3) (by decide) hC.2.2.1)).trans ?_
      generalize hP3 : zup P1 3 n (((P1 0 0) - 1)) = P3
      refine (ys19 rfl).trans ?_
      refine (ys1 54 (x := 1) rfl rfl rfl).trans ?_
      refine (ys36 rfl (by decide)).trans ?_
      rw [show vnn3 P Q n = P3 from by subst hP3 hP1; unfold vnn3; (try dsimp only); rw [if_pos h18, if_neg h33]]; (first | done | rfl)
  · refine (ys4 22 (v := .ref (r + 0)) rfl rfl rfl rfl).trans ?_
    refine (ys1 23 (x := 2) rfl rfl rfl).trans ?_
    refine (yc2 26 rfl rfl (Nat.le_of_ble_eq_true rfl) (Or.inr (by show ztg (zwi _ _) _ = _; rw [ztg_wi]; exact (zFS.tag hC.1.1 (j := 0) (by decide) rfl))) rfl rfl (c_tell hC)).trans ?_
    generalize hP4 : vte P1 Q 2 = P4
    refine (ys4 27 (v := .int (nI n)) rfl rfl rfl rfl).trans ?_
    refine ys17_2 30 rfl rfl (fun h27 => absurd h27 (nI_pos (by omega))) (fun h27 => ?_)
    refine (ys4 31 (v := .int (nI n)) rfl rfl rfl rfl).trans ?_
    refine (ys4 32 (v := .ref (r + 8)) rfl rfl rfl rfl).trans ?_
    refine (yal 33 (N := 12) rfl (zFS.tag hC.1.1 (j := 8) (by decide) rfl) (zFS.ni hC.1.1 (j := 8) (by decide) rfl) rfl).trans ?_
    refine ys18_3 36 rfl rfl (fun h33 => ?_) (fun h33 => ?_)
    · refine (ys4 49 (v := .ref (r + 0)) rfl rfl rfl rfl).trans ?_
      refine (ys1 50 (x := 4) rfl rfl rfl).trans ?_
      refine (yc2 53 rfl rfl (Nat.le_of_ble_eq_true rfl) (Or.inr (by show ztg (zwi _ _) _ = _; rw [ztg_wi]; exact (zFS.tag hC.1.1 (j := 0) (by decide) rfl))) rfl rfl (c_tell hC)).trans ?_
      generalize hP5 : vte P4 Q 4 = P5
      refine (ys1 54 (x := 1) rfl rfl rfl).trans ?_
      refine (ys36 rfl (by decide)).trans ?_
      rw [show vnn3 P Q n = P5 from by subst hP5 hP4 hP1; unfold vnn3; (try dsimp only); rw [if_neg h18, if_pos h33]]; (first | done | rfl)
    · refine (ys4 37 (v := .ref (r + 8)) rfl rfl rfl rfl).trans ?_
      refine (ys4 38 (v := .int (nI n)) rfl rfl rfl rfl).trans ?_
      refine (ys4 39 (v := .ref (r + 0)) rfl rfl rfl rfl).trans ?_
      refine (yg 42 rfl (zFS.tag hC.1.1 (j := 0) (by decide) rfl) (zFS.ni hC.1.1 (j := 0) (by decide) rfl) (by decide) rfl (zrw_at (o := 0) (j := 0) (by decide) hC.2.2.1)).trans ?_
      refine (ys1 43 (x := 1) rfl rfl rfl).trans ?_
      refine (ys7_1 44 rfl rfl).trans ?_
      refine (ywx 45 (N := 12) rfl (j := n) rfl (zFS.tag hC.1.1 (j := 8) (by decide) rfl) (zFS.k0 hC.1.1 (j := 8)) (zFS.ni hC.1.1 (j := 8) (by decide) rfl) (by rcases Nat.lt_or_ge n 12 with h | h; exact h; exact absurd (nI_le h (by omega)) h33) (by decide) rfl (zrw_up (o := 8) (j := 3) (by decide) hC.2.2.1)).trans ?_
      generalize hP6 : zup P4 3 n (((P4 0 0) - 1)) = P6
      refine (ys19 rfl).trans ?_
      refine (ys1 54 (x := 1) rfl rfl rfl).trans ?_
      refine (ys36 rfl (by decide)).trans ?_
      rw [show vnn3 P Q n = P6 from by subst hP6 hP4 hP1; unfold vnn3; (try dsimp only); rw [if_neg h18, if_neg h33]]; (first | done | rfl)

