/-! FEED, TRIM, ERRORAT; a text read -/
theorem vapp_len {Q : zFn} {n : Nat} {x : Int32} : vapp Q n x 0 0 = nI (n + 4) := by
  unfold vapp
  (try dsimp only)
  exact zup_same _ _ _ _

def afee (Q : zFn) (m : Nat) (a : Int32) (b : Int32) (c : Int32) (e : Int32) (f : Int32) : Int32 × zFn :=
  let Q1 := vapp Q (m) a
  let Q2 := vapp Q1 (m + 4) b
  let Q3 := vapp Q2 (m + 4 + 4) c
  let Q4 := vapp Q3 (m + 4 + 4 + 4) e
  let Q5 := vapp Q4 (m + 4 + 4 + 4 + 4) f
  ((nI (m + 4 + 4 + 4 + 4 + 4)), Q5)

theorem c_fee {d : Nat} {p r n s : Nat} {Q J : zFn} {μ : zM} (hL : zLC μ p r n s) (hb : zTP μ (r + 1)) {m : Nat} (hl : Q 0 0 = nI m) (hm : m ≤ 1980) {a b c e f : Int32} : zden zcds (d + 8) 1 [.ref (p + 0), .int (a), .int (b), .int (c), .int (e), .int (f)] (zwi μ (zfl J (r + 1) 5 Q)) = some (0, some (.int ((afee Q m a b c e f).1)), 0, 0, zwi μ (zfl J (r + 1) 5 ((afee Q m a b c e f).2))) := by
  refine (zd_in (d := d + 7) (cd := zc1) (nL := 7) (L := [(0, .ref (p + 0)), (1, .int (a)), (2, .int (b)), (3, .int (c)), (4, .int (e)), (5, .int (f))]) rfl (Nat.le_of_ble_eq_true rfl) rfl).trans ?_
  refine (ys4 1 (v := .ref (p + 0)) rfl rfl rfl rfl).trans ?_
  refine (ygr 4 rfl hL.2.1 rfl hL.2.2.2.1).trans ?_
  refine (ygr 7 rfl hL.2.2.2.2.2.2.2.2.2.1 rfl hL.2.2.2.2.2.2.2.2.2.2.1).trans ?_
  refine (ys5 9 (L2 := [(6, .ref (r + 1 + 0)), (0, .ref (p + 0)), (1, .int (a)), (2, .int (b)), (3, .int (c)), (4, .int (e)), (5, .int (f))]) rfl rfl rfl rfl).trans ?_
  refine (ys4 11 (v := .ref (r + 1 + 0)) rfl rfl rfl rfl).trans ?_
  refine (yg 14 rfl (zFS.tag hb.1 (j := 0) (by decide) rfl) (zFS.ni hb.1 (j := 0) (by decide) rfl) (by decide) rfl (Eq.trans (zfl_at (j := 0) (by decide)) (show (Q 0 0) = (nI m) from hl))).trans ?_
  refine (ys1 17 (x := nI 1980) rfl rfl rfl).trans ?_
  refine ys18_5 20 rfl rfl (fun h17 => ?_) (fun h17 => absurd (nI_le (by omega) (by omega)) h17)
  refine (ys4 32 (v := .ref (r + 1 + 0)) rfl rfl rfl rfl).trans ?_
  refine (ys4 33 (v := .int (a)) rfl rfl rfl rfl).trans ?_
  refine (yc2 36 rfl rfl (Nat.le_of_ble_eq_true rfl) (Or.inr (by show ztg (zwi _ _) _ = _; rw [ztg_wi]; exact (zFS.tag hb.1 (j := 0) (by decide) rfl))) rfl rfl (c_app hb hl (by omega))).trans ?_
  generalize hQ1 : vapp Q (m) a = Q1
  refine (ys4 38 (v := .ref (r + 1 + 0)) rfl rfl rfl rfl).trans ?_
  refine (ys4 39 (v := .int (b)) rfl rfl rfl rfl).trans ?_
  refine (yc2 42 rfl rfl (Nat.le_of_ble_eq_true rfl) (Or.inr (by show ztg (zwi _ _) _ = _; rw [ztg_wi]; exact (zFS.tag hb.1 (j := 0) (by decide) rfl))) rfl rfl (c_app hb (by rw [← hQ1]; exact vapp_len) (by omega))).trans ?_
  generalize hQ2 : vapp Q1 (m + 4) b = Q2
  refine (ys4 44 (v := .ref (r + 1 + 0)) rfl rfl rfl rfl).trans ?_
  refine (ys4 45 (v := .int (c)) rfl rfl rfl rfl).trans ?_
  refine (yc2 48 rfl rfl (Nat.le_of_ble_eq_true rfl) (Or.inr (by show ztg (zwi _ _) _ = _; rw [ztg_wi]; exact (zFS.tag hb.1 (j := 0) (by decide) rfl))) rfl rfl (c_app hb (by rw [← hQ2]; exact vapp_len) (by omega))).trans ?_
  generalize hQ3 : vapp Q2 (m + 4 + 4) c = Q3
  refine (ys4 50 (v := .ref (r + 1 + 0)) rfl rfl rfl rfl).trans ?_
  refine (ys4 52 (v := .int (e)) rfl rfl rfl rfl).trans ?_
  refine (yc2 55 rfl rfl (Nat.le_of_ble_eq_true rfl) (Or.inr (by show ztg (zwi _ _) _ = _; rw [ztg_wi]; exact (zFS.tag hb.1 (j := 0) (by decide) rfl))) rfl rfl (c_app hb (by rw [← hQ3]; exact vapp_len) (by omega))).trans ?_
  generalize hQ4 : vapp Q3 (m + 4 + 4 + 4) e = Q4
  refine (ys4 57 (v := .ref (r + 1 + 0)) rfl rfl rfl rfl).trans ?_
  refine (ys4 59 (v := .int (f)) rfl rfl rfl rfl).trans ?_
  refine (yc2 62 rfl rfl (Nat.le_of_ble_eq_true rfl) (Or.inr (by show ztg (zwi _ _) _ = _; rw [ztg_wi]; exact (zFS.tag hb.1 (j := 0) (by decide) rfl))) rfl rfl (c_app hb (by rw [← hQ4]; exact vapp_len) (by omega))).trans ?_
  generalize hQ5 : vapp Q4 (m + 4 + 4 + 4 + 4) f = Q5
  refine (ys4 64 (v := .ref (r + 1 + 0)) rfl rfl rfl rfl).trans ?_
  refine (yg 67 rfl (zFS.tag hb.1 (j := 0) (by decide) rfl) (zFS.ni hb.1 (j := 0) (by decide) rfl) (by decide) rfl (Eq.trans (zfl_at (j := 0) (by decide)) (show (Q5 0 0) = (nI (m + 4 + 4 + 4 + 4 + 4)) from (by rw [← hQ5]; exact vapp_len)))).trans ?_
  refine (ys36 rfl rfl).trans ?_
  rw [show afee Q m a b c e f = ((nI (m + 4 + 4 + 4 + 4 + 4)), Q5) from by subst hQ5 hQ4 hQ3 hQ2 hQ1; unfold afee; (try dsimp only); first | done | rfl]; (first | done | rfl)

theorem c_fee_t {d : Nat} {p r n s : Nat} {Q J : zFn} {μ : zM} (hL : zLC μ p r n s) (hb : zTP μ (r + 1)) {m : Nat} (hl : Q 0 0 = nI m) (hm : m ≤ 2000) (h2 : 1980 < m) {a b c e f : Int32} : zden zcds (d + 8) 1 [.ref (p + 0), .int (a), .int (b), .int (c), .int (e), .int (f)] (zwi μ (zfl J (r + 1) 5 Q)) = some (2, none, 1, 6, zwi μ (zfl J (r + 1) 5 Q)) := by
  refine (zd_in (d := d + 7) (cd := zc1) (nL := 7) (L := [(0, .ref (p + 0)), (1, .int (a)), (2, .int (b)), (3, .int (c)), (4, .int (e)), (5, .int (f))]) rfl (Nat.le_of_ble_eq_true rfl) rfl).trans ?_
  refine (ys4 1 (v := .ref (p + 0)) rfl rfl rfl rfl).trans ?_
  refine (ygr 4 rfl hL.2.1 rfl hL.2.2.2.1).trans ?_
  refine (ygr 7 rfl hL.2.2.2.2.2.2.2.2.2.1 rfl hL.2.2.2.2.2.2.2.2.2.2.1).trans ?_
  refine (ys5 9 (L2 := [(6, .ref (r + 1 + 0)), (0, .ref (p + 0)), (1, .int (a)), (2, .int (b)), (3, .int (c)), (4, .int (e)), (5, .int (f))]) rfl rfl rfl rfl).trans ?_
  refine (ys4 11 (v := .ref (r + 1 + 0)) rfl rfl rfl rfl).trans ?_
  refine (yg 14 rfl (zFS.tag hb.1 (j := 0) (by decide) rfl) (zFS.ni hb.1 (j := 0) (by decide) rfl) (by decide) rfl (Eq.trans (zfl_at (j := 0) (by decide)) (show (Q 0 0) = (nI m) from hl))).trans ?_
  refine (ys1 17 (x := nI 1980) rfl rfl rfl).trans ?_
  refine ys18_5 20 rfl rfl (fun h17 => absurd h17 (nI_ge (by omega) (by omega))) (fun h17 => ?_)
  exact ys35 rfl (by omega) (Nat.le_of_ble_eq_true rfl)

def atri (Q : zFn) (x : Int32) : Nat × Int32 × zFn :=
  if x < 0 then
    (3, 0, Q)
  else
    if x ≤ (Q 0 0) then
      let Q1 := zup Q 0 0 (x)
      (0, x, Q1)
    else
      (3, 0, Q)

theorem c_tri {d : Nat} {p r n s : Nat} {Q J : zFn} {μ : zM} (hL : zLC μ p r n s) (hb : zTP μ (r + 1)) {x : Int32} : zden zcds (d + 8) 2 [.ref (p + 0), .int (x)] (zwi μ (zfl J (r + 1) 5 Q)) = some (zrs ((atri Q x).1) ((atri Q x).2.1) (zwi μ (zfl J (r + 1) 5 ((atri Q x).2.2)))) := by
  refine (zd_in (d := d + 7) (cd := zc2) (nL := 2) (L := [(0, .ref (p + 0)), (1, .int (x))]) rfl (Nat.le_of_ble_eq_true rfl) rfl).trans ?_
  refine (ys4 1 (v := .int (x)) rfl rfl rfl rfl).trans ?_
  refine ys17_2 4 rfl rfl (fun h1 => ?_) (fun h1 => ?_)
  · refine (ys35 rfl (by omega) (Nat.le_of_ble_eq_true rfl)).trans ?_; rw [show atri Q x = (3, 0, Q) from by unfold atri; (try dsimp only); rw [if_pos h1]]; (first | done | rfl)
  · refine (ys4 5 (v := .int (x)) rfl rfl rfl rfl).trans ?_
    refine (ys4 6 (v := .ref (p + 0)) rfl rfl rfl rfl).trans ?_
    refine (ygr 9 rfl hL.2.1 rfl hL.2.2.2.1).trans ?_
    refine (ygr 12 rfl hL.2.2.2.2.2.2.2.2.2.1 rfl hL.2.2.2.2.2.2.2.2.2.2.1).trans ?_
    refine (yg 15 rfl (zFS.tag hb.1 (j := 0) (by decide) rfl) (zFS.ni hb.1 (j := 0) (by decide) rfl) (by decide) rfl (zfl_at (j := 0) (by decide))).trans ?_
    refine ys18_5 18 rfl rfl (fun h15 => ?_) (fun h15 => ?_)
    · refine (ys4 29 (v := .ref (p + 0)) rfl rfl rfl rfl).trans ?_
      refine (ygr 32 rfl hL.2.1 rfl hL.2.2.2.1).trans ?_
      refine (ygr 35 rfl hL.2.2.2.2.2.2.2.2.2.1 rfl hL.2.2.2.2.2.2.2.2.2.2.1).trans ?_
      refine (ys4 36 (v := .int (x)) rfl rfl rfl rfl).trans ?_
      refine (yq 39 rfl (zFS.tag hb.1 (j := 0) (by decide) rfl) (zFS.k0 hb.1 (j := 0)) (zFS.ni hb.1 (j := 0) (by decide) rfl) (by decide) rfl (zfl_up (j := 0) (by decide))).trans ?_
      generalize hQ1 : zup Q 0 0 (x) = Q1
      refine (ys4 40 (v := .int (x)) rfl rfl rfl rfl).trans ?_
      refine (ys36 rfl rfl).trans ?_
      rw [show atri Q x = (0, x, Q1) from by subst hQ1; unfold atri; (try dsimp only); rw [if_neg h1, if_pos h15]]; (first | done | rfl)
    · refine (ys35 rfl (by omega) (Nat.le_of_ble_eq_true rfl)).trans ?_; rw [show atri Q x = (3, 0, Q) from by unfold atri; (try dsimp only); rw [if_neg h1, if_neg h15]]; (first | done | rfl)

theorem c_era {d : Nat} {p r n s : Nat} {I : zFn} {μ : zM} (hL : zLC μ p r n s) : zden zcds (d + 1) 4 [.ref (p + 0)] (zwi μ I) = some (0, some (.int (I (p + 0) 0)), 0, 0, zwi μ I) := by
  refine (zd_in (d := d + 0) (cd := zc4) (nL := 1) (L := [(0, .ref (p + 0))]) rfl (Nat.le_of_ble_eq_true rfl) rfl).trans ?_
  refine (ys4 1 (v := .ref (p + 0)) rfl rfl rfl rfl).trans ?_
  refine (yg 4 rfl hL.2.1 hL.2.2.1 (by decide) rfl rfl).trans ?_
  refine (ys36 rfl rfl).trans ?_
  rfl

