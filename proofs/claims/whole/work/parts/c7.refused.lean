/-! WHAT THE CLASS REFUSES -/
theorem i_nlt2 {x y : Int32} (h : ¬ x < y) : y ≤ x := Int32.not_lt.mp h
theorem rin_iff {x a b : Int32} : rin x a b = 1 ↔ a ≤ x ∧ x ≤ b := by
  unfold rin
  constructor
  · intro h
    (repeat' split at h) <;> first | exact ⟨by assumption, by assumption⟩ | exact absurd h (by decide) | exact ⟨i_nlt2 (by assumption), by assumption⟩ | exact ⟨i_nlt2 (by assumption), i_nlt2 (by assumption)⟩
  · rintro ⟨h1, h2⟩
    have h3 : ¬ x < a := i_nlt h1
    have h4 : ¬ b < x := i_nlt h2
    (repeat' split) <;> first | rfl | contradiction
theorem rin_0 {x a b : Int32} : rin x a b = 0 ↔ ¬ (a ≤ x ∧ x ≤ b) := by
  rw [← rin_iff]
  rcases rin_b x a b with h | h <;> rw [h] <;> decide

theorem c_pas_t {d : Nat} {p r n s : Nat} {V U : zV} {J : zFn} {μ : zM} (hL : zLC μ p r n s) {x y : Int32} (h : rin x 1 200 = 0) : zden zcds (d + 8) 12 [.ref (p + 0), .int (x)] (zwi μ (zpc (zpc J n V) s U)) = some (3, none, 1, 6, zwi μ (zpc (zpc J n V) s U)) := by
  refine (zd_in (d := d + 7) (cd := zc12) (nL := 4) (L := [(0, .ref (p + 0)), (1, .int (x))]) rfl (Nat.le_of_ble_eq_true rfl) rfl).trans ?_
  refine (ys4 1 (v := .int (x)) rfl rfl rfl rfl).trans ?_
  refine (ys1 2 (x := 1) rfl rfl rfl).trans ?_
  refine ys18_2 5 rfl rfl (fun h2 => ?_) (fun h2 => ?_)
  · exact ys35 rfl (by omega) (Nat.le_of_ble_eq_true rfl)
  · refine (ys4 6 (v := .int (x)) rfl rfl rfl rfl).trans ?_
    refine (ys1 9 (x := 200) rfl rfl rfl).trans ?_
    refine ys18_5 12 rfl rfl (fun h9 => ?_) (fun h9 => ?_)
    · exact absurd ⟨i_nlt2 h2, h9⟩ (rin_0.mp h)
    · exact ys35 rfl (by omega) (Nat.le_of_ble_eq_true rfl)

theorem c_for_t {d : Nat} {p r n s : Nat} {V U : zV} {J : zFn} {μ : zM} (hL : zLC μ p r n s) {x y : Int32} (h : rin x 1 200 = 0) : zden zcds (d + 8) 13 [.ref (p + 0), .int (x), .int (y)] (zwi μ (zpc (zpc J n V) s U)) = some (3, none, 1, 6, zwi μ (zpc (zpc J n V) s U)) := by
  refine (zd_in (d := d + 7) (cd := zc13) (nL := 3) (L := [(0, .ref (p + 0)), (1, .int (x)), (2, .int (y))]) rfl (Nat.le_of_ble_eq_true rfl) rfl).trans ?_
  refine (ys4 1 (v := .int (x)) rfl rfl rfl rfl).trans ?_
  refine (ys1 2 (x := 1) rfl rfl rfl).trans ?_
  refine ys18_2 5 rfl rfl (fun h2 => ?_) (fun h2 => ?_)
  · exact ys35 rfl (by omega) (Nat.le_of_ble_eq_true rfl)
  · refine (ys4 6 (v := .int (x)) rfl rfl rfl rfl).trans ?_
    refine (ys1 9 (x := 200) rfl rfl rfl).trans ?_
    refine ys18_5 12 rfl rfl (fun h9 => ?_) (fun h9 => ?_)
    · exact absurd ⟨i_nlt2 h2, h9⟩ (rin_0.mp h)
    · exact ys35 rfl (by omega) (Nat.le_of_ble_eq_true rfl)

theorem c_arv_t {d : Nat} {p r n s : Nat} {V U : zV} {J : zFn} {μ : zM} (hL : zLC μ p r n s) {x : Int32} (h : vhas V 3 x = 0) : zden zcds (d + 8) 15 [.ref (p + 0), .int (x)] (zwi μ (zpc (zpc J n V) s U)) = some (1, none, 1, 6, zwi μ (zpc (zpc J n V) s U)) := by
  refine (zd_in (d := d + 7) (cd := zc15) (nL := 2) (L := [(0, .ref (p + 0)), (1, .int (x))]) rfl (Nat.le_of_ble_eq_true rfl) rfl).trans ?_
  refine (ys4 1 (v := .ref (p + 0)) rfl rfl rfl rfl).trans ?_
  refine (ygr 4 rfl hL.2.1 rfl hL.2.2.2.2.1).trans ?_
  refine (ys4 5 (v := .int (x)) rfl rfl rfl rfl).trans ?_
  refine (yc2 8 rfl rfl (Nat.le_of_ble_eq_true rfl) (Or.inr (by show ztg (zwi _ _) _ = _; rw [ztg_wi]; exact (zWS.tag hL.2.2.2.2.2.2.1 (o := 0) (by decide) rfl))) rfl rfl (lnw hL.2.2.2.2.2.2.2.2.1 (fun _ => c_has3 hL.2.2.2.2.2.2.1))).trans ?_
  rw [show (vhas V 3 x) = 0 from h]
  refine ys17_1 11 rfl rfl (fun h8 => ?_) (fun h8 => absurd (by decide) h8)
  exact ys35 rfl (by omega) (Nat.le_of_ble_eq_true rfl)

theorem c_bla_t {d : Nat} {p r n s : Nat} {V U : zV} {J : zFn} {μ : zM} (hL : zLC μ p r n s) {x : Int32} (h : vhas V 3 x = 0) : zden zcds (d + 8) 18 [.ref (p + 0), .int (x)] (zwi μ (zpc (zpc J n V) s U)) = some (1, none, 1, 6, zwi μ (zpc (zpc J n V) s U)) := by
  refine (zd_in (d := d + 7) (cd := zc18) (nL := 8) (L := [(0, .ref (p + 0)), (1, .int (x))]) rfl (Nat.le_of_ble_eq_true rfl) rfl).trans ?_
  refine (ys4 1 (v := .ref (p + 0)) rfl rfl rfl rfl).trans ?_
  refine (ygr 4 rfl hL.2.1 rfl hL.2.2.2.2.1).trans ?_
  refine (ys4 5 (v := .int (x)) rfl rfl rfl rfl).trans ?_
  refine (yc2 8 rfl rfl (Nat.le_of_ble_eq_true rfl) (Or.inr (by show ztg (zwi _ _) _ = _; rw [ztg_wi]; exact (zWS.tag hL.2.2.2.2.2.2.1 (o := 0) (by decide) rfl))) rfl rfl (lnw hL.2.2.2.2.2.2.2.2.1 (fun _ => c_has3 hL.2.2.2.2.2.2.1))).trans ?_
  rw [show (vhas V 3 x) = 0 from h]
  refine ys17_1 11 rfl rfl (fun h8 => ?_) (fun h8 => absurd (by decide) h8)
  exact ys35 rfl (by omega) (Nat.le_of_ble_eq_true rfl)

theorem c_dou_t {d : Nat} {p r n s : Nat} {V U : zV} {J : zFn} {μ : zM} (hL : zLC μ p r n s) {x : Int32} (h : vhas V 3 x = 0) : zden zcds (d + 8) 19 [.ref (p + 0), .int (x)] (zwi μ (zpc (zpc J n V) s U)) = some (1, none, 1, 6, zwi μ (zpc (zpc J n V) s U)) := by
  refine (zd_in (d := d + 7) (cd := zc19) (nL := 6) (L := [(0, .ref (p + 0)), (1, .int (x))]) rfl (Nat.le_of_ble_eq_true rfl) rfl).trans ?_
  refine (ys4 1 (v := .ref (p + 0)) rfl rfl rfl rfl).trans ?_
  refine (ygr 4 rfl hL.2.1 rfl hL.2.2.2.2.1).trans ?_
  refine (ys4 5 (v := .int (x)) rfl rfl rfl rfl).trans ?_
  refine (yc2 8 rfl rfl (Nat.le_of_ble_eq_true rfl) (Or.inr (by show ztg (zwi _ _) _ = _; rw [ztg_wi]; exact (zWS.tag hL.2.2.2.2.2.2.1 (o := 0) (by decide) rfl))) rfl rfl (lnw hL.2.2.2.2.2.2.2.2.1 (fun _ => c_has3 hL.2.2.2.2.2.2.1))).trans ?_
  rw [show (vhas V 3 x) = 0 from h]
  refine ys17_1 11 rfl rfl (fun h8 => ?_) (fun h8 => absurd (by decide) h8)
  exact ys35 rfl (by omega) (Nat.le_of_ble_eq_true rfl)

theorem c_whe_t {d : Nat} {p r n s : Nat} {V U : zV} {J : zFn} {μ : zM} (hL : zLC μ p r n s) {x y : Int32} (h : vhas V 0 x = 0) : zden zcds (d + 8) 17 [.ref (p + 0), .int (x), .int (y)] (zwi μ (zpc (zpc J n V) s U)) = some (1, none, 1, 6, zwi μ (zpc (zpc J n V) s U)) := by
  refine (zd_in (d := d + 7) (cd := zc17) (nL := 5) (L := [(0, .ref (p + 0)), (1, .int (x)), (2, .int (y))]) rfl (Nat.le_of_ble_eq_true rfl) rfl).trans ?_
  refine (ys4 1 (v := .ref (p + 0)) rfl rfl rfl rfl).trans ?_
  refine (ygr 4 rfl hL.2.1 rfl hL.2.2.2.2.1).trans ?_
  refine (ys4 5 (v := .int (x)) rfl rfl rfl rfl).trans ?_
  refine (yc2 8 rfl rfl (Nat.le_of_ble_eq_true rfl) (Or.inr (by show ztg (zwi _ _) _ = _; rw [ztg_wi]; exact (zWS.tag hL.2.2.2.2.2.2.1 (o := 0) (by decide) rfl))) rfl rfl (lnw hL.2.2.2.2.2.2.2.2.1 (fun _ => c_has0 hL.2.2.2.2.2.2.1))).trans ?_
  rw [show (vhas V 0 x) = 0 from h]
  refine ys17_1 11 rfl rfl (fun h8 => ?_) (fun h8 => absurd (by decide) h8)
  exact ys35 rfl (by omega) (Nat.le_of_ble_eq_true rfl)

theorem c_whe_t2 {d : Nat} {p r n s : Nat} {V U : zV} {J : zFn} {μ : zM} (hL : zLC μ p r n s) {x y : Int32} (h : vhas V 0 x = 1) (h5 : rin y 0 500 = 0) : zden zcds (d + 8) 17 [.ref (p + 0), .int (x), .int (y)] (zwi μ (zpc (zpc J n V) s U)) = some (3, none, 1, 6, zwi μ (zpc (zpc J n V) s U)) := by
  refine (zd_in (d := d + 7) (cd := zc17) (nL := 5) (L := [(0, .ref (p + 0)), (1, .int (x)), (2, .int (y))]) rfl (Nat.le_of_ble_eq_true rfl) rfl).trans ?_
  refine (ys4 1 (v := .ref (p + 0)) rfl rfl rfl rfl).trans ?_
  refine (ygr 4 rfl hL.2.1 rfl hL.2.2.2.2.1).trans ?_
  refine (ys4 5 (v := .int (x)) rfl rfl rfl rfl).trans ?_
  refine (yc2 8 rfl rfl (Nat.le_of_ble_eq_true rfl) (Or.inr (by show ztg (zwi _ _) _ = _; rw [ztg_wi]; exact (zWS.tag hL.2.2.2.2.2.2.1 (o := 0) (by decide) rfl))) rfl rfl (lnw hL.2.2.2.2.2.2.2.2.1 (fun _ => c_has0 hL.2.2.2.2.2.2.1))).trans ?_
  rw [show (vhas V 0 x) = 1 from h]
  refine ys17_1 11 rfl rfl (fun h8 => absurd h8 (by decide)) (fun h8 => ?_)
  refine (ys4 23 (v := .int (y)) rfl rfl rfl rfl).trans ?_
  refine ys17_2 26 rfl rfl (fun h23 => ?_) (fun h23 => ?_)
  · exact ys35 rfl (by omega) (Nat.le_of_ble_eq_true rfl)
  · refine (ys4 27 (v := .int (y)) rfl rfl rfl rfl).trans ?_
    refine (ys1 30 (x := 500) rfl rfl rfl).trans ?_
    refine ys18_5 33 rfl rfl (fun h30 => ?_) (fun h30 => ?_)
    · exact absurd ⟨i_nlt2 h23, h30⟩ (rin_0.mp h5)
    · exact ys35 rfl (by omega) (Nat.le_of_ble_eq_true rfl)

