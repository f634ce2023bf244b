/-! THE CLASS'S CHECKSUM -/
theorem acou_0 {V : zV} {np nk i : Nat} {tl : Int32} (hi : i < 12) : (acou V np nk tl (nI i)).1 = 0 := by
  unfold acou
  have hc : i = 0 ∨ i = 1 ∨ i = 2 ∨ i = 3 ∨ i = 4 ∨ i = 5 ∨ i = 6 ∨ i = 7 ∨ i = 8 ∨ i = 9 ∨ i = 10 ∨ i = 11 := by omega
  rcases hc with rfl | rfl | rfl | rfl | rfl | rfl | rfl | rfl | rfl | rfl | rfl | rfl <;> (repeat (first | rw [if_pos (by decide)] | rw [if_neg (by decide)])) <;> (repeat' split) <;> first | rfl | contradiction
theorem alof_0 {V : zV} {np nk l k : Nat} (hv : vhas V 0 (nI l) = 1) (hk : k < 8) : (alof V np nk (nI l) (nI k)).1 = 0 := by
  unfold alof
  rw [hv]
  have hc : k = 0 ∨ k = 1 ∨ k = 2 ∨ k = 3 ∨ k = 4 ∨ k = 5 ∨ k = 6 ∨ k = 7 := by omega
  rcases hc with rfl | rfl | rfl | rfl | rfl | rfl | rfl | rfl <;> (repeat (first | rw [if_pos (by decide)] | rw [if_neg (by decide)])) <;> (repeat' split) <;> first | rfl | contradiction
theorem apig_0 {V : zV} {l k : Nat} (hv : vhas V 1 (nI l) = 1) (hk : k < 8) : (apig V (nI l) (nI k)).1 = 0 := by
  unfold apig
  rw [hv]
  have hc : k = 0 ∨ k = 1 ∨ k = 2 ∨ k = 3 ∨ k = 4 ∨ k = 5 ∨ k = 6 ∨ k = 7 := by omega
  rcases hc with rfl | rfl | rfl | rfl | rfl | rfl | rfl | rfl <;> (repeat (first | rw [if_pos (by decide)] | rw [if_neg (by decide)])) <;> (repeat' split) <;> first | rfl | contradiction
theorem ahaw_0 {V : zV} {l k : Nat} (hv : vhas V 2 (nI l) = 1) (hk : k < 5) : (ahaw V (nI l) (nI k)).1 = 0 := by
  unfold ahaw
  rw [hv]
  have hc : k = 0 ∨ k = 1 ∨ k = 2 ∨ k = 3 ∨ k = 4 := by omega
  rcases hc with rfl | rfl | rfl | rfl | rfl <;> (repeat (first | rw [if_pos (by decide)] | rw [if_neg (by decide)])) <;> (repeat' split) <;> first | rfl | contradiction
theorem alett_0 {V : zV} {np nk l k : Nat} (hv : vhas V 3 (nI l) = 1) (hk : k < 8) : (alett V np nk (nI l) (nI k)).1 = 0 := by
  unfold alett
  rw [hv]
  have hc : k = 0 ∨ k = 1 ∨ k = 2 ∨ k = 3 ∨ k = 4 ∨ k = 5 ∨ k = 6 ∨ k = 7 := by omega
  rcases hc with rfl | rfl | rfl | rfl | rfl | rfl | rfl | rfl <;> (repeat (first | rw [if_pos (by decide)] | rw [if_neg (by decide)])) <;> (repeat' split) <;> first | rfl | contradiction
theorem zrs_0 {e : Nat} {v : Int32} {m : zM} (h : e = 0) : some (zrs e v m) = some ((0, some (.int v), 0, 0, m) : zR) := by
  rw [h]
  rfl

theorem c_lofN {d : Nat} {p r n s : Nat} {V U : zV} {J : zFn} {μ : zM} (hL : zLC μ p r n s) {nl np nh nk : Nat} (hF : zWF V nl np nh nk) {l k : Nat} (hl : l < nl) (hk : k < 8) : zden zcds (d + 8) 6 [.ref (p + 0), .int (nI l), .int (nI k)] (zwi μ (zpc (zpc J n V) s U)) = some (0, some (.int (alof V np nk (nI l) (nI k)).2), 0, 0, zwi μ (zpc (zpc J n V) s U)) := by
  have hb := hF.2.1
  have h := c_lof (d := d) (J := J) (V := V) (U := U) hL hF (x := nI l) (y := nI k)
  rw [zrs_0 (alof_0 (vhas_1 hF.1 (by omega) hl) hk)] at h
  exact h

theorem c_pigN {d : Nat} {p r n s : Nat} {V U : zV} {J : zFn} {μ : zM} (hL : zLC μ p r n s) {nl np nh nk : Nat} (hF : zWF V nl np nh nk) {l k : Nat} (hl : l < np) (hk : k < 8) : zden zcds (d + 8) 7 [.ref (p + 0), .int (nI l), .int (nI k)] (zwi μ (zpc (zpc J n V) s U)) = some (0, some (.int (apig V (nI l) (nI k)).2), 0, 0, zwi μ (zpc (zpc J n V) s U)) := by
  have hb := hF.2.2.2.1
  have h := c_pig (d := d) (J := J) (V := V) (U := U) hL (x := nI l) (y := nI k)
  rw [zrs_0 (apig_0 (vhas_1 hF.2.2.1 (by omega) hl) hk)] at h
  exact h

theorem c_hawN {d : Nat} {p r n s : Nat} {V U : zV} {J : zFn} {μ : zM} (hL : zLC μ p r n s) {nl np nh nk : Nat} (hF : zWF V nl np nh nk) {l k : Nat} (hl : l < nh) (hk : k < 5) : zden zcds (d + 8) 8 [.ref (p + 0), .int (nI l), .int (nI k)] (zwi μ (zpc (zpc J n V) s U)) = some (0, some (.int (ahaw V (nI l) (nI k)).2), 0, 0, zwi μ (zpc (zpc J n V) s U)) := by
  have hb := hF.2.2.2.2.2.1
  have h := c_haw (d := d) (J := J) (V := V) (U := U) hL (x := nI l) (y := nI k)
  rw [zrs_0 (ahaw_0 (vhas_1 hF.2.2.2.2.1 (by omega) hl) hk)] at h
  exact h

theorem c_lettN {d : Nat} {p r n s : Nat} {V U : zV} {J : zFn} {μ : zM} (hL : zLC μ p r n s) {nl np nh nk : Nat} (hF : zWF V nl np nh nk) {l k : Nat} (hl : l < nk) (hk : k < 8) : zden zcds (d + 8) 9 [.ref (p + 0), .int (nI l), .int (nI k)] (zwi μ (zpc (zpc J n V) s U)) = some (0, some (.int (alett V np nk (nI l) (nI k)).2), 0, 0, zwi μ (zpc (zpc J n V) s U)) := by
  have hb := hF.2.2.2.2.2.2.2.1
  have h := c_lett (d := d) (J := J) (V := V) (U := U) hL hF (x := nI l) (y := nI k)
  rw [zrs_0 (alett_0 (vhas_1 hF.2.2.2.2.2.2.1 (by omega) hl) hk)] at h
  exact h

theorem c_couN {d : Nat} {p r n s : Nat} {V U : zV} {J : zFn} {μ : zM} (hL : zLC μ p r n s) {nl np nh nk : Nat} (hF : zWF V nl np nh nk) {tl : Int32} (htl : J (r + 1 + 0) 0 = tl) {i : Nat} (hi : i < 12) : zden zcds (d + 8) 5 [.ref (p + 0), .int (nI i)] (zwi μ (zpc (zpc J n V) s U)) = some (0, some (.int (acou V np nk tl (nI i)).2), 0, 0, zwi μ (zpc (zpc J n V) s U)) := by
  have h := c_cou (d := d) (U := U) hL hF htl (x := nI i)
  rw [zrs_0 (acou_0 hi)] at h
  exact h

def vdg1 (V : zV) (np : Nat) (nk : Nat) (tl : Int32) : Nat → Nat → Int64 → Int64
  | 0, i, a =>
    a
  | m + 1, i, a =>
    vdg1 V np nk tl m (i + 1) ((a * 31) + (((acou V np nk tl (nI i)).2).toInt64))

theorem l_dg1 {d c sl : Nat} {rz : zR} {p r n s : Nat} {V U : zV} {J : zFn} {μ : zM} (hL : zLC μ p r n s) {nl np nh nk : Nat} (hF : zWF V nl np nh nk) {tl : Int32} (htl : J (r + 1 + 0) 0 = tl) : ∀ (m i : Nat) (a : Int64), i + m = 12 → zden1 (d + 8) (zden zcds (d + 8)) zc24 (31, [(1, .long ((vdg1 V np nk tl m i a))), (0, .ref (p + 0))], [], c, sl, zwi μ (zpc (zpc J n V) s U)) = some rz → zden1 (d + 8) (zden zcds (d + 8)) zc24 (6, [(3, .int (nI i)), (1, .long (a)), (0, .ref (p + 0))], [], c, sl, zwi μ (zpc (zpc J n V) s U)) = some rz
  | 0, i, a, e, hkk => by
    have ei : i = 12 := by omega
    subst ei
    refine (ys4 7 (v := .int (nI 12)) rfl rfl rfl rfl).trans ?_
    refine (ys1 9 (x := nI 12) rfl rfl rfl).trans ?_
    refine ys18_3 12 rfl rfl (fun h9 => ?_) (fun h9 => absurd (nI_le (by omega) (by omega)) h9)
    rw [show vdg1 V np nk tl 0 12 a = a from by rw [vdg1]; (try dsimp only); first | done | rfl] at hkk; refine zden1_fg (L := [(1, .long (a)), (0, .ref (p + 0))]) (zfg_cons rfl (zfg_cons rfl zfg_nil)) ?_; exact hkk
  | m + 1, i, a, e, hkk => by
    refine (ys4 7 (v := .int (nI i)) rfl rfl rfl rfl).trans ?_
    refine (ys1 9 (x := nI 12) rfl rfl rfl).trans ?_
    refine ys18_3 12 rfl rfl (fun h9 => absurd h9 (nI_ge (by omega) (by omega))) (fun h9 => ?_)
    refine (ys4 13 (v := .long (a)) rfl rfl rfl rfl).trans ?_
    refine (ys3 16 (x := 31) rfl rfl rfl).trans ?_
    refine (ys11 17 rfl rfl).trans ?_
    refine (ys4 18 (v := .ref (p + 0)) rfl rfl rfl rfl).trans ?_
    refine (ys4 19 (v := .int (nI i)) rfl rfl rfl rfl).trans ?_
    refine (yc2 22 rfl rfl (Nat.le_of_ble_eq_true rfl) (Or.inr (by show ztg (zwi _ _) _ = _; rw [ztg_wi]; exact hL.2.1)) rfl rfl (c_couN hL hF htl (by omega))).trans ?_
    refine (ys10 23 rfl rfl).trans ?_
    refine (ys11 24 rfl rfl).trans ?_
    refine (ys5 25 (L2 := [(1, .long (((a * 31) + (((acou V np nk tl (nI i)).2).toInt64)))), (3, .int (nI i)), (0, .ref (p + 0))]) rfl rfl rfl rfl).trans ?_
    refine (ys6 28 (y := nI (i + 1)) (L2 := [(3, .int (nI (i + 1))), (1, .long (((a * 31) + (((acou V np nk tl (nI i)).2).toInt64)))), (0, .ref (p + 0))]) rfl rfl (nI_1 _) rfl rfl).trans ?_
    refine (ys19 rfl).trans ?_
    rw [show vdg1 V np nk tl (m + 1) i a = vdg1 V np nk tl m (i + 1) ((a * 31) + (((acou V np nk tl (nI i)).2).toInt64)) from by rw [vdg1]; (try dsimp only); first | done | rfl] at hkk; exact l_dg1 hL hF htl m (i + 1) ((a * 31) + (((acou V np nk tl (nI i)).2).toInt64))   (by omega) hkk

def vdg2 (V : zV) (np : Nat) (nk : Nat) : Nat → Nat → Int64 → Int64
  | 0, i, a =>
    a
  | m + 1, i, a =>
    vdg2 V np nk m (i + 1) ((a * 31) + (((alof V np nk (nI (i / 8)) (nI (i % 8))).2).toInt64))

theorem l_dg2 {d c sl : Nat} {rz : zR} {p r n s : Nat} {V U : zV} {J : zFn} {μ : zM} (hL : zLC μ p r n s) {nl np nh nk : Nat} (hF : zWF V nl np nh nk) : ∀ (m i : Nat) (a : Int64), i + m = nl * 8 → zden1 (d + 8) (zden zcds (d + 8)) zc24 (73, [(1, .long ((vdg2 V np nk m i a))), (0, .ref (p + 0))], [], c, sl, zwi μ (zpc (zpc J n V) s U)) = some rz → zden1 (d + 8) (zden zcds (d + 8)) zc24 (33, [(3, .int (nI i)), (1, .long (a)), (0, .ref (p + 0))], [], c, sl, zwi μ (zpc (zpc J n V) s U)) = some rz
  | 0, i, a, e, hkk => by
    have ei : i = nl * 8 := by omega
    subst ei
    refine (ys4 34 (v := .int (nI (nl * 8))) rfl rfl rfl rfl).trans ?_
    refine (ys4 35 (v := .ref (p + 0)) rfl rfl rfl rfl).trans ?_
    refine (ygr 38 rfl hL.2.1 rfl hL.2.2.2.2.1).trans ?_
    refine (yg 41 rfl (zWS.tag hL.2.2.2.2.2.2.1 (o := 0) (by decide) rfl) (zWS.ni hL.2.2.2.2.2.2.1 (o := 0) (by decide) rfl) (by decide) rfl (Eq.trans (zpc_at2 hL.2.2.2.2.2.2.2.2.1 (o := 0) (q := 0) (i := 0) rfl (by decide)) (show (V 0 0 0) = (nI nl) from hF.1))).trans ?_
    refine (ys1 43 (x := 8) rfl rfl rfl).trans ?_
    refine (ys7_2 44 rfl rfl).trans ?_
    rw [show ((nI nl) * 8) = nI (nl * 8) from pk_mul nl 8]
    refine ys18_3 47 rfl rfl (fun h44 => ?_) (fun h44 => absurd (nI_le (by omega) (by have := hF.2.1; omega)) h44)
    rw [show vdg2 V np nk 0 (nl * 8) a = a from by rw [vdg2]; (try dsimp only); first | done | rfl] at hkk; refine zden1_fg (L := [(1, .long (a)), (0, .ref (p + 0))]) (zfg_cons rfl (zfg_cons rfl zfg_nil)) ?_; exact hkk
  | m + 1, i, a, e, hkk => by
    refine (ys4 34 (v := .int (nI i)) rfl rfl rfl rfl).trans ?_
    refine (ys4 35 (v := .ref (p + 0)) rfl rfl rfl rfl).trans ?_
    refine (ygr 38 rfl hL.2.1 rfl hL.2.2.2.2.1).trans ?_
    refine (yg 41 rfl (zWS.tag hL.2.2.2.2.2.2.1 (o := 0) (by decide) rfl) (zWS.ni hL.2.2.2.2.2.2.1 (o := 0) (by decide) rfl) (by decide) rfl (Eq.trans (zpc_at2 hL.2.2.2.2.2.2.2.2.1 (o := 0) (q := 0) (i := 0) rfl (by decide)) (show (V 0 0 0) = (nI nl) from hF.1))).trans ?_
    refine (ys1 43 (x := 8) rfl rfl rfl).trans ?_
    refine (ys7_2 44 rfl rfl).trans ?_
    rw [show ((nI nl) * 8) = nI (nl * 8) from pk_mul nl 8]
    refine ys18_3 47 rfl rfl (fun h44 => absurd h44 (nI_ge (by omega) (by have := hF.2.1; omega))) (fun h44 => ?_)
    refine (ys4 48 (v := .long (a)) rfl rfl rfl rfl).trans ?_
    refine (ys3 51 (x := 31) rfl rfl rfl).trans ?_
    refine (ys11 52 rfl rfl).trans ?_
    refine (ys4 53 (v := .ref (p + 0)) rfl rfl rfl rfl).trans ?_
    refine (ys4 54 (v := .int (nI i)) rfl rfl rfl rfl).trans ?_
    refine (ys1 56 (x := 8) rfl rfl rfl).trans ?_
    refine (ys8 57 rfl (by decide) rfl).trans ?_
    rw [show ((nI i) / 8) = (nI (i / 8)) from (pk_div (d := 8) (by have := hF.2.1; omega) (by decide) (by decide))]
    refine (ys4 58 (v := .int (nI i)) rfl rfl rfl rfl).trans ?_
    refine (ys1 60 (x := 8) rfl rfl rfl).trans ?_
    refine (ys9 61 rfl (by decide) rfl).trans ?_
    rw [show ((nI i) - (nI i) / 8 * 8) = (nI (i % 8)) from (pk_rem (d := 8) (by have := hF.2.1; omega) (by decide) (by decide))]
    refine (yc3 64 rfl rfl (Nat.le_of_ble_eq_true rfl) (Or.inr (by show ztg (zwi _ _) _ = _; rw [ztg_wi]; exact hL.2.1)) rfl rfl (c_lofN hL hF (by omega) (by omega))).trans ?_
    refine (ys10 65 rfl rfl).trans ?_
    refine (ys11 66 rfl rfl).trans ?_
    refine (ys5 67 (L2 := [(1, .long (((a * 31) + (((alof V np nk (nI (i / 8)) (nI (i % 8))).2).toInt64)))), (3, .int (nI i)), (0, .ref (p + 0))]) rfl rfl rfl rfl).trans ?_
    refine (ys6 70 (y := nI (i + 1)) (L2 := [(3, .int (nI (i + 1))), (1, .long (((a * 31) + (((alof V np nk (nI (i / 8)) (nI (i % 8))).2).toInt64)))), (0, .ref (p + 0))]) rfl rfl (nI_1 _) rfl rfl).trans ?_
    refine (ys19 rfl).trans ?_
    rw [show vdg2 V np nk (m + 1) i a = vdg2 V np nk m (i + 1) ((a * 31) + (((alof V np nk (nI (i / 8)) (nI (i % 8))).2).toInt64)) from by rw [vdg2]; (try dsimp only); first | done | rfl] at hkk; exact l_dg2 hL hF m (i + 1) ((a * 31) + (((alof V np nk (nI (i / 8)) (nI (i % 8))).2).toInt64))   (by omega) hkk

def vdg3 (V : zV) : Nat → Nat → Int64 → Int64
  | 0, i, a =>
    a
  | m + 1, i, a =>
    vdg3 V m (i + 1) ((a * 31) + (((apig V (nI (i / 8)) (nI (i % 8))).2).toInt64))

theorem l_dg3 {d c sl : Nat} {rz : zR} {p r n s : Nat} {V U : zV} {J : zFn} {μ : zM} (hL : zLC μ p r n s) {nl np nh nk : Nat} (hF : zWF V nl np nh nk) : ∀ (m i : Nat) (a : Int64), i + m = np * 8 → zden1 (d + 8) (zden zcds (d + 8)) zc24 (115, [(1, .long ((vdg3 V m i a))), (0, .ref (p + 0))], [], c, sl, zwi μ (zpc (zpc J n V) s U)) = some rz → zden1 (d + 8) (zden zcds (d + 8)) zc24 (75, [(3, .int (nI i)), (1, .long (a)), (0, .ref (p + 0))], [], c, sl, zwi μ (zpc (zpc J n V) s U)) = some rz
  | 0, i, a, e, hkk => by
    have ei : i = np * 8 := by omega
    subst ei
    refine (ys4 76 (v := .int (nI (np * 8))) rfl rfl rfl rfl).trans ?_
    refine (ys4 77 (v := .ref (p + 0)) rfl rfl rfl rfl).trans ?_
    refine (ygr 80 rfl hL.2.1 rfl hL.2.2.2.2.1).trans ?_
    refine (yg 83 rfl (zWS.tag hL.2.2.2.2.2.2.1 (o := 0) (by decide) rfl) (zWS.ni hL.2.2.2.2.2.2.1 (o := 0) (by decide) rfl) (by decide) rfl (Eq.trans (zpc_at2 hL.2.2.2.2.2.2.2.2.1 (o := 0) (q := 0) (i := 0) rfl (by decide)) (show (V 0 0 1) = (nI np) from hF.2.2.1))).trans ?_
    refine (ys1 85 (x := 8) rfl rfl rfl).trans ?_
    refine (ys7_2 86 rfl rfl).trans ?_
    rw [show ((nI np) * 8) = nI (np * 8) from pk_mul np 8]
    refine ys18_3 89 rfl rfl (fun h86 => ?_) (fun h86 => absurd (nI_le (by omega) (by have := hF.2.2.2.1; omega)) h86)
    rw [show vdg3 V 0 (np * 8) a = a from by rw [vdg3]; (try dsimp only); first | done | rfl] at hkk; refine zden1_fg (L := [(1, .long (a)), (0, .ref (p + 0))]) (zfg_cons rfl (zfg_cons rfl zfg_nil)) ?_; exact hkk
  | m + 1, i, a, e, hkk => by
    refine (ys4 76 (v := .int (nI i)) rfl rfl rfl rfl).trans ?_
    refine (ys4 77 (v := .ref (p + 0)) rfl rfl rfl rfl).trans ?_
    refine (ygr 80 rfl hL.2.1 rfl hL.2.2.2.2.1).trans ?_
    refine (yg 83 rfl (zWS.tag hL.2.2.2.2.2.2.1 (o := 0) (by decide) rfl) (zWS.ni hL.2.2.2.2.2.2.1 (o := 0) (by decide) rfl) (by decide) rfl (Eq.trans (zpc_at2 hL.2.2.2.2.2.2.2.2.1 (o := 0) (q := 0) (i := 0) rfl (by decide)) (show (V 0 0 1) = (nI np) from hF.2.2.1))).trans ?_
    refine (ys1 85 (x := 8) rfl rfl rfl).trans ?_
    refine (ys7_2 86 rfl rfl).trans ?_
    rw [show ((nI np) * 8) = nI (np * 8) from pk_mul np 8]
    refine ys18_3 89 rfl rfl (fun h86 => absurd h86 (nI_ge (by omega) (by have := hF.2.2.2.1; omega))) (fun h86 => ?_)
    refine (ys4 90 (v := .long (a)) rfl rfl rfl rfl).trans ?_
    refine (ys3 93 (x := 31) rfl rfl rfl).trans ?_
    refine (ys11 94 rfl rfl).trans ?_
    refine (ys4 95 (v := .ref (p + 0)) rfl rfl rfl rfl).trans ?_
    refine (ys4 96 (v := .int (nI i)) rfl rfl rfl rfl).trans ?_
    refine (ys1 98 (x := 8) rfl rfl rfl).trans ?_
    refine (ys8 99 rfl (by decide) rfl).trans ?_
    rw [show ((nI i) / 8) = (nI (i / 8)) from (pk_div (d := 8) (by have := hF.2.2.2.1; omega) (by decide) (by decide))]
    refine (ys4 100 (v := .int (nI i)) rfl rfl rfl rfl).trans ?_
    refine (ys1 102 (x := 8) rfl rfl rfl).trans ?_
    refine (ys9 103 rfl (by decide) rfl).trans ?_
    rw [show ((nI i) - (nI i) / 8 * 8) = (nI (i % 8)) from (pk_rem (d := 8) (by have := hF.2.2.2.1; omega) (by decide) (by decide))]
    refine (yc3 106 rfl rfl (Nat.le_of_ble_eq_true rfl) (Or.inr (by show ztg (zwi _ _) _ = _; rw [ztg_wi]; exact hL.2.1)) rfl rfl (c_pigN hL hF (by omega) (by omega))).trans ?_
    refine (ys10 107 rfl rfl).trans ?_
    refine (ys11 108 rfl rfl).trans ?_
    refine (ys5 109 (L2 := [(1, .long (((a * 31) + (((apig V (nI (i / 8)) (nI (i % 8))).2).toInt64)))), (3, .int (nI i)), (0, .ref (p + 0))]) rfl rfl rfl rfl).trans ?_
    refine (ys6 112 (y := nI (i + 1)) (L2 := [(3, .int (nI (i + 1))), (1, .long (((a * 31) + (((apig V (nI (i / 8)) (nI (i % 8))).2).toInt64)))), (0, .ref (p + 0))]) rfl rfl (nI_1 _) rfl rfl).trans ?_
    refine (ys19 rfl).trans ?_
    rw [show vdg3 V (m + 1) i a = vdg3 V m (i + 1) ((a * 31) + (((apig V (nI (i / 8)) (nI (i % 8))).2).toInt64)) from by rw [vdg3]; (try dsimp only); first | done | rfl] at hkk; exact l_dg3 hL hF m (i + 1) ((a * 31) + (((apig V (nI (i / 8)) (nI (i % 8))).2).toInt64))   (by omega) hkk

def vdg4 (V : zV) : Nat → Nat → Int64 → Int64
  | 0, i, a =>
    a
  | m + 1, i, a =>
    vdg4 V m (i + 1) ((a * 31) + (((ahaw V (nI (i / 5)) (nI (i % 5))).2).toInt64))

theorem l_dg4 {d c sl : Nat} {rz : zR} {p r n s : Nat} {V U : zV} {J : zFn} {μ : zM} (hL : zLC μ p r n s) {nl np nh nk : Nat} (hF : zWF V nl np nh nk) : ∀ (m i : Nat) (a : Int64), i + m = nh * 5 → zden1 (d + 8) (zden zcds (d + 8)) zc24 (154, [(1, .long ((vdg4 V m i a))), (0, .ref (p + 0))], [], c, sl, zwi μ (zpc (zpc J n V) s U)) = some rz → zden1 (d + 8) (zden zcds (d + 8)) zc24 (117, [(3, .int (nI i)), (1, .long (a)), (0, .ref (p + 0))], [], c, sl, zwi μ (zpc (zpc J n V) s U)) = some rz
  | 0, i, a, e, hkk => by
    have ei : i = nh * 5 := by omega
    subst ei
    refine (ys4 118 (v := .int (nI (nh * 5))) rfl rfl rfl rfl).trans ?_
    refine (ys4 119 (v := .ref (p + 0)) rfl rfl rfl rfl).trans ?_
    refine (ygr 122 rfl hL.2.1 rfl hL.2.2.2.2.1).trans ?_
    refine (yg 125 rfl (zWS.tag hL.2.2.2.2.2.2.1 (o := 0) (by decide) rfl) (zWS.ni hL.2.2.2.2.2.2.1 (o := 0) (by decide) rfl) (by decide) rfl (Eq.trans (zpc_at2 hL.2.2.2.2.2.2.2.2.1 (o := 0) (q := 0) (i := 0) rfl (by decide)) (show (V 0 0 2) = (nI nh) from hF.2.2.2.2.1))).trans ?_
    refine (ys1 126 (x := 5) rfl rfl rfl).trans ?_
    refine (ys7_2 127 rfl rfl).trans ?_
    rw [show ((nI nh) * 5) = nI (nh * 5) from pk_mul nh 5]
    refine ys18_3 130 rfl rfl (fun h127 => ?_) (fun h127 => absurd (nI_le (by omega) (by have := hF.2.2.2.2.2.1; omega)) h127)
    rw [show vdg4 V 0 (nh * 5) a = a from by rw [vdg4]; (try dsimp only); first | done | rfl] at hkk; refine zden1_fg (L := [(1, .long (a)), (0, .ref (p + 0))]) (zfg_cons rfl (zfg_cons rfl zfg_nil)) ?_; exact hkk
  | m + 1, i, a, e, hkk => by
    refine (ys4 118 (v := .int (nI i)) rfl rfl rfl rfl).trans ?_
    refine (ys4 119 (v := .ref (p + 0)) rfl rfl rfl rfl).trans ?_
    refine (ygr 122 rfl hL.2.1 rfl hL.2.2.2.2.1).trans ?_
    refine (yg 125 rfl (zWS.tag hL.2.2.2.2.2.2.1 (o := 0) (by decide) rfl) (zWS.ni hL.2.2.2.2.2.2.1 (o := 0) (by decide) rfl) (by decide) rfl (Eq.trans (zpc_at2 hL.2.2.2.2.2.2.2.2.1 (o := 0) (q := 0) (i := 0) rfl (by decide)) (show (V 0 0 2) = (nI nh) from hF.2.2.2.2.1))).trans ?_
    refine (ys1 126 (x := 5) rfl rfl rfl).trans ?_
    refine (ys7_2 127 rfl rfl).trans ?_
    rw [show ((nI nh) * 5) = nI (nh * 5) from pk_mul nh 5]
    refine ys18_3 130 rfl rfl (fun h127 => absurd h127 (nI_ge (by omega) (by have := hF.2.2.2.2.2.1; omega))) (fun h127 => ?_)
    refine (ys4 131 (v := .long (a)) rfl rfl rfl rfl).trans ?_
    refine (ys3 134 (x := 31) rfl rfl rfl).trans ?_
    refine (ys11 135 rfl rfl).trans ?_
    refine (ys4 136 (v := .ref (p + 0)) rfl rfl rfl rfl).trans ?_
    refine (ys4 137 (v := .int (nI i)) rfl rfl rfl rfl).trans ?_
    refine (ys1 138 (x := 5) rfl rfl rfl).trans ?_
    refine (ys8 139 rfl (by decide) rfl).trans ?_
    rw [show ((nI i) / 5) = (nI (i / 5)) from (pk_div (d := 5) (by have := hF.2.2.2.2.2.1; omega) (by decide) (by decide))]
    refine (ys4 140 (v := .int (nI i)) rfl rfl rfl rfl).trans ?_
    refine (ys1 141 (x := 5) rfl rfl rfl).trans ?_
    refine (ys9 142 rfl (by decide) rfl).trans ?_
    rw [show ((nI i) - (nI i) / 5 * 5) = (nI (i % 5)) from (pk_rem (d := 5) (by have := hF.2.2.2.2.2.1; omega) (by decide) (by decide))]
    refine (yc3 145 rfl rfl (Nat.le_of_ble_eq_true rfl) (Or.inr (by show ztg (zwi _ _) _ = _; rw [ztg_wi]; exact hL.2.1)) rfl rfl (c_hawN hL hF (by omega) (by omega))).trans ?_
    refine (ys10 146 rfl rfl).trans ?_
    refine (ys11 147 rfl rfl).trans ?_
    refine (ys5 148 (L2 := [(1, .long (((a * 31) + (((ahaw V (nI (i / 5)) (nI (i % 5))).2).toInt64)))), (3, .int (nI i)), (0, .ref (p + 0))]) rfl rfl rfl rfl).trans ?_
    refine (ys6 151 (y := nI (i + 1)) (L2 := [(3, .int (nI (i + 1))), (1, .long (((a * 31) + (((ahaw V (nI (i / 5)) (nI (i % 5))).2).toInt64)))), (0, .ref (p + 0))]) rfl rfl (nI_1 _) rfl rfl).trans ?_
    refine (ys19 rfl).trans ?_
    rw [show vdg4 V (m + 1) i a = vdg4 V m (i + 1) ((a * 31) + (((ahaw V (nI (i / 5)) (nI (i % 5))).2).toInt64)) from by rw [vdg4]; (try dsimp only); first | done | rfl] at hkk; exact l_dg4 hL hF m (i + 1) ((a * 31) + (((ahaw V (nI (i / 5)) (nI (i % 5))).2).toInt64))   (by omega) hkk

def vdg5 (V : zV) (np : Nat) (nk : Nat) : Nat → Nat → Int64 → Int64
  | 0, i, a =>
    a
  | m + 1, i, a =>
    vdg5 V np nk m (i + 1) ((a * 31) + (((alett V np nk (nI (i / 8)) (nI (i % 8))).2).toInt64))

theorem l_dg5 {d c sl : Nat} {rz : zR} {p r n s : Nat} {V U : zV} {J : zFn} {μ : zM} (hL : zLC μ p r n s) {nl np nh nk : Nat} (hF : zWF V nl np nh nk) : ∀ (m i : Nat) (a : Int64), i + m = nk * 8 → zden1 (d + 8) (zden zcds (d + 8)) zc24 (196, [(1, .long ((vdg5 V np nk m i a))), (0, .ref (p + 0))], [], c, sl, zwi μ (zpc (zpc J n V) s U)) = some rz → zden1 (d + 8) (zden zcds (d + 8)) zc24 (156, [(3, .int (nI i)), (1, .long (a)), (0, .ref (p + 0))], [], c, sl, zwi μ (zpc (zpc J n V) s U)) = some rz
  | 0, i, a, e, hkk => by
    have ei : i = nk * 8 := by omega
    subst ei
    refine (ys4 157 (v := .int (nI (nk * 8))) rfl rfl rfl rfl).trans ?_
    refine (ys4 158 (v := .ref (p + 0)) rfl rfl rfl rfl).trans ?_
    refine (ygr 161 rfl hL.2.1 rfl hL.2.2.2.2.1).trans ?_
    refine (yg 164 rfl (zWS.tag hL.2.2.2.2.2.2.1 (o := 0) (by decide) rfl) (zWS.ni hL.2.2.2.2.2.2.1 (o := 0) (by decide) rfl) (by decide) rfl (Eq.trans (zpc_at2 hL.2.2.2.2.2.2.2.2.1 (o := 0) (q := 0) (i := 0) rfl (by decide)) (show (V 0 0 3) = (nI nk) from hF.2.2.2.2.2.2.1))).trans ?_
    refine (ys1 166 (x := 8) rfl rfl rfl).trans ?_
    refine (ys7_2 167 rfl rfl).trans ?_
    rw [show ((nI nk) * 8) = nI (nk * 8) from pk_mul nk 8]
    refine ys18_3 170 rfl rfl (fun h167 => ?_) (fun h167 => absurd (nI_le (by omega) (by have := hF.2.2.2.2.2.2.2.1; omega)) h167)
    rw [show vdg5 V np nk 0 (nk * 8) a = a from by rw [vdg5]; (try dsimp only); first | done | rfl] at hkk; refine zden1_fg (L := [(1, .long (a)), (0, .ref (p + 0))]) (zfg_cons rfl (zfg_cons rfl zfg_nil)) ?_; exact hkk
  | m + 1, i, a, e, hkk => by
    refine (ys4 157 (v := .int (nI i)) rfl rfl rfl rfl).trans ?_
    refine (ys4 158 (v := .ref (p + 0)) rfl rfl rfl rfl).trans ?_
    refine (ygr 161 rfl hL.2.1 rfl hL.2.2.2.2.1).trans ?_
    refine (yg 164 rfl (zWS.tag hL.2.2.2.2.2.2.1 (o := 0) (by decide) rfl) (zWS.ni hL.2.2.2.2.2.2.1 (o := 0) (by decide) rfl) (by decide) rfl (Eq.trans (zpc_at2 hL.2.2.2.2.2.2.2.2.1 (o := 0) (q := 0) (i := 0) rfl (by decide)) (show (V 0 0 3) = (nI nk) from hF.2.2.2.2.2.2.1))).trans ?_
    refine (ys1 166 (x := 8) rfl rfl rfl).trans ?_
    refine (ys7_2 167 rfl rfl).trans ?_
    rw [show ((nI nk) * 8) = nI (nk * 8) from pk_mul nk 8]
    refine ys18_3 170 rfl rfl (fun h167 => absurd h167 (nI_ge (by omega) (by have := hF.2.2.2.2.2.2.2.1; omega))) (fun h167 => ?_)
    refine (ys4 171 (v := .long (a)) rfl rfl rfl rfl).trans ?_
    refine (ys3 174 (x := 31) rfl rfl rfl).trans ?_
    refine (ys11 175 rfl rfl).trans ?_
    refine (ys4 176 (v := .ref (p + 0)) rfl rfl rfl rfl).trans ?_
    refine (ys4 177 (v := .int (nI i)) rfl rfl rfl rfl).trans ?_
    refine (ys1 179 (x := 8) rfl rfl rfl).trans ?_
    refine (ys8 180 rfl (by decide) rfl).trans ?_
    rw [show ((nI i) / 8) = (nI (i / 8)) from (pk_div (d := 8) (by have := hF.2.2.2.2.2.2.2.1; omega) (by decide) (by decide))]
    refine (ys4 181 (v := .int (nI i)) rfl rfl rfl rfl).trans ?_
    refine (ys1 183 (x := 8) rfl rfl rfl).trans ?_
    refine (ys9 184 rfl (by decide) rfl).trans ?_
    rw [show ((nI i) - (nI i) / 8 * 8) = (nI (i % 8)) from (pk_rem (d := 8) (by have := hF.2.2.2.2.2.2.2.1; omega) (by decide) (by decide))]
    refine (yc3 187 rfl rfl (Nat.le_of_ble_eq_true rfl) (Or.inr (by show ztg (zwi _ _) _ = _; rw [ztg_wi]; exact hL.2.1)) rfl rfl (c_lettN hL hF (by omega) (by omega))).trans ?_
    refine (ys10 188 rfl rfl).trans ?_
    refine (ys11 189 rfl rfl).trans ?_
    refine (ys5 190 (L2 := [(1, .long (((a * 31) + (((alett V np nk (nI (i / 8)) (nI (i % 8))).2).toInt64)))), (3, .int (nI i)), (0, .ref (p + 0))]) rfl rfl rfl rfl).trans ?_
    refine (ys6 193 (y := nI (i + 1)) (L2 := [(3, .int (nI (i + 1))), (1, .long (((a * 31) + (((alett V np nk (nI (i / 8)) (nI (i % 8))).2).toInt64)))), (0, .ref (p + 0))]) rfl rfl (nI_1 _) rfl rfl).trans ?_
    refine (ys19 rfl).trans ?_
    rw [show vdg5 V np nk (m + 1) i a = vdg5 V np nk m (i + 1) ((a * 31) + (((alett V np nk (nI (i / 8)) (nI (i % 8))).2).toInt64)) from by rw [vdg5]; (try dsimp only); first | done | rfl] at hkk; exact l_dg5 hL hF m (i + 1) ((a * 31) + (((alett V np nk (nI (i / 8)) (nI (i % 8))).2).toInt64))   (by omega) hkk

def adig (V : zV) (np : Nat) (nk : Nat) (nl : Nat) (nh : Nat) (tl : Int32) : Int64 :=
  (vdg5 V np nk (nk * 8) 0 (vdg4 V (nh * 5) 0 (vdg3 V (np * 8) 0 (vdg2 V np nk (nl * 8) 0 (vdg1 V np nk tl (12) 0 733)))))

theorem c_dig {d : Nat} {p r n s : Nat} {V U : zV} {J : zFn} {μ : zM} (hL : zLC μ p r n s) {nl np nh nk : Nat} (hF : zWF V nl np nh nk) {tl : Int32} (htl : J (r + 1 + 0) 0 = tl) : zden zcds (d + 9) 24 [.ref (p + 0)] (zwi μ (zpc (zpc J n V) s U)) = some (0, some (.long ((adig V np nk nl nh tl))), 0, 0, zwi μ (zpc (zpc J n V) s U)) := by
  refine (zd_in (d := d + 8) (cd := zc24) (nL := 4) (L := [(0, .ref (p + 0))]) rfl (Nat.le_of_ble_eq_true rfl) rfl).trans ?_
  refine (ys3 3 (x := 733) rfl rfl rfl).trans ?_
  refine (ys5 4 (L2 := [(1, .long (733)), (0, .ref (p + 0))]) rfl rfl rfl rfl).trans ?_
  refine (ys1 5 (x := nI 0) rfl rfl rfl).trans ?_
  refine (ys5 6 (L2 := [(3, .int (nI 0)), (1, .long (733)), (0, .ref (p + 0))]) rfl rfl rfl rfl).trans ?_
  refine l_dg1 hL hF htl (12) 0 733 (by omega) ?_
  refine (ys1 32 (x := nI 0) rfl rfl rfl).trans ?_
  refine (ys5 33 (L2 := [(3, .int (nI 0)), (1, .long ((vdg1 V np nk tl (12) 0 733))), (0, .ref (p + 0))]) rfl rfl rfl rfl).trans ?_
  refine l_dg2 hL hF (nl * 8) 0 (vdg1 V np nk tl (12) 0 733) (by omega) ?_
  refine (ys1 74 (x := nI 0) rfl rfl rfl).trans ?_
  refine (ys5 75 (L2 := [(3, .int (nI 0)), (1, .long ((vdg2 V np nk (nl * 8) 0 (vdg1 V np nk tl (12) 0 733)))), (0, .ref (p + 0))]) rfl rfl rfl rfl).trans ?_
  refine l_dg3 hL hF (np * 8) 0 (vdg2 V np nk (nl * 8) 0 (vdg1 V np nk tl (12) 0 733)) (by omega) ?_
  refine (ys1 116 (x := nI 0) rfl rfl rfl).trans ?_
  refine (ys5 117 (L2 := [(3, .int (nI 0)), (1, .long ((vdg3 V (np * 8) 0 (vdg2 V np nk (nl * 8) 0 (vdg1 V np nk tl (12) 0 733))))), (0, .ref (p + 0))]) rfl rfl rfl rfl).trans ?_
  refine l_dg4 hL hF (nh * 5) 0 (vdg3 V (np * 8) 0 (vdg2 V np nk (nl * 8) 0 (vdg1 V np nk tl (12) 0 733))) (by omega) ?_
  refine (ys1 155 (x := nI 0) rfl rfl rfl).trans ?_
  refine (ys5 156 (L2 := [(3, .int (nI 0)), (1, .long ((vdg4 V (nh * 5) 0 (vdg3 V (np * 8) 0 (vdg2 V np nk (nl * 8) 0 (vdg1 V np nk tl (12) 0 733)))))), (0, .ref (p + 0))]) rfl rfl rfl rfl).trans ?_
  refine l_dg5 hL hF (nk * 8) 0 (vdg4 V (nh * 5) 0 (vdg3 V (np * 8) 0 (vdg2 V np nk (nl * 8) 0 (vdg1 V np nk tl (12) 0 733)))) (by omega) ?_
  refine (ys4 197 (v := .long ((vdg5 V np nk (nk * 8) 0 (vdg4 V (nh * 5) 0 (vdg3 V (np * 8) 0 (vdg2 V np nk (nl * 8) 0 (vdg1 V np nk tl (12) 0 733))))))) rfl rfl rfl rfl).trans ?_
  refine (ys36 rfl rfl).trans ?_
  rw [show adig V np nk nl nh tl = (vdg5 V np nk (nk * 8) 0 (vdg4 V (nh * 5) 0 (vdg3 V (np * 8) 0 (vdg2 V np nk (nl * 8) 0 (vdg1 V np nk tl (12) 0 733))))) from by unfold adig; (try dsimp only); first | done | rfl]; (first | done | rfl)

