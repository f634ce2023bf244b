/-! LINES OF A TEXT, read into a draft -/
def vc (V : zV) (f : Nat) : Nat := (V 0 0 f).toNatClampNeg
def zcn (V : zV) : Prop := (V 0 0 0 = nI (vc V 0) ∧ vc V 0 ≤ 6) ∧ (V 0 0 1 = nI (vc V 1) ∧ vc V 1 ≤ 20) ∧ (V 0 0 2 = nI (vc V 2) ∧ vc V 2 ≤ 6) ∧ (V 0 0 3 = nI (vc V 3) ∧ vc V 3 ≤ 12)
def zSZ (V : zV) : Prop := ∀ k, k < 12 → ∀ j, j < 6 → ∃ n, n ≤ 20 ∧ V 7 k j = nI n
def zVG (V : zV) : Prop := zcn V ∧ zSZ V
theorem zcn_of {V : zV} {a b c e : Nat} (h0 : V 0 0 0 = nI a) (ha : a ≤ 6) (h1 : V 0 0 1 = nI b) (hb : b ≤ 20) (h2 : V 0 0 2 = nI c) (hc : c ≤ 6) (h3 : V 0 0 3 = nI e) (he : e ≤ 12) : zcn V := by
  unfold zcn vc
  rw [h0, h1, h2, h3, nI_clamp (by omega), nI_clamp (by omega), nI_clamp (by omega), nI_clamp (by omega)]
  exact ⟨⟨rfl, ha⟩, ⟨rfl, hb⟩, ⟨rfl, hc⟩, rfl, he⟩
theorem zcn_cg {V U : zV} (h : zcn V) (e : ∀ f, f < 4 → U 0 0 f = V 0 0 f) : zcn U := by
  unfold zcn vc at *
  rw [e 0 (by decide), e 1 (by decide), e 2 (by decide), e 3 (by decide)]
  exact h
theorem zSZ_cg {V U : zV} (h : zSZ V) (e : ∀ k j, U 7 k j = V 7 k j) : zSZ U := fun k hk j hj => by
  rw [e]
  exact h k hk j hj
theorem zVG_u {V : zV} (h : zVG V) {q i f : Nat} {x : Int32} (h0 : q ≠ 0) (h7 : q ≠ 7) : zVG (zvu V q i f x) :=
  ⟨zcn_cg h.1 (fun g _ => zvu_ne (fun e => h0 e.1.symm)), zSZ_cg h.2 (fun k j => zvu_ne (fun e => h7 e.1.symm))⟩
theorem zVG_k {V : zV} (h : zVG V) {i f : Nat} {x : Int32} {n : Nat} (hn : n ≤ 20) (hx : x = nI n) : zVG (zvu V 7 i f x) :=
  ⟨zcn_cg h.1 (fun g _ => zvu_ne (fun e => absurd e.1 (by decide))), fun k hk j hj => by
    by_cases e : k = i ∧ j = f
    · obtain ⟨rfl, rfl⟩ := e
      rw [zvu_same]
      exact ⟨n, hn, hx⟩
    · rw [zvu_ne (fun q => e q.2)]
      exact h.2 k hk j hj⟩
theorem zVG_c {V : zV} (h : zVG V) {f : Nat} (hf : f < 4) {n m : Nat} (hm : vc V f ≤ m) (hb : m = if f = 0 then 6 else if f = 1 then 20 else if f = 2 then 6 else 12) : zVG (zvu V 0 0 f (zmin (V 0 0 f + 1) (nI m))) := by
  refine ⟨?_, zSZ_cg h.2 (fun k j => zvu_ne (fun e => absurd e.1 (by decide)))⟩
  have hx : ∃ c, c ≤ m ∧ zmin (V 0 0 f + 1) (nI m) = nI c := by
    have hV : V 0 0 f = nI (vc V f) := by
      obtain ⟨⟨h1, -⟩, ⟨h2, -⟩, ⟨h3, -⟩, h4, -⟩ := h.1
      match f, hf with
      | 0, _ => exact h1
      | 1, _ => exact h2
      | 2, _ => exact h3
      | 3, _ => exact h4
    have hm2 : m ≤ 20 := by rw [hb]; split; omega; split; omega; split <;> omega
    rw [hV, nI_1]
    unfold zmin
    split
    · exact ⟨m, Nat.le_refl _, rfl⟩
    · rename_i h1
      refine ⟨vc V f + 1, ?_, rfl⟩
      rcases Nat.lt_or_ge m (vc V f + 1) with h2 | h2
      · exact absurd (nI_lt h2 (by omega)) h1
      · exact h2
  obtain ⟨c, hc, e⟩ := hx
  rw [e]
  obtain ⟨⟨h1, h1'⟩, ⟨h2, h2'⟩, ⟨h3, h3'⟩, h4, h4'⟩ := h.1
  match f, hf with
  | 0, _ =>
    rw [if_pos rfl] at hb
    exact zcn_of (zvu_same _ _ _ _ _) (by omega) ((zvu_ne (by decide)).trans h2) h2' ((zvu_ne (by decide)).trans h3) h3' ((zvu_ne (by decide)).trans h4) h4'
  | 1, _ =>
    rw [if_neg (by decide), if_pos rfl] at hb
    exact zcn_of ((zvu_ne (by decide)).trans h1) h1' (zvu_same _ _ _ _ _) (by omega) ((zvu_ne (by decide)).trans h3) h3' ((zvu_ne (by decide)).trans h4) h4'
  | 2, _ =>
    rw [if_neg (by decide), if_neg (by decide), if_pos rfl] at hb
    exact zcn_of ((zvu_ne (by decide)).trans h1) h1' ((zvu_ne (by decide)).trans h2) h2' (zvu_same _ _ _ _ _) (by omega) ((zvu_ne (by decide)).trans h4) h4'
  | 3, _ =>
    rw [if_neg (by decide), if_neg (by decide), if_neg (by decide)] at hb
    exact zcn_of ((zvu_ne (by decide)).trans h1) h1' ((zvu_ne (by decide)).trans h2) h2' ((zvu_ne (by decide)).trans h3) h3' (zvu_same _ _ _ _ _) (by omega)

theorem vclL_G {V : zV} (h : zVG V) (i : Nat) : zVG (vclL V i) := by
  unfold vclL
  dsimp only
  repeat (first | exact h | refine zVG_u ?_ (by decide) (by decide))
theorem vaddL_G {V : zV} (h : zVG V) : zVG (vaddL V) := by
  unfold vaddL
  dsimp only
  refine vclL_G ?_ _
  exact zVG_c (n := 0) h (by decide) h.1.1.2 rfl
theorem znumL : ∀ n, n ≤ 6 → zsf (zmin (nI n + 1) 6 - 1) 6 = min n 5 := by decide
theorem c_addLn {d w : Nat} {V : zV} {J : Nat → Nat → Int32} {μ : zM} (hW : zWS μ w) (h : zVG V) : zden zcds (d + 3) 73 [.ref w] (zwi μ (zpc J w V)) = some (0, some (.ref (w + (5 + 3 * (min (vc V 0) 5)))), 0, 0, zwi μ (zpc J w (vaddL V))) := by
  have e := znumL (vc V 0) h.1.1.2
  rw [← h.1.1.1] at e
  rw [← e]
  exact c_addL hW

theorem vclP_G {V : zV} (h : zVG V) (i : Nat) : zVG (vclP V i) := by
  unfold vclP
  dsimp only
  repeat (first | exact h | refine zVG_u ?_ (by decide) (by decide))
theorem vaddP_G {V : zV} (h : zVG V) : zVG (vaddP V) := by
  unfold vaddP
  dsimp only
  refine vclP_G ?_ _
  exact zVG_c (n := 0) h (by decide) h.1.2.1.2 rfl
theorem znumP : ∀ n, n ≤ 20 → zsf (zmin (nI n + 1) 20 - 1) 20 = min n 19 := by decide
theorem c_addPn {d w : Nat} {V : zV} {J : Nat → Nat → Int32} {μ : zM} (hW : zWS μ w) (h : zVG V) : zden zcds (d + 3) 74 [.ref w] (zwi μ (zpc J w V)) = some (0, some (.ref (w + (23 + (min (vc V 1) 19)))), 0, 0, zwi μ (zpc J w (vaddP V))) := by
  have e := znumP (vc V 1) h.1.2.1.2
  rw [← h.1.2.1.1] at e
  rw [← e]
  exact c_addP hW

theorem vclH_G {V : zV} (h : zVG V) (i : Nat) : zVG (vclH V i) := by
  unfold vclH
  dsimp only
  repeat (first | exact h | refine zVG_u ?_ (by decide) (by decide))
theorem vaddH_G {V : zV} (h : zVG V) : zVG (vaddH V) := by
  unfold vaddH
  dsimp only
  refine vclH_G ?_ _
  exact zVG_c (n := 0) h (by decide) h.1.2.2.1.2 rfl
theorem znumH : ∀ n, n ≤ 6 → zsf (zmin (nI n + 1) 6 - 1) 6 = min n 5 := by decide
theorem c_addHn {d w : Nat} {V : zV} {J : Nat → Nat → Int32} {μ : zM} (hW : zWS μ w) (h : zVG V) : zden zcds (d + 3) 75 [.ref w] (zwi μ (zpc J w V)) = some (0, some (.ref (w + (43 + (min (vc V 2) 5)))), 0, 0, zwi μ (zpc J w (vaddH V))) := by
  have e := znumH (vc V 2) h.1.2.2.1.2
  rw [← h.1.2.2.1.1] at e
  rw [← e]
  exact c_addH hW

theorem vclK_G {V : zV} (h : zVG V) (i : Nat) : zVG (vclK V i) := by
  unfold vclK
  dsimp only
  repeat (first | exact h | refine zVG_u ?_ (by decide) (by decide))
theorem vaddK_G {V : zV} (h : zVG V) : zVG (vaddK V) := by
  unfold vaddK
  dsimp only
  refine vclK_G ?_ _
  exact zVG_c (n := 0) h (by decide) h.1.2.2.2.2 rfl
theorem znumK : ∀ n, n ≤ 12 → zsf (zmin (nI n + 1) 12 - 1) 12 = min n 11 := by decide
theorem c_addKn {d w : Nat} {V : zV} {J : Nat → Nat → Int32} {μ : zM} (hW : zWS μ w) (h : zVG V) : zden zcds (d + 3) 76 [.ref w] (zwi μ (zpc J w V)) = some (0, some (.ref (w + (49 + 3 * (min (vc V 3) 11)))), 0, 0, zwi μ (zpc J w (vaddK V))) := by
  have e := znumK (vc V 3) h.1.2.2.2.2
  rw [← h.1.2.2.2.1] at e
  rw [← e]
  exact c_addK hW

theorem vasp_G {V : zV} (h : zVG V) (i : Nat) (x y : Int32) : zVG (vasp V i x y) := by
  unfold vasp
  dsimp only
  repeat' split
  all_goals repeat (first | exact h | refine zVG_u ?_ (by decide) (by decide))
theorem vast_G {V : zV} (h : zVG V) (k : Nat) : zVG (vast V k) := by
  unfold vast
  dsimp only
  repeat' split
  all_goals first | exact h | (refine zVG_u (zVG_k h (n := 0) (by decide) rfl) (by decide) (by decide))
theorem zSZ.size {V : zV} (h : zSZ V) {k : Nat} (hk : k < 12) (x : Int32) : ∃ n, n ≤ 20 ∧ vsize V k x = nI n := by
  unfold vsize
  split
  · exact ⟨0, by decide, rfl⟩
  · split
    · exact ⟨0, by decide, rfl⟩
    · exact h k hk _ (zsf_lt (by decide) (by decide))
theorem vaca_G {V : zV} (h : zVG V) {k : Nat} (hk : k < 12) (x : Int32) : zVG (vaca V k x) := by
  unfold vaca
  dsimp only
  obtain ⟨n, hn, e⟩ := h.2.size hk ((V 4 k 0) - 1)
  split
  · exact h
  · rename_i h20
    rw [e] at h20 ⊢
    have hlt : n < 20 := by
      rcases Nat.lt_or_ge n 20 with h1 | h1
      · exact h1
      · exact absurd (nI_le h1 (by omega)) h20
    repeat' split
    all_goals first | exact h | (refine zVG_k (zVG_u h (by decide) (by decide)) (n := n + 1) (by omega) (nI_1 _))
def vlshW (V : zV) (k : Nat) (x : Int32) : Int32 := vlsh V k x ((V 4 k 0) - 1) (vsize V k ((V 4 k 0) - 1)).toNatClampNeg 0
theorem c_lshW {d w : Nat} {V : zV} {J : Nat → Nat → Int32} {μ : zM} (hW : zWS μ w) {k : Nat} (hk : k < 12) {x : Int32} (h : zVG V) : zden zcds (d + 4) 119 [.ref (w + (49 + 3 * k)), .int (x)] (zwi μ (zpc J w V)) = some (0, some (.int (vlshW V k x)), 0, 0, zwi μ (zpc J w V)) := by
  obtain ⟨n, hn, e⟩ := h.2.size hk ((V 4 k 0) - 1)
  unfold vlshW
  rw [e, nI_clamp (by omega)]
  exact c_lsh hW hk hn e

def vrlT (P : zFn) (V : zV) (Q : zFn) (K : zKn) (n : Nat) : Int32 × zFn × zV :=
  let r1 := vro P Q K 9 0 5 0
  if r1.1 = 0 then
    (0, r1.2, V)
  else
    let V2 := zvu V 1 n 3 ((r1.2 0 3))
    (1, r1.2, V2)

theorem s_rlT {d c sl : Nat} {r w : Nat} {P Q J : zFn} {V : zV} {K : zKn} {μ : zM} (hC : zRC μ r w J Q K) {n : Nat} (hn : n < 6) : zden1 (d + 6) (zden zcds (d + 6)) zc34 (113, [(2, .ref (w + (5 + 3 * n))), (0, .ref (r + 0)), (1, .ref (w))], [], c, sl, zwi μ (zpc (zrl J r P) w V)) = some (0, some (.int ((vrlT P V Q K n).1)), c, sl, zwi μ (zpc (zrl J r ((vrlT P V Q K n).2.1)) w ((vrlT P V Q K n).2.2))) := by
  refine (ys4 114 (v := .ref (r + 0)) rfl rfl rfl rfl).trans ?_
  refine (ys25 117 rfl (v := .ref (9)) rfl rfl).trans ?_
  refine (ys1 118 (x := 0) rfl rfl rfl).trans ?_
  refine (ys1 119 (x := 5) rfl rfl rfl).trans ?_
  refine (ys1 120 (x := 0) rfl rfl rfl).trans ?_
  refine (yc5 123 rfl rfl (Nat.le_of_ble_eq_true rfl) (Or.inr (by show ztg (zwi _ _) _ = _; rw [ztg_wi]; exact (zFS.tag hC.1.1 (j := 0) (by decide) rfl))) rfl rfl (c_ro hC (by decide))).trans ?_
  generalize hr1 : vro P Q K 9 0 5 0 = r1
  refine ys17_1 126 rfl rfl (fun h123 => ?_) (fun h123 => ?_)
  · refine (ys1 127 (x := 0) rfl rfl rfl).trans ?_
    refine (ys36 rfl (by decide)).trans ?_
    rw [show vrlT P V Q K n = (0, r1.2, V) from by subst hr1; unfold vrlT; (try dsimp only); rw [if_pos h123]]; (first | done | rfl)
  · refine (ys4 129 (v := .ref (w + (5 + 3 * n))) rfl rfl rfl rfl).trans ?_
    refine (ys4 130 (v := .ref (r + 0)) rfl rfl rfl rfl).trans ?_
    refine (yg 133 rfl (zFS.tag hC.1.1 (j := 0) (by decide) rfl) (zFS.ni hC.1.1 (j := 0) (by decide) rfl) (by decide) rfl (zrw_at (o := 0) (j := 0) (by decide) hC.2.2.1)).trans ?_
    refine (yq 136 rfl (zWS.tag hC.2.1 (o := 5 + 3 * n) (zwT_1 _ hn).2.2.2.2 (zwT_1 _ hn).1) (zWS.k0 hC.2.1 (o := 5 + 3 * n)) (zWS.ni hC.2.1 (o := 5 + 3 * n) (zwT_1 _ hn).2.2.2.2 (zwT_1 _ hn).2.1) (by decide) rfl (zpc_up (o := 5 + 3 * n) (zpk_1 _ hn) (zwT_1 _ hn).2.2.2.2)).trans ?_
    generalize hV2 : zvu V 1 n 3 ((r1.2 0 3)) = V2
    refine (ys1 137 (x := 1) rfl rfl rfl).trans ?_
    refine (ys36 rfl (by decide)).trans ?_
    rw [show vrlT P V Q K n = (1, r1.2, V2) from by subst hV2 hr1; unfold vrlT; (try dsimp only); rw [if_neg h123]]; (first | done | rfl)

def vrlL (Q : zFn) (K : zKn) (n : Nat) : Nat → Nat → zFn → zV → Int32 × zFn × zV
  | 0, i, P, V =>
    vrlT P V Q K n
  | m + 1, i, P, V =>
    if vko Q K (P 0 0) = 8 then
      let P1 := vat P
      if (V 1 n 0) < 6 then
        let r2 := vrs P1 Q K
        if r2.1 = 0 then
          (0, r2.2, V)
        else
          let V3 := vasp V n (r2.2 0 4) (r2.2 0 5)
          vrlL Q K n m (i + 1) r2.2 V3
      else
        let P4 := vte P1 Q 4
        let r5 := vrs P4 Q K
        if r5.1 = 0 then
          (0, r5.2, V)
        else
          let V6 := vasp V n (r5.2 0 4) (r5.2 0 5)
          vrlL Q K n m (i + 1) r5.2 V6
    else
      vrlT P V Q K n

theorem l_rl {d c sl : Nat} {r w : Nat} {Q J : zFn} {K : zKn} {μ : zM} (hC : zRC μ r w J Q K) {n : Nat} (hn : n < 6) : ∀ (m i : Nat) (P : zFn) (V : zV), i + m = 400 → zden1 (d + 6) (zden zcds (d + 6)) zc34 (55, [(3, .int (nI i)), (2, .ref (w + (5 + 3 * n))), (0, .ref (r + 0)), (1, .ref (w))], [], c, sl, zwi μ (zpc (zrl J r P) w V)) = some (0, some (.int ((vrlL Q K n m i P V).1)), c, sl, zwi μ (zpc (zrl J r ((vrlL Q K n m i P V).2.1)) w ((vrlL Q K n m i P V).2.2)))
  | 0, i, P, V, e => by
    refine (ys4 56 (v := .int (nI i)) rfl rfl rfl rfl).trans ?_
    refine (ys1 59 (x := nI 400) rfl rfl rfl).trans ?_
    refine ys18_3 62 rfl rfl (fun h59 => ?_) (fun h59 => absurd (nI_le (by omega) (by omega)) h59)
    rw [show vrlL Q K n 0 i P V = vrlT P V Q K n from by rw [vrlL]; (try dsimp only); first | done | rfl]; refine zden1_fg (L := [(2, .ref (w + (5 + 3 * n))), (0, .ref (r + 0)), (1, .ref (w))]) (zfg_cons rfl (zfg_cons rfl (zfg_cons rfl zfg_nil))) ?_; exact s_rlT hC hn
  | m + 1, i, P, V, e => by
    refine (ys4 56 (v := .int (nI i)) rfl rfl rfl rfl).trans ?_
    refine (ys1 59 (x := nI 400) rfl rfl rfl).trans ?_
    refine ys18_3 62 rfl rfl (fun h59 => absurd h59 (nI_ge (by omega) (by omega))) (fun h59 => ?_)
    refine (ys4 63 (v := .ref (r + 0)) rfl rfl rfl rfl).trans ?_
    refine (ys25 66 rfl (v := .ref (8)) rfl rfl).trans ?_
    by_cases h66 : vko Q K (P 0 0) = 8
    · refine (yc2 69 rfl rfl (Nat.le_of_ble_eq_true rfl) (Or.inr (by show ztg (zwi _ _) _ = _; rw [ztg_wi]; exact (zFS.tag hC.1.1 (j := 0) (by decide) rfl))) rfl rfl (c_ac1 hC (by decide) h66)).trans ?_
      generalize hP1 : vat P = P1
      refine ys17_0 72 rfl rfl (fun h69 => absurd h69 (by decide)) (fun h69 => ?_)
      refine (ys4 73 (v := .ref (w + (5 + 3 * n))) rfl rfl rfl rfl).trans ?_
      refine (yg 76 rfl (zWS.tag hC.2.1 (o := 5 + 3 * n) (zwT_1 _ hn).2.2.2.2 (zwT_1 _ hn).1) (zWS.ni hC.2.1 (o := 5 + 3 * n) (zwT_1 _ hn).2.2.2.2 (zwT_1 _ hn).2.1) (by decide) rfl (zpc_at (o := 5 + 3 * n) (zpk_1 _ hn) (zwT_1 _ hn).2.2.2.2)).trans ?_
      refine (ys1 78 (x := 6) rfl rfl rfl).trans ?_
      refine ys18_2 81 rfl rfl (fun h78 => ?_) (fun h78 => ?_)
      · refine (ys4 87 (v := .ref (r + 0)) rfl rfl rfl rfl).trans ?_
        refine (yc1 90 rfl rfl (Nat.le_of_ble_eq_true rfl) (Or.inr (by show ztg (zwi _ _) _ = _; rw [ztg_wi]; exact (zFS.tag hC.1.1 (j := 0) (by decide) rfl))) rfl rfl (c_rs hC)).trans ?_
        generalize hr2 : vrs P1 Q K = r2
        refine ys17_1 93 rfl rfl (fun h90 => ?_) (fun h90 => ?_)
        · refine (ys1 94 (x := 0) rfl rfl rfl).trans ?_
          refine (ys36 rfl (by decide)).trans ?_
          rw [show vrlL Q K n (m + 1) i P V = (0, r2.2, V) from by subst hr2 hP1; rw [vrlL]; (try dsimp only); rw [if_pos h66, if_pos h78, if_pos h90]]; (first | done | rfl)
        · refine (ys4 96 (v := .ref (w + (5 + 3 * n))) rfl rfl rfl rfl).trans ?_
          refine (ys4 97 (v := .ref (r + 0)) rfl rfl rfl rfl).trans ?_
          refine (yg 100 rfl (zFS.tag hC.1.1 (j := 0) (by decide) rfl) (zFS.ni hC.1.1 (j := 0) (by decide) rfl) (by decide) rfl (zrw_at (o := 0) (j := 0) (by decide) hC.2.2.1)).trans ?_
          refine (ys4 101 (v := .ref (r + 0)) rfl rfl rfl rfl).trans ?_
          refine (yg 104 rfl (zFS.tag hC.1.1 (j := 0) (by decide) rfl) (zFS.ni hC.1.1 (j := 0) (by decide) rfl) (by decide) rfl (zrw_at (o := 0) (j := 0) (by decide) hC.2.2.1)).trans ?_
          refine (yc3 107 rfl rfl (Nat.le_of_ble_eq_true rfl) (Or.inr (by show ztg (zwi _ _) _ = _; rw [ztg_wi]; exact (zWS.tag hC.2.1 (o := 5 + 3 * n) (zwT_1 _ hn).2.2.2.2 (zwT_1 _ hn).1))) rfl rfl (c_asp hC.2.1 hn)).trans ?_
          generalize hV3 : vasp V n (r2.2 0 4) (r2.2 0 5) = V3
          refine (ys6 110 (y := nI (i + 1)) (L2 := [(3, .int (nI (i + 1))), (2, .ref (w + (5 + 3 * n))), (0, .ref (r + 0)), (1, .ref (w))]) rfl rfl (nI_1 _) rfl rfl).trans ?_
          refine (ys19 rfl).trans ?_
          rw [show vrlL Q K n (m + 1) i P V = vrlL Q K n m (i + 1) r2.2 V3 from by subst hV3 hr2 hP1; rw [vrlL]; (try dsimp only); rw [if_pos h66, if_pos h78, if_neg h90]]; exact l_rl hC hn m (i + 1)  r2.2 V3  (by omega)
      · refine (ys4 82 (v := .ref (r + 0)) rfl rfl rfl rfl).trans ?_
        refine (ys1 83 (x := 4) rfl rfl rfl).trans ?_
        refine (yc2 86 rfl rfl (Nat.le_of_ble_eq_true rfl) (Or.inr (by show ztg (zwi _ _) _ = _; rw [ztg_wi]; exact (zFS.tag hC.1.1 (j := 0) (by decide) rfl))) rfl rfl (c_tell hC)).trans ?_
        generalize hP4 : vte P1 Q 4 = P4
        refine (ys4 87 (v := .ref (r + 0)) rfl rfl rfl rfl).trans ?_
        refine (yc1 90 rfl rfl (Nat.le_of_ble_eq_true rfl) (Or.inr (by show ztg (zwi _ _) _ = _; rw [ztg_wi]; exact (zFS.tag hC.1.1 (j := 0) (by decide) rfl))) rfl rfl (c_rs hC)).trans ?_
        generalize hr5 : vrs P4 Q K = r5
        refine ys17_1 93 rfl rfl (fun h90 => ?_) (fun h90 => ?_)
        · refine (ys1 94 (x := 0) rfl rfl rfl).trans ?_
          refine (ys36 rfl (by decide)).trans ?_
          rw [show vrlL Q K n (m + 1) i P V = (0, r5.2, V) from by subst hr5 hP4 hP1; rw [vrlL]; (try dsimp only); rw [if_pos h66, if_neg h78, if_pos h90]]; (first | done | rfl)
        · refine (ys4 96 (v := .ref (w + (5 + 3 * n))) rfl rfl rfl rfl).trans ?_
          refine (ys4 97 (v := .ref (r + 0)) rfl rfl rfl rfl).trans ?_
          refine (yg 100 rfl (zFS.tag hC.1.1 (j := 0) (by decide) rfl) (zFS.ni hC.1.1 (j := 0) (by decide) rfl) (by decide) rfl (zrw_at (o := 0) (j := 0) (by decide) hC.2.2.1)).trans ?_
          refine (ys4 101 (v := .ref (r + 0)) rfl rfl rfl rfl).trans ?_
          refine (yg 104 rfl (zFS.tag hC.1.1 (j := 0) (by decide) rfl) (zFS.ni hC.1.1 (j := 0) (by decide) rfl) (by decide) rfl (zrw_at (o := 0) (j := 0) (by decide) hC.2.2.1)).trans ?_
          refine (yc3 107 rfl rfl (Nat.le_of_ble_eq_true rfl) (Or.inr (by show ztg (zwi _ _) _ = _; rw [ztg_wi]; exact (zWS.tag hC.2.1 (o := 5 + 3 * n) (zwT_1 _ hn).2.2.2.2 (zwT_1 _ hn).1))) rfl rfl (c_asp hC.2.1 hn)).trans ?_
          generalize hV6 : vasp V n (r5.2 0 4) (r5.2 0 5) = V6
          refine (ys6 110 (y := nI (i + 1)) (L2 := [(3, .int (nI (i + 1))), (2, .ref (w + (5 + 3 * n))), (0, .ref (r + 0)), (1, .ref (w))]) rfl rfl (nI_1 _) rfl rfl).trans ?_
          refine (ys19 rfl).trans ?_
          rw [show vrlL Q K n (m + 1) i P V = vrlL Q K n m (i + 1) r5.2 V6 from by subst hV6 hr5 hP4 hP1; rw [vrlL]; (try dsimp only); rw [if_pos h66, if_neg h78, if_neg h90]]; exact l_rl hC hn m (i + 1)  r5.2 V6  (by omega)
    · refine (yc2 69 rfl rfl (Nat.le_of_ble_eq_true rfl) (Or.inr (by show ztg (zwi _ _) _ = _; rw [ztg_wi]; exact (zFS.tag hC.1.1 (j := 0) (by decide) rfl))) rfl rfl (c_ac0 hC (by decide) h66)).trans ?_
      refine ys17_0 72 rfl rfl (fun h69 => ?_) (fun h69 => absurd (by decide) h69)
      rw [show vrlL Q K n (m + 1) i P V = vrlT P V Q K n from by rw [vrlL]; (try dsimp only); rw [if_neg h66]]; refine zden1_fg (L := [(2, .ref (w + (5 + 3 * n))), (0, .ref (r + 0)), (1, .ref (w))]) (zfg_cons rfl (zfg_cons rfl (zfg_cons rfl zfg_nil))) ?_; exact s_rlT hC hn

def vrl (P : zFn) (V : zV) (Q : zFn) (K : zKn) : Int32 × zFn × zV :=
  if vko Q K (P 0 0) = 2 then
    let P1 := vnn1 P Q (vc V 0)
    let V2 := vaddL V
    let n1 := (min (vc V 0) 5)
    if vko Q K (P1 0 0) = 7 then
      let P3 := vat P1
      let r4 := vrs P3 Q K
      if r4.1 = 0 then
        (0, r4.2, V2)
      else
        let V5 := vasp V2 n1 (r4.2 0 4) (r4.2 0 5)
        vrlL Q K n1 399 1 r4.2 V5
    else
      (0, P1, V2)
  else
    (0, P, V)

theorem c_rl {d : Nat} {r w : Nat} {P Q J : zFn} {V : zV} {K : zKn} {μ : zM} (hC : zRC μ r w J Q K) (hG : zVG V) : zden zcds (d + 7) 34 [.ref (r + 0), .ref (w)] (zwi μ (zpc (zrl J r P) w V)) = some (0, some (.int ((vrl P V Q K).1)), 0, 0, zwi μ (zpc (zrl J r ((vrl P V Q K).2.1)) w ((vrl P V Q K).2.2))) := by
  refine (zd_in (d := d + 6) (cd := zc34) (nL := 4) (L := [(0, .ref (r + 0)), (1, .ref (w))]) rfl (Nat.le_of_ble_eq_true rfl) rfl).trans ?_
  refine (ys4 1 (v := .ref (r + 0)) rfl rfl rfl rfl).trans ?_
  refine (ys4 2 (v := .ref (r + 0)) rfl rfl rfl rfl).trans ?_
  refine (ygr 5 rfl (zFS.tag hC.1.1 (j := 0) (by decide) rfl) rfl hC.1.2.2.1).trans ?_
  refine (ys4 6 (v := .ref (w)) rfl rfl rfl rfl).trans ?_
  refine (yg 9 rfl (zWS.tag hC.2.1 (o := 0) (by decide) rfl) (zWS.ni hC.2.1 (o := 0) (by decide) rfl) (by decide) rfl (Eq.trans (zpc_at (o := 0) (q := 0) (i := 0) rfl (by decide)) (show (V 0 0 0) = (nI (vc V 0)) from hG.1.1.1))).trans ?_
  by_cases h9 : vko Q K (P 0 0) = 2
  · refine (yc3 12 rfl rfl (Nat.le_of_ble_eq_true rfl) (Or.inr (by show ztg (zwi _ _) _ = _; rw [ztg_wi]; exact (zFS.tag hC.1.1 (j := 0) (by decide) rfl))) rfl rfl (c_nn11 hC hG.1.1.2 h9)).trans ?_
    generalize hP1 : vnn1 P Q (vc V 0) = P1
    refine ys17_1 15 rfl rfl (fun h12 => absurd h12 (by decide)) (fun h12 => ?_)
    refine (ys4 18 (v := .ref (w)) rfl rfl rfl rfl).trans ?_
    refine (yc1 21 rfl rfl (Nat.le_of_ble_eq_true rfl) (Or.inr (by show ztg (zwi _ _) _ = _; rw [ztg_wi]; exact (zWS.tag hC.2.1 (o := 0) (by decide) rfl))) rfl rfl (c_addLn hC.2.1 hG)).trans ?_
    generalize hV2 : vaddL V = V2
    have hGV2 : zVG V2 := by rw [← hV2]; exact vaddL_G hG
    generalize hn1 : (min (vc V 0) 5) = n1
    have hn1b : n1 < 6 := by rw [← hn1]; exact (by omega)
    refine (ys5 22 (L2 := [(2, .ref (w + (5 + 3 * n1))), (0, .ref (r + 0)), (1, .ref (w))]) rfl rfl rfl rfl).trans ?_
    refine (ys4 23 (v := .ref (r + 0)) rfl rfl rfl rfl).trans ?_
    refine (ys25 26 rfl (v := .ref (7)) rfl rfl).trans ?_
    by_cases h26 : vko Q K (P1 0 0) = 7
    · refine (yc2 29 rfl rfl (Nat.le_of_ble_eq_true rfl) (Or.inr (by show ztg (zwi _ _) _ = _; rw [ztg_wi]; exact (zFS.tag hC.1.1 (j := 0) (by decide) rfl))) rfl rfl (c_ac1 hC (by decide) h26)).trans ?_
      generalize hP3 : vat P1 = P3
      refine ys17_0 32 rfl rfl (fun h29 => absurd h29 (by decide)) (fun h29 => ?_)
      refine (ys4 33 (v := .ref (r + 0)) rfl rfl rfl rfl).trans ?_
      refine (yc1 36 rfl rfl (Nat.le_of_ble_eq_true rfl) (Or.inr (by show ztg (zwi _ _) _ = _; rw [ztg_wi]; exact (zFS.tag hC.1.1 (j := 0) (by decide) rfl))) rfl rfl (c_rs hC)).trans ?_
      generalize hr4 : vrs P3 Q K = r4
      refine ys17_1 39 rfl rfl (fun h36 => ?_) (fun h36 => ?_)
      · refine (ys1 40 (x := 0) rfl rfl rfl).trans ?_
        refine (ys36 rfl (by decide)).trans ?_
        rw [show vrl P V Q K = (0, r4.2, V2) from by subst hr4 hP3 hn1 hV2 hP1; unfold vrl; (try dsimp only); rw [if_pos h9, if_pos h26, if_pos h36]]; (first | done | rfl)
      · refine (ys4 42 (v := .ref (w + (5 + 3 * n1))) rfl rfl rfl rfl).trans ?_
        refine (ys4 43 (v := .ref (r + 0)) rfl rfl rfl rfl).trans ?_
        refine (yg 46 rfl (zFS.tag hC.1.1 (j := 0) (by decide) rfl) (zFS.ni hC.1.1 (j := 0) (by decide) rfl) (by decide) rfl (zrw_at (o := 0) (j := 0) (by decide) hC.2.2.1)).trans ?_
        refine (ys4 47 (v := .ref (r + 0)) rfl rfl rfl rfl).trans ?_
        refine (yg 50 rfl (zFS.tag hC.1.1 (j := 0) (by decide) rfl) (zFS.ni hC.1.1 (j := 0) (by decide) rfl) (by decide) rfl (zrw_at (o := 0) (j := 0) (by decide) hC.2.2.1)).trans ?_
        refine (yc3 53 rfl rfl (Nat.le_of_ble_eq_true rfl) (Or.inr (by show ztg (zwi _ _) _ = _; rw [ztg_wi]; exact (zWS.tag hC.2.1 (o := 5 + 3 * n1) (zwT_1 _ hn1b).2.2.2.2 (zwT_1 _ hn1b).1))) rfl rfl (c_asp hC.2.1 hn1b)).trans ?_
        generalize hV5 : vasp V2 n1 (r4.2 0 4) (r4.2 0 5) = V5
        have hGV5 : zVG V5 := by rw [← hV5]; exact vasp_G hGV2 _ _ _
        refine (ys1 54 (x := nI 1) rfl rfl rfl).trans ?_
        refine (ys5 55 (L2 := [(3, .int (nI 1)), (2, .ref (w + (5 + 3 * n1))), (0, .ref (r + 0)), (1, .ref (w))]) rfl rfl rfl rfl).trans ?_
        rw [show vrl P V Q K = vrlL Q K n1 399 1 r4.2 V5 from by subst hV5 hr4 hP3 hn1 hV2 hP1; unfold vrl; (try dsimp only); rw [if_pos h9, if_pos h26, if_neg h36]]; exact l_rl hC hn1b 399 1 _ _ (by omega)
    · refine (yc2 29 rfl rfl (Nat.le_of_ble_eq_true rfl) (Or.inr (by show ztg (zwi _ _) _ = _; rw [ztg_wi]; exact (zFS.tag hC.1.1 (j := 0) (by decide) rfl))) rfl rfl (c_ac0 hC (by decide) h26)).trans ?_
      refine ys17_0 32 rfl rfl (fun h29 => ?_) (fun h29 => absurd (by decide) h29)
      refine (ys1 40 (x := 0) rfl rfl rfl).trans ?_
      refine (ys36 rfl (by decide)).trans ?_
      rw [show vrl P V Q K = (0, P1, V2) from by subst hn1 hV2 hP1; unfold vrl; (try dsimp only); rw [if_pos h9, if_neg h26]]; (first | done | rfl)
  · refine (yc3 12 rfl rfl (Nat.le_of_ble_eq_true rfl) (Or.inr (by show ztg (zwi _ _) _ = _; rw [ztg_wi]; exact (zFS.tag hC.1.1 (j := 0) (by decide) rfl))) rfl rfl (c_nn01 hC hG.1.1.2 h9)).trans ?_
    refine ys17_1 15 rfl rfl (fun h12 => ?_) (fun h12 => absurd (by decide) h12)
    refine (ys1 16 (x := 0) rfl rfl rfl).trans ?_
    refine (ys36 rfl (by decide)).trans ?_
    rw [show vrl P V Q K = (0, P, V) from by unfold vrl; (try dsimp only); rw [if_neg h9]]; (first | done | rfl)

theorem vrlT_G {V : zV} (h : zVG V) (P Q : zFn) (K : zKn) (n : Nat) : zVG (vrlT P V Q K n).2.2 := by
  unfold vrlT
  dsimp only
  split
  · exact h
  · exact zVG_u h (by decide) (by decide)
theorem vrlL_G (Q : zFn) (K : zKn) (n : Nat) : ∀ (m i : Nat) (P : zFn) (V : zV), zVG V → zVG (vrlL Q K n m i P V).2.2
  | 0, i, P, V, h => by rw [vrlL]; exact vrlT_G h _ _ _ _
  | m + 1, i, P, V, hG => by
    by_cases hc0 : vko Q K (P 0 0) = 8
    · obtain ⟨P1, hP1⟩ : ∃ z_, vat P = z_ := ⟨_, rfl⟩
      by_cases hc2 : (V 1 n 0) < 6
      · obtain ⟨r2, hr2⟩ : ∃ z_, vrs P1 Q K = z_ := ⟨_, rfl⟩
        by_cases hc4 : r2.1 = 0
        · rw [show vrlL Q K n (m + 1) i P V = (0, r2.2, V) from by subst hr2 hP1; rw [vrlL]; (try dsimp only); rw [if_pos hc0, if_pos hc2, if_pos hc4]]; exact hG
        · obtain ⟨V3, hV3⟩ : ∃ z_, vasp V n (r2.2 0 4) (r2.2 0 5) = z_ := ⟨_, rfl⟩
          have hGV3 : zVG V3 := by rw [← hV3]; exact vasp_G hG _ _ _
          rw [show vrlL Q K n (m + 1) i P V = vrlL Q K n m (i + 1) r2.2 V3 from by subst hV3 hr2 hP1; rw [vrlL]; (try dsimp only); rw [if_pos hc0, if_pos hc2, if_neg hc4]]; exact vrlL_G _ _ _ _ _ _ _ hGV3
      · obtain ⟨P4, hP4⟩ : ∃ z_, vte P1 Q 4 = z_ := ⟨_, rfl⟩
        obtain ⟨r5, hr5⟩ : ∃ z_, vrs P4 Q K = z_ := ⟨_, rfl⟩
        by_cases hc11 : r5.1 = 0
        · rw [show vrlL Q K n (m + 1) i P V = (0, r5.2, V) from by subst hr5 hP4 hP1; rw [vrlL]; (try dsimp only); rw [if_pos hc0, if_neg hc2, if_pos hc11]]; exact hG
        · obtain ⟨V6, hV6⟩ : ∃ z_, vasp V n (r5.2 0 4) (r5.2 0 5) = z_ := ⟨_, rfl⟩
          have hGV6 : zVG V6 := by rw [← hV6]; exact vasp_G hG _ _ _
          rw [show vrlL Q K n (m + 1) i P V = vrlL Q K n m (i + 1) r5.2 V6 from by subst hV6 hr5 hP4 hP1; rw [vrlL]; (try dsimp only); rw [if_pos hc0, if_neg hc2, if_neg hc11]]; exact vrlL_G _ _ _ _ _ _ _ hGV6
    · rw [show vrlL Q K n (m + 1) i P V = vrlT P V Q K n from by rw [vrlL]; (try dsimp only); rw [if_neg hc0]]; exact vrlT_G hG _ _ _ _

theorem vrl_G {V : zV} (hG : zVG V) (P Q : zFn) (K : zKn) : zVG (vrl P V Q K).2.2 := by
  by_cases hc0 : vko Q K (P 0 0) = 2
  · obtain ⟨P1, hP1⟩ : ∃ z_, vnn1 P Q (vc V 0) = z_ := ⟨_, rfl⟩
    obtain ⟨V2, hV2⟩ : ∃ z_, vaddL V = z_ := ⟨_, rfl⟩
    have hGV2 : zVG V2 := by rw [← hV2]; exact vaddL_G hG
    obtain ⟨n1, hn1⟩ : ∃ z_, (min (vc V 0) 5) = z_ := ⟨_, rfl⟩
    by_cases hc5 : vko Q K (P1 0 0) = 7
    · obtain ⟨P3, hP3⟩ : ∃ z_, vat P1 = z_ := ⟨_, rfl⟩
      obtain ⟨r4, hr4⟩ : ∃ z_, vrs P3 Q K = z_ := ⟨_, rfl⟩
      by_cases hc8 : r4.1 = 0
      · rw [show vrl P V Q K = (0, r4.2, V2) from by subst hr4 hP3 hn1 hV2 hP1; unfold vrl; (try dsimp only); rw [if_pos hc0, if_pos hc5, if_pos hc8]]; exact hGV2
      · obtain ⟨V5, hV5⟩ : ∃ z_, vasp V2 n1 (r4.2 0 4) (r4.2 0 5) = z_ := ⟨_, rfl⟩
        have hGV5 : zVG V5 := by rw [← hV5]; exact vasp_G hGV2 _ _ _
        rw [show vrl P V Q K = vrlL Q K n1 399 1 r4.2 V5 from by subst hV5 hr4 hP3 hn1 hV2 hP1; unfold vrl; (try dsimp only); rw [if_pos hc0, if_pos hc5, if_neg hc8]]; exact vrlL_G _ _ _ _ _ _ _ hGV5
    · rw [show vrl P V Q K = (0, P1, V2) from by subst hn1 hV2 hP1; unfold vrl; (try dsimp only); rw [if_pos hc0, if_neg hc5]]; exact hGV2
  · rw [show vrl P V Q K = (0, P, V) from by unfold vrl; (try dsimp only); rw [if_neg hc0]]; exact hG

def vrp (P : zFn) (V : zV) (Q : zFn) (K : zKn) : Int32 × zFn × zV :=
  if vko Q K (P 0 0) = 2 then
    let P1 := vnn2 P Q (vc V 1)
    let V2 := vaddP V
    let n1 := (min (vc V 1) 19)
    if vko Q K (P1 0 0) = 11 then
      let P3 := vat P1
      if vko Q K (P3 0 0) = 2 then
        let P4 := von1 P3 Q (vc V2 0)
        let V5 := zvu V2 2 n1 1 ((P4 0 3))
        if vko Q K (P4 0 0) = 12 then
          let P6 := vat P4
          if vko Q K (P6 0 0) = 2 then
            let P7 := von1 P6 Q (vc V5 0)
            let V8 := zvu V5 2 n1 2 ((P7 0 3))
            let r9 := vro P7 Q K 9 1 20 8
            if r9.1 = 0 then
              (0, r9.2, V8)
            else
              let V10 := zvu V8 2 n1 3 ((r9.2 0 3))
              let r11 := vro r9.2 Q K 13 0 20 3
              if r11.1 = 0 then
                (0, r11.2, V10)
              else
                let V12 := zvu V10 2 n1 4 ((r11.2 0 3))
                (1, r11.2, V12)
          else
            (0, P6, V5)
        else
          let V13 := zvu V5 2 n1 2 ((P4 0 3))
          let r14 := vro P4 Q K 9 1 20 8
          if r14.1 = 0 then
            (0, r14.2, V13)
          else
            let V15 := zvu V13 2 n1 3 ((r14.2 0 3))
            let r16 := vro r14.2 Q K 13 0 20 3
            if r16.1 = 0 then
              (0, r16.2, V15)
            else
              let V17 := zvu V15 2 n1 4 ((r16.2 0 3))
              (1, r16.2, V17)
      else
        (0, P3, V2)
    else
      (0, P1, V2)
  else
    (0, P, V)

theorem c_rp {d : Nat} {r w : Nat} {P Q J : zFn} {V : zV} {K : zKn} {μ : zM} (hC : zRC μ r w J Q K) (hG : zVG V) : zden zcds (d + 7) 35 [.ref (r + 0), .ref (w)] (zwi μ (zpc (zrl J r P) w V)) = some (0, some (.int ((vrp P V Q K).1)), 0, 0, zwi μ (zpc (zrl J r ((vrp P V Q K).2.1)) w ((vrp P V Q K).2.2))) := by
  refine (zd_in (d := d + 6) (cd := zc35) (nL := 3) (L := [(0, .ref (r + 0)), (1, .ref (w))]) rfl (Nat.le_of_ble_eq_true rfl) rfl).trans ?_
  refine (ys4 1 (v := .ref (r + 0)) rfl rfl rfl rfl).trans ?_
  refine (ys4 2 (v := .ref (r + 0)) rfl rfl rfl rfl).trans ?_
  refine (ygr 5 rfl (zFS.tag hC.1.1 (j := 0) (by decide) rfl) rfl hC.1.2.2.2.1).trans ?_
  refine (ys4 6 (v := .ref (w)) rfl rfl rfl rfl).trans ?_
  refine (yg 9 rfl (zWS.tag hC.2.1 (o := 0) (by decide) rfl) (zWS.ni hC.2.1 (o := 0) (by decide) rfl) (by decide) rfl (Eq.trans (zpc_at (o := 0) (q := 0) (i := 0) rfl (by decide)) (show (V 0 0 1) = (nI (vc V 1)) from hG.1.2.1.1))).trans ?_
  by_cases h9 : vko Q K (P 0 0) = 2
  · refine (yc3 12 rfl rfl (Nat.le_of_ble_eq_true rfl) (Or.inr (by show ztg (zwi _ _) _ = _; rw [ztg_wi]; exact (zFS.tag hC.1.1 (j := 0) (by decide) rfl))) rfl rfl (c_nn12 hC hG.1.2.1.2 h9)).trans ?_
    generalize hP1 : vnn2 P Q (vc V 1) = P1
    refine ys17_1 15 rfl rfl (fun h12 => absurd h12 (by decide)) (fun h12 => ?_)
    refine (ys4 18 (v := .ref (w)) rfl rfl rfl rfl).trans ?_
    refine (yc1 21 rfl rfl (Nat.le_of_ble_eq_true rfl) (Or.inr (by show ztg (zwi _ _) _ = _; rw [ztg_wi]; exact (zWS.tag hC.2.1 (o := 0) (by decide) rfl))) rfl rfl (c_addPn hC.2.1 hG)).trans ?_
    generalize hV2 : vaddP V = V2
    have hGV2 : zVG V2 := by rw [← hV2]; exact vaddP_G hG
    generalize hn1 : (min (vc V 1) 19) = n1
    have hn1b : n1 < 20 := by rw [← hn1]; exact (by omega)
    refine (ys5 22 (L2 := [(2, .ref (w + (23 + n1))), (0, .ref (r + 0)), (1, .ref (w))]) rfl rfl rfl rfl).trans ?_
    refine (ys4 23 (v := .ref (r + 0)) rfl rfl rfl rfl).trans ?_
    refine (ys25 26 rfl (v := .ref (11)) rfl rfl).trans ?_
    by_cases h26 : vko Q K (P1 0 0) = 11
    · refine (yc2 29 rfl rfl (Nat.le_of_ble_eq_true rfl) (Or.inr (by show ztg (zwi _ _) _ = _; rw [ztg_wi]; exact (zFS.tag hC.1.1 (j := 0) (by decide) rfl))) rfl rfl (c_ac1 hC (by decide) h26)).trans ?_
      generalize hP3 : vat P1 = P3
      refine ys17_0 32 rfl rfl (fun h29 => absurd h29 (by decide)) (fun h29 => ?_)
      refine (ys4 33 (v := .ref (r + 0)) rfl rfl rfl rfl).trans ?_
      refine (ys4 34 (v := .ref (r + 0)) rfl rfl rfl rfl).trans ?_
      refine (ygr 37 rfl (zFS.tag hC.1.1 (j := 0) (by decide) rfl) rfl hC.1.2.2.1).trans ?_
      refine (ys4 38 (v := .ref (w)) rfl rfl rfl rfl).trans ?_
      refine (yg 41 rfl (zWS.tag hC.2.1 (o := 0) (by decide) rfl) (zWS.ni hC.2.1 (o := 0) (by decide) rfl) (by decide) rfl (Eq.trans (zpc_at (o := 0) (q := 0) (i := 0) rfl (by decide)) (show (V2 0 0 0) = (nI (vc V2 0)) from hGV2.1.1.1))).trans ?_
      by_cases h41 : vko Q K (P3 0 0) = 2
      · refine (yc3 44 rfl rfl (Nat.le_of_ble_eq_true rfl) (Or.inr (by show ztg (zwi _ _) _ = _; rw [ztg_wi]; exact (zFS.tag hC.1.1 (j := 0) (by decide) rfl))) rfl rfl (c_on11 hC hGV2.1.1.2 h41)).trans ?_
        generalize hP4 : von1 P3 Q (vc V2 0) = P4
        refine ys17_1 47 rfl rfl (fun h44 => absurd h44 (by decide)) (fun h44 => ?_)
        refine (ys4 50 (v := .ref (w + (23 + n1))) rfl rfl rfl rfl).trans ?_
        refine (ys4 51 (v := .ref (r + 0)) rfl rfl rfl rfl).trans ?_
        refine (yg 54 rfl (zFS.tag hC.1.1 (j := 0) (by decide) rfl) (zFS.ni hC.1.1 (j := 0) (by decide) rfl) (by decide) rfl (zrw_at (o := 0) (j := 0) (by decide) hC.2.2.1)).trans ?_
        refine (yq 57 rfl (zWS.tag hC.2.1 (o := 23 + n1) (zwT_2 _ hn1b).2.2 (zwT_2 _ hn1b).1) (zWS.k0 hC.2.1 (o := 23 + n1)) (zWS.ni hC.2.1 (o := 23 + n1) (zwT_2 _ hn1b).2.2 (zwT_2 _ hn1b).2.1) (by decide) rfl (zpc_up (o := 23 + n1) (zpk_2 _ hn1b) (zwT_2 _ hn1b).2.2)).trans ?_
        generalize hV5 : zvu V2 2 n1 1 ((P4 0 3)) = V5
        have hGV5 : zVG V5 := by rw [← hV5]; exact zVG_u hGV2 (by decide) (by decide)
        refine (ys4 58 (v := .ref (r + 0)) rfl rfl rfl rfl).trans ?_
        refine (ys25 61 rfl (v := .ref (12)) rfl rfl).trans ?_
        by_cases h61 : vko Q K (P4 0 0) = 12
        · refine (yc2 64 rfl rfl (Nat.le_of_ble_eq_true rfl) (Or.inr (by show ztg (zwi _ _) _ = _; rw [ztg_wi]; exact (zFS.tag hC.1.1 (j := 0) (by decide) rfl))) rfl rfl (c_ac1 hC (by decide) h61)).trans ?_
          generalize hP6 : vat P4 = P6
          refine ys17_0 67 rfl rfl (fun h64 => absurd h64 (by decide)) (fun h64 => ?_)
          refine (ys4 68 (v := .ref (r + 0)) rfl rfl rfl rfl).trans ?_
          refine (ys4 69 (v := .ref (r + 0)) rfl rfl rfl rfl).trans ?_
          refine (ygr 72 rfl (zFS.tag hC.1.1 (j := 0) (by decide) rfl) rfl hC.1.2.2.1).trans ?_
          refine (ys4 73 (v := .ref (w)) rfl rfl rfl rfl).trans ?_
          refine (yg 76 rfl (zWS.tag hC.2.1 (o := 0) (by decide) rfl) (zWS.ni hC.2.1 (o := 0) (by decide) rfl) (by decide) rfl (Eq.trans (zpc_at (o := 0) (q := 0) (i := 0) rfl (by decide)) (show (V5 0 0 0) = (nI (vc V5 0)) from hGV5.1.1.1))).trans ?_
          by_cases h76 : vko Q K (P6 0 0) = 2
          · refine (yc3 79 rfl rfl (Nat.le_of_ble_eq_true rfl) (Or.inr (by show ztg (zwi _ _) _ = _; rw [ztg_wi]; exact (zFS.tag hC.1.1 (j := 0) (by decide) rfl))) rfl rfl (c_on11 hC hGV5.1.1.2 h76)).trans ?_
            generalize hP7 : von1 P6 Q (vc V5 0) = P7
            refine ys17_1 82 rfl rfl (fun h79 => absurd h79 (by decide)) (fun h79 => ?_)
            refine (ys4 85 (v := .ref (w + (23 + n1))) rfl rfl rfl rfl).trans ?_
            refine (ys4 86 (v := .ref (r + 0)) rfl rfl rfl rfl).trans ?_
            refine (yg 89 rfl (zFS.tag hC.1.1 (j := 0) (by decide) rfl) (zFS.ni hC.1.1 (j := 0) (by decide) rfl) (by decide) rfl (zrw_at (o := 0) (j := 0) (by decide) hC.2.2.1)).trans ?_
            refine (yq 92 rfl (zWS.tag hC.2.1 (o := 23 + n1) (zwT_2 _ hn1b).2.2 (zwT_2 _ hn1b).1) (zWS.k0 hC.2.1 (o := 23 + n1)) (zWS.ni hC.2.1 (o := 23 + n1) (zwT_2 _ hn1b).2.2 (zwT_2 _ hn1b).2.1) (by decide) rfl (zpc_up (o := 23 + n1) (zpk_2 _ hn1b) (zwT_2 _ hn1b).2.2)).trans ?_
            generalize hV8 : zvu V5 2 n1 2 ((P7 0 3)) = V8
            have hGV8 : zVG V8 := by rw [← hV8]; exact zVG_u hGV5 (by decide) (by decide)
            refine (ys4 93 (v := .ref (r + 0)) rfl rfl rfl rfl).trans ?_
            refine (ys25 96 rfl (v := .ref (9)) rfl rfl).trans ?_
            refine (ys1 97 (x := 1) rfl rfl rfl).trans ?_
            refine (ys1 99 (x := 20) rfl rfl rfl).trans ?_
            refine (ys1 101 (x := 8) rfl rfl rfl).trans ?_
            refine (yc5 104 rfl rfl (Nat.le_of_ble_eq_true rfl) (Or.inr (by show ztg (zwi _ _) _ = _; rw [ztg_wi]; exact (zFS.tag hC.1.1 (j := 0) (by decide) rfl))) rfl rfl (c_ro hC (by decide))).trans ?_
            generalize hr9 : vro P7 Q K 9 1 20 8 = r9
            refine ys17_1 107 rfl rfl (fun h104 => ?_) (fun h104 => ?_)
            · refine (ys1 108 (x := 0) rfl rfl rfl).trans ?_
              refine (ys36 rfl (by decide)).trans ?_
              rw [show vrp P V Q K = (0, r9.2, V8) from by subst hr9 hV8 hP7 hP6 hV5 hP4 hP3 hn1 hV2 hP1; unfold vrp; (try dsimp only); rw [if_pos h9, if_pos h26, if_pos h41, if_pos h61, if_pos h76, if_pos h104]]; (first | done | rfl)
            · refine (ys4 110 (v := .ref (w + (23 + n1))) rfl rfl rfl rfl).trans ?_
              refine (ys4 111 (v := .ref (r + 0)) rfl rfl rfl rfl).trans ?_
              refine (yg 114 rfl (zFS.tag hC.1.1 (j := 0) (by decide) rfl) (zFS.ni hC.1.1 (j := 0) (by decide) rfl) (by decide) rfl (zrw_at (o := 0) (j := 0) (by decide) hC.2.2.1)).trans ?_
              refine (yq 117 rfl (zWS.tag hC.2.1 (o := 23 + n1) (zwT_2 _ hn1b).2.2 (zwT_2 _ hn1b).1) (zWS.k0 hC.2.1 (o := 23 + n1)) (zWS.ni hC.2.1 (o := 23 + n1) (zwT_2 _ hn1b).2.2 (zwT_2 _ hn1b).2.1) (by decide) rfl (zpc_up (o := 23 + n1) (zpk_2 _ hn1b) (zwT_2 _ hn1b).2.2)).trans ?_
              generalize hV10 : zvu V8 2 n1 3 ((r9.2 0 3)) = V10
              have hGV10 : zVG V10 := by rw [← hV10]; exact zVG_u hGV8 (by decide) (by decide)
              refine (ys4 118 (v := .ref (r + 0)) rfl rfl rfl rfl).trans ?_
              refine (ys25 121 rfl (v := .ref (13)) rfl rfl).trans ?_
              refine (ys1 122 (x := 0) rfl rfl rfl).trans ?_
              refine (ys1 124 (x := 20) rfl rfl rfl).trans ?_
              refine (ys1 125 (x := 3) rfl rfl rfl).trans ?_
              refine (yc5 128 rfl rfl (Nat.le_of_ble_eq_true rfl) (Or.inr (by show ztg (zwi _ _) _ = _; rw [ztg_wi]; exact (zFS.tag hC.1.1 (j := 0) (by decide) rfl))) rfl rfl (c_ro hC (by decide))).trans ?_
              generalize hr11 : vro r9.2 Q K 13 0 20 3 = r11
              refine ys17_1 131 rfl rfl (fun h128 => ?_) (fun h128 => ?_)
              · refine (ys1 132 (x := 0) rfl rfl rfl).trans ?_
                refine (ys36 rfl (by decide)).trans ?_
                rw [show vrp P V Q K = (0, r11.2, V10) from by subst hr11 hV10 hr9 hV8 hP7 hP6 hV5 hP4 hP3 hn1 hV2 hP1; unfold vrp; (try dsimp only); rw [if_pos h9, if_pos h26, if_pos h41, if_pos h61, if_pos h76, if_neg h104, if_pos h128]]; (first | done | rfl)
              · refine (ys4 134 (v := .ref (w + (23 + n1))) rfl rfl rfl rfl).trans ?_
                refine (ys4 135 (v := .ref (r + 0)) rfl rfl rfl rfl).trans ?_
                refine (yg 138 rfl (zFS.tag hC.1.1 (j := 0) (by decide) rfl) (zFS.ni hC.1.1 (j := 0) (by decide) rfl) (by decide) rfl (zrw_at (o := 0) (j := 0) (by decide) hC.2.2.1)).trans ?_
                refine (yq 141 rfl (zWS.tag hC.2.1 (o := 23 + n1) (zwT_2 _ hn1b).2.2 (zwT_2 _ hn1b).1) (zWS.k0 hC.2.1 (o := 23 + n1)) (zWS.ni hC.2.1 (o := 23 + n1) (zwT_2 _ hn1b).2.2 (zwT_2 _ hn1b).2.1) (by decide) rfl (zpc_up (o := 23 + n1) (zpk_2 _ hn1b) (zwT_2 _ hn1b).2.2)).trans ?_
                generalize hV12 : zvu V10 2 n1 4 ((r11.2 0 3)) = V12
                have hGV12 : zVG V12 := by rw [← hV12]; exact zVG_u hGV10 (by decide) (by decide)
                refine (ys1 142 (x := 1) rfl rfl rfl).trans ?_
                refine (ys36 rfl (by decide)).trans ?_
                rw [show vrp P V Q K = (1, r11.2, V12) from by subst hV12 hr11 hV10 hr9 hV8 hP7 hP6 hV5 hP4 hP3 hn1 hV2 hP1; unfold vrp; (try dsimp only); rw [if_pos h9, if_pos h26, if_pos h41, if_pos h61, if_pos h76, if_neg h104, if_neg h128]]; (first | done | rfl)
          · refine (yc3 79 rfl rfl (Nat.le_of_ble_eq_true rfl) (Or.inr (by show ztg (zwi _ _) _ = _; rw [ztg_wi]; exact (zFS.tag hC.1.1 (j := 0) (by decide) rfl))) rfl rfl (c_on01 hC hGV5.1.1.2 h76)).trans ?_
            refine ys17_1 82 rfl rfl (fun h79 => ?_) (fun h79 => absurd (by decide) h79)
            refine (ys1 83 (x := 0) rfl rfl rfl).trans ?_
            refine (ys36 rfl (by decide)).trans ?_
            rw [show vrp P V Q K = (0, P6, V5) from by subst hP6 hV5 hP4 hP3 hn1 hV2 hP1; unfold vrp; (try dsimp only); rw [if_pos h9, if_pos h26, if_pos h41, if_pos h61, if_neg h76]]; (first | done | rfl)
        · refine (yc2 64 rfl rfl (Nat.le_of_ble_eq_true rfl) (Or.inr (by show ztg (zwi _ _) _ = _; rw [ztg_wi]; exact (zFS.tag hC.1.1 (j := 0) (by decide) rfl))) rfl rfl (c_ac0 hC (by decide) h61)).trans ?_
          refine ys17_0 67 rfl rfl (fun h64 => ?_) (fun h64 => absurd (by decide) h64)
          refine (ys4 85 (v := .ref (w + (23 + n1))) rfl rfl rfl rfl).trans ?_
          refine (ys4 86 (v := .ref (r + 0)) rfl rfl rfl rfl).trans ?_
          refine (yg 89 rfl (zFS.tag hC.1.1 (j := 0) (by decide) rfl) (zFS.ni hC.1.1 (j := 0) (by decide) rfl) (by decide) rfl (zrw_at (o := 0) (j := 0) (by decide) hC.2.2.1)).trans ?_
          refine (yq 92 rfl (zWS.tag hC.2.1 (o := 23 + n1) (zwT_2 _ hn1b).2.2 (zwT_2 _ hn1b).1) (zWS.k0 hC.2.1 (o := 23 + n1)) (zWS.ni hC.2.1 (o := 23 + n1) (zwT_2 _ hn1b).2.2 (zwT_2 _ hn1b).2.1) (by decide) rfl (zpc_up (o := 23 + n1) (zpk_2 _ hn1b) (zwT_2 _ hn1b).2.2)).trans ?_
          generalize hV13 : zvu V5 2 n1 2 ((P4 0 3)) = V13
          have hGV13 : zVG V13 := by rw [← hV13]; exact zVG_u hGV5 (by decide) (by decide)
          refine (ys4 93 (v := .ref (r + 0)) rfl rfl rfl rfl).trans ?_
          refine (ys25 96 rfl (v := .ref (9)) rfl rfl).trans ?_
          refine (ys1 97 (x := 1) rfl rfl rfl).trans ?_
          refine (ys1 99 (x := 20) rfl rfl rfl).trans ?_
          refine (ys1 101 (x := 8) rfl rfl rfl).trans ?_
          refine (yc5 104 rfl rfl (Nat.le_of_ble_eq_true rfl) (Or.inr (by show ztg (zwi _ _) _ = _; rw [ztg_wi]; exact (zFS.tag hC.1.1 (j := 0) (by decide) rfl))) rfl rfl (c_ro hC (by decide))).trans ?_
          generalize hr14 : vro P4 Q K 9 1 20 8 = r14
          refine ys17_1 107 rfl rfl (fun h104 => ?_) (fun h104 => ?_)
          · refine (ys1 108 (x := 0) rfl rfl rfl).trans ?_
            refine (ys36 rfl (by decide)).trans ?_
            rw [show vrp P V Q K = (0, r14.2, V13) from by subst hr14 hV13 hV5 hP4 hP3 hn1 hV2 hP1; unfold vrp; (try dsimp only); rw [if_pos h9, if_pos h26, if_pos h41, if_neg h61, if_pos h104]]; (first | done | rfl)
          · refine (ys4 110 (v := .ref (w + (23 + n1))) rfl rfl rfl rfl).trans ?_
            refine (ys4 111 (v := .ref (r + 0)) rfl rfl rfl rfl).trans ?_
            refine (yg 114 rfl (zFS.tag hC.1.1 (j := 0) (by decide) rfl) (zFS.ni hC.1.1 (j := 0) (by decide) rfl) (by decide) rfl (zrw_at (o := 0) (j := 0) (by decide) hC.2.2.1)).trans ?_
            refine (yq 117 rfl (zWS.tag hC.2.1 (o := 23 + n1) (zwT_2 _ hn1b).2.2 (zwT_2 _ hn1b).1) (zWS.k0 hC.2.1 (o := 23 + n1)) (zWS.ni hC.2.1 (o := 23 + n1) (zwT_2 _ hn1b).2.2 (zwT_2 _ hn1b).2.1) (by decide) rfl (zpc_up (o := 23 + n1) (zpk_2 _ hn1b) (zwT_2 _ hn1b).2.2)).trans ?_
            generalize hV15 : zvu V13 2 n1 3 ((r14.2 0 3)) = V15
            have hGV15 : zVG V15 := by rw [← hV15]; exact zVG_u hGV13 (by decide) (by decide)
            refine (ys4 118 (v := .ref (r + 0)) rfl rfl rfl rfl).trans ?_
            refine (ys25 121 rfl (v := .ref (13)) rfl rfl).trans ?_
            refine (ys1 122 (x := 0) rfl rfl rfl).trans ?_
            refine (ys1 124 (x := 20) rfl rfl rfl).trans ?_
            refine (ys1 125 (x := 3) rfl rfl rfl).trans ?_
            refine (yc5 128 rfl rfl (Nat.le_of_ble_eq_true rfl) (Or.inr (by show ztg (zwi _ _) _ = _; rw [ztg_wi]; exact (zFS.tag hC.1.1 (j := 0) (by decide) rfl))) rfl rfl (c_ro hC (by decide))).trans ?_
            generalize hr16 : vro r14.2 Q K 13 0 20 3 = r16
            refine ys17_1 131 rfl rfl (fun h128 => ?_) (fun h128 => ?_)
            · refine (ys1 132 (x := 0) rfl rfl rfl).trans ?_
              refine (ys36 rfl (by decide)).trans ?_
              rw [show vrp P V Q K = (0, r16.2, V15) from by subst hr16 hV15 hr14 hV13 hV5 hP4 hP3 hn1 hV2 hP1; unfold vrp; (try dsimp only); rw [if_pos h9, if_pos h26, if_pos h41, if_neg h61, if_neg h104, if_pos h128]]; (first | done | rfl)
            · refine (ys4 134 (v := .ref (w + (23 + n1))) rfl rfl rfl rfl).trans ?_
              refine (ys4 135 (v := .ref (r + 0)) rfl rfl rfl rfl).trans ?_
              refine (yg 138 rfl (zFS.tag hC.1.1 (j := 0) (by decide) rfl) (zFS.ni hC.1.1 (j := 0) (by decide) rfl) (by decide) rfl (zrw_at (o := 0) (j := 0) (by decide) hC.2.2.1)).trans ?_
              refine (yq 141 rfl (zWS.tag hC.2.1 (o := 23 + n1) (zwT_2 _ hn1b).2.2 (zwT_2 _ hn1b).1) (zWS.k0 hC.2.1 (o := 23 + n1)) (zWS.ni hC.2.1 (o := 23 + n1) (zwT_2 _ hn1b).2.2 (zwT_2 _ hn1b).2.1) (by decide) rfl (zpc_up (o := 23 + n1) (zpk_2 _ hn1b) (zwT_2 _ hn1b).2.2)).trans ?_
              generalize hV17 : zvu V15 2 n1 4 ((r16.2 0 3)) = V17
              have hGV17 : zVG V17 := by rw [← hV17]; exact zVG_u hGV15 (by decide) (by decide)
              refine (ys1 142 (x := 1) rfl rfl rfl).trans ?_
              refine (ys36 rfl (by decide)).trans ?_
              rw [show vrp P V Q K = (1, r16.2, V17) from by subst hV17 hr16 hV15 hr14 hV13 hV5 hP4 hP3 hn1 hV2 hP1; unfold vrp; (try dsimp only); rw [if_pos h9, if_pos h26, if_pos h41, if_neg h61, if_neg h104, if_neg h128]]; (first | done | rfl)
      · refine (yc3 44 rfl rfl (Nat.le_of_ble_eq_true rfl) (Or.inr (by show ztg (zwi _ _) _ = _; rw [ztg_wi]; exact (zFS.tag hC.1.1 (j := 0) (by decide) rfl))) rfl rfl (c_on01 hC hGV2.1.1.2 h41)).trans ?_
        refine ys17_1 47 rfl rfl (fun h44 => ?_) (fun h44 => absurd (by decide) h44)
        refine (ys1 48 (x := 0) rfl rfl rfl).trans ?_
        refine (ys36 rfl (by decide)).trans ?_
        rw [show vrp P V Q K = (0, P3, V2) from by subst hP3 hn1 hV2 hP1; unfold vrp; (try dsimp only); rw [if_pos h9, if_pos h26, if_neg h41]]; (first | done | rfl)
    · refine (yc2 29 rfl rfl (Nat.le_of_ble_eq_true rfl) (Or.inr (by show ztg (zwi _ _) _ = _; rw [ztg_wi]; exact (zFS.tag hC.1.1 (j := 0) (by decide) rfl))) rfl rfl (c_ac0 hC (by decide) h26)).trans ?_
      refine ys17_0 32 rfl rfl (fun h29 => ?_) (fun h29 => absurd (by decide) h29)
      refine (ys1 48 (x := 0) rfl rfl rfl).trans ?_
      refine (ys36 rfl (by decide)).trans ?_
      rw [show vrp P V Q K = (0, P1, V2) from by subst hn1 hV2 hP1; unfold vrp; (try dsimp only); rw [if_pos h9, if_neg h26]]; (first | done | rfl)
  · refine (yc3 12 rfl rfl (Nat.le_of_ble_eq_true rfl) (Or.inr (by show ztg (zwi _ _) _ = _; rw [ztg_wi]; exact (zFS.tag hC.1.1 (j := 0) (by decide) rfl))) rfl rfl (c_nn02 hC hG.1.2.1.2 h9)).trans ?_
    refine ys17_1 15 rfl rfl (fun h12 => ?_) (fun h12 => absurd (by decide) h12)
    refine (ys1 16 (x := 0) rfl rfl rfl).trans ?_
    refine (ys36 rfl (by decide)).trans ?_
    rw [show vrp P V Q K = (0, P, V) from by unfold vrp; (try dsimp only); rw [if_neg h9]]; (first | done | rfl)

def vrh (P : zFn) (V : zV) (Q : zFn) (K : zKn) : Int32 × zFn × zV :=
  if (V 0 0 2) < 6 then
    let V1 := vaddH V
    let n1 := (min (vc V 2) 5)
    if vko Q K (P 0 0) = 7 then
      let P2 := vat P
      let r3 := vrs P2 Q K
      if r3.1 = 0 then
        (0, r3.2, V1)
      else
        let V4 := zvu V1 3 n1 0 ((r3.2 0 4))
        let V5 := zvu V4 3 n1 1 ((r3.2 0 5))
        if vko Q K (r3.2 0 0) = 15 then
          let P6 := vat r3.2
          if vko Q K (P6 0 0) = 3 then
            let P7 := vrn P6 Q 0 20
            let V8 := zvu V5 3 n1 2 ((P7 0 3))
            let r9 := vro P7 Q K 16 1 24 4
            if r9.1 = 0 then
              (0, r9.2, V8)
            else
              let V10 := zvu V8 3 n1 3 ((r9.2 0 3))
              (1, r9.2, V10)
          else
            (0, P6, V5)
        else
          (0, r3.2, V5)
    else
      (0, P, V1)
  else
    let P11 := vte P Q 4
    let V12 := vaddH V
    let n1 := (min (vc V 2) 5)
    if vko Q K (P11 0 0) = 7 then
      let P13 := vat P11
      let r14 := vrs P13 Q K
      if r14.1 = 0 then
        (0, r14.2, V12)
      else
        let V15 := zvu V12 3 n1 0 ((r14.2 0 4))
        let V16 := zvu V15 3 n1 1 ((r14.2 0 5))
        if vko Q K (r14.2 0 0) = 15 then
          let P17 := vat r14.2
          if vko Q K (P17 0 0) = 3 then
            let P18 := vrn P17 Q 0 20
            let V19 := zvu V16 3 n1 2 ((P18 0 3))
            let r20 := vro P18 Q K 16 1 24 4
            if r20.1 = 0 then
              (0, r20.2, V19)
            else
              let V21 := zvu V19 3 n1 3 ((r20.2 0 3))
              (1, r20.2, V21)
          else
            (0, P17, V16)
        else
          (0, r14.2, V16)
    else
      (0, P11, V12)

theorem c_rh {d : Nat} {r w : Nat} {P Q J : zFn} {V : zV} {K : zKn} {μ : zM} (hC : zRC μ r w J Q K) (hG : zVG V) : zden zcds (d + 7) 36 [.ref (r + 0), .ref (w)] (zwi μ (zpc (zrl J r P) w V)) = some (0, some (.int ((vrh P V Q K).1)), 0, 0, zwi μ (zpc (zrl J r ((vrh P V Q K).2.1)) w ((vrh P V Q K).2.2))) := by
  refine (zd_in (d := d + 6) (cd := zc36) (nL := 3) (L := [(0, .ref (r + 0)), (1, .ref (w))]) rfl (Nat.le_of_ble_eq_true rfl) rfl).trans ?_
  refine (ys4 1 (v := .ref (w)) rfl rfl rfl rfl).trans ?_
  refine (yg 4 rfl (zWS.tag hC.2.1 (o := 0) (by decide) rfl) (zWS.ni hC.2.1 (o := 0) (by decide) rfl) (by decide) rfl (zpc_at (o := 0) (q := 0) (i := 0) rfl (by decide))).trans ?_
  refine (ys1 6 (x := 6) rfl rfl rfl).trans ?_
  refine ys18_2 9 rfl rfl (fun h6 => ?_) (fun h6 => ?_)
  · refine (ys4 15 (v := .ref (w)) rfl rfl rfl rfl).trans ?_
    refine (yc1 18 rfl rfl (Nat.le_of_ble_eq_true rfl) (Or.inr (by show ztg (zwi _ _) _ = _; rw [ztg_wi]; exact (zWS.tag hC.2.1 (o := 0) (by decide) rfl))) rfl rfl (c_addHn hC.2.1 hG)).trans ?_
    generalize hV1 : vaddH V = V1
    have hGV1 : zVG V1 := by rw [← hV1]; exact vaddH_G hG
    generalize hn1 : (min (vc V 2) 5) = n1
    have hn1b : n1 < 6 := by rw [← hn1]; exact (by omega)
    refine (ys5 19 (L2 := [(2, .ref (w + (43 + n1))), (0, .ref (r + 0)), (1, .ref (w))]) rfl rfl rfl rfl).trans ?_
    refine (ys4 20 (v := .ref (r + 0)) rfl rfl rfl rfl).trans ?_
    refine (ys25 23 rfl (v := .ref (7)) rfl rfl).trans ?_
    by_cases h23 : vko Q K (P 0 0) = 7
    · refine (yc2 26 rfl rfl (Nat.le_of_ble_eq_true rfl) (Or.inr (by show ztg (zwi _ _) _ = _; rw [ztg_wi]; exact (zFS.tag hC.1.1 (j := 0) (by decide) rfl))) rfl rfl (c_ac1 hC (by decide) h23)).trans ?_
      generalize hP2 : vat P = P2
      refine ys17_0 29 rfl rfl (fun h26 => absurd h26 (by decide)) (fun h26 => ?_)
      refine (ys4 30 (v := .ref (r + 0)) rfl rfl rfl rfl).trans ?_
      refine (yc1 33 rfl rfl (Nat.le_of_ble_eq_true rfl) (Or.inr (by show ztg (zwi _ _) _ = _; rw [ztg_wi]; exact (zFS.tag hC.1.1 (j := 0) (by decide) rfl))) rfl rfl (c_rs hC)).trans ?_
      generalize hr3 : vrs P2 Q K = r3
      refine ys17_1 36 rfl rfl (fun h33 => ?_) (fun h33 => ?_)
      · refine (ys1 37 (x := 0) rfl rfl rfl).trans ?_
        refine (ys36 rfl (by decide)).trans ?_
        rw [show vrh P V Q K = (0, r3.2, V1) from by subst hr3 hP2 hn1 hV1; unfold vrh; (try dsimp only); rw [if_pos h6, if_pos h23, if_pos h33]]; (first | done | rfl)
      · refine (ys4 39 (v := .ref (w + (43 + n1))) rfl rfl rfl rfl).trans ?_
        refine (ys4 40 (v := .ref (r + 0)) rfl rfl rfl rfl).trans ?_
        refine (yg 43 rfl (zFS.tag hC.1.1 (j := 0) (by decide) rfl) (zFS.ni hC.1.1 (j := 0) (by decide) rfl) (by decide) rfl (zrw_at (o := 0) (j := 0) (by decide) hC.2.2.1)).trans ?_
        refine (yq 46 rfl (zWS.tag hC.2.1 (o := 43 + n1) (zwT_3 _ hn1b).2.2 (zwT_3 _ hn1b).1) (zWS.k0 hC.2.1 (o := 43 + n1)) (zWS.ni hC.2.1 (o := 43 + n1) (zwT_3 _ hn1b).2.2 (zwT_3 _ hn1b).2.1) (by decide) rfl (zpc_up (o := 43 + n1) (zpk_3 _ hn1b) (zwT_3 _ hn1b).2.2)).trans ?_
        generalize hV4 : zvu V1 3 n1 0 ((r3.2 0 4)) = V4
        have hGV4 : zVG V4 := by rw [← hV4]; exact zVG_u hGV1 (by decide) (by decide)
        refine (ys4 47 (v := .ref (w + (43 + n1))) rfl rfl rfl rfl).trans ?_
        refine (ys4 48 (v := .ref (r + 0)) rfl rfl rfl rfl).trans ?_
        refine (yg 51 rfl (zFS.tag hC.1.1 (j := 0) (by decide) rfl) (zFS.ni hC.1.1 (j := 0) (by decide) rfl) (by decide) rfl (zrw_at (o := 0) (j := 0) (by decide) hC.2.2.1)).trans ?_
        refine (yq 54 rfl (zWS.tag hC.2.1 (o := 43 + n1) (zwT_3 _ hn1b).2.2 (zwT_3 _ hn1b).1) (zWS.k0 hC.2.1 (o := 43 + n1)) (zWS.ni hC.2.1 (o := 43 + n1) (zwT_3 _ hn1b).2.2 (zwT_3 _ hn1b).2.1) (by decide) rfl (zpc_up (o := 43 + n1) (zpk_3 _ hn1b) (zwT_3 _ hn1b).2.2)).trans ?_
        generalize hV5 : zvu V4 3 n1 1 ((r3.2 0 5)) = V5
        have hGV5 : zVG V5 := by rw [← hV5]; exact zVG_u hGV4 (by decide) (by decide)
        refine (ys4 55 (v := .ref (r + 0)) rfl rfl rfl rfl).trans ?_
        refine (ys25 58 rfl (v := .ref (15)) rfl rfl).trans ?_
        by_cases h58 : vko Q K (r3.2 0 0) = 15
        · refine (yc2 61 rfl rfl (Nat.le_of_ble_eq_true rfl) (Or.inr (by show ztg (zwi _ _) _ = _; rw [ztg_wi]; exact (zFS.tag hC.1.1 (j := 0) (by decide) rfl))) rfl rfl (c_ac1 hC (by decide) h58)).trans ?_
          generalize hP6 : vat r3.2 = P6
          refine ys17_0 64 rfl rfl (fun h61 => absurd h61 (by decide)) (fun h61 => ?_)
          refine (ys4 65 (v := .ref (r + 0)) rfl rfl rfl rfl).trans ?_
          refine (ys1 66 (x := 0) rfl rfl rfl).trans ?_
          refine (ys1 68 (x := 20) rfl rfl rfl).trans ?_
          by_cases h68 : vko Q K (P6 0 0) = 3
          · refine (yc3 71 rfl rfl (Nat.le_of_ble_eq_true rfl) (Or.inr (by show ztg (zwi _ _) _ = _; rw [ztg_wi]; exact (zFS.tag hC.1.1 (j := 0) (by decide) rfl))) rfl rfl (c_rn1 hC h68)).trans ?_
            generalize hP7 : vrn P6 Q 0 20 = P7
            refine ys17_1 74 rfl rfl (fun h71 => absurd h71 (by decide)) (fun h71 => ?_)
            refine (ys4 77 (v := .ref (w + (43 + n1))) rfl rfl rfl rfl).trans ?_
            refine (ys4 78 (v := .ref (r + 0)) rfl rfl rfl rfl).trans ?_
            refine (yg 81 rfl (zFS.tag hC.1.1 (j := 0) (by decide) rfl) (zFS.ni hC.1.1 (j := 0) (by decide) rfl) (by decide) rfl (zrw_at (o := 0) (j := 0) (by decide) hC.2.2.1)).trans ?_
            refine (yq 84 rfl (zWS.tag hC.2.1 (o := 43 + n1) (zwT_3 _ hn1b).2.2 (zwT_3 _ hn1b).1) (zWS.k0 hC.2.1 (o := 43 + n1)) (zWS.ni hC.2.1 (o := 43 + n1) (zwT_3 _ hn1b).2.2 (zwT_3 _ hn1b).2.1) (by decide) rfl (zpc_up (o := 43 + n1) (zpk_3 _ hn1b) (zwT_3 _ hn1b).2.2)).trans ?_
            generalize hV8 : zvu V5 3 n1 2 ((P7 0 3)) = V8
            have hGV8 : zVG V8 := by rw [← hV8]; exact zVG_u hGV5 (by decide) (by decide)
            refine (ys4 85 (v := .ref (r + 0)) rfl rfl rfl rfl).trans ?_
            refine (ys25 88 rfl (v := .ref (16)) rfl rfl).trans ?_
            refine (ys1 89 (x := 1) rfl rfl rfl).trans ?_
            refine (ys1 91 (x := 24) rfl rfl rfl).trans ?_
            refine (ys1 92 (x := 4) rfl rfl rfl).trans ?_
            refine (yc5 95 rfl rfl (Nat.le_of_ble_eq_true rfl) (Or.inr (by show ztg (zwi _ _) _ = _; rw [ztg_wi]; exact (zFS.tag hC.1.1 (j := 0) (by decide) rfl))) rfl rfl (c_ro hC (by decide))).trans ?_
            generalize hr9 : vro P7 Q K 16 1 24 4 = r9
            refine ys17_1 98 rfl rfl (fun h95 => ?_) (fun h95 => ?_)
            · refine (ys1 99 (x := 0) rfl rfl rfl).trans ?_
              refine (ys36 rfl (by decide)).trans ?_
              rw [show vrh P V Q K = (0, r9.2, V8) from by subst hr9 hV8 hP7 hP6 hV5 hV4 hr3 hP2 hn1 hV1; unfold vrh; (try dsimp only); rw [if_pos h6, if_pos h23, if_neg h33, if_pos h58, if_pos h68, if_pos h95]]; (first | done | rfl)
            · refine (ys4 101 (v := .ref (w + (43 + n1))) rfl rfl rfl rfl).trans ?_
              refine (ys4 102 (v := .ref (r + 0)) rfl rfl rfl rfl).trans ?_
              refine (yg 105 rfl (zFS.tag hC.1.1 (j := 0) (by decide) rfl) (zFS.ni hC.1.1 (j := 0) (by decide) rfl) (by decide) rfl (zrw_at (o := 0) (j := 0) (by decide) hC.2.2.1)).trans ?_
              refine (yq 108 rfl (zWS.tag hC.2.1 (o := 43 + n1) (zwT_3 _ hn1b).2.2 (zwT_3 _ hn1b).1) (zWS.k0 hC.2.1 (o := 43 + n1)) (zWS.ni hC.2.1 (o := 43 + n1) (zwT_3 _ hn1b).2.2 (zwT_3 _ hn1b).2.1) (by decide) rfl (zpc_up (o := 43 + n1) (zpk_3 _ hn1b) (zwT_3 _ hn1b).2.2)).trans ?_
              generalize hV10 : zvu V8 3 n1 3 ((r9.2 0 3)) = V10
              have hGV10 : zVG V10 := by rw [← hV10]; exact zVG_u hGV8 (by decide) (by decide)
              refine (ys1 109 (x := 1) rfl rfl rfl).trans ?_
              refine (ys36 rfl (by decide)).trans ?_
              rw [show vrh P V Q K = (1, r9.2, V10) from by subst hV10 hr9 hV8 hP7 hP6 hV5 hV4 hr3 hP2 hn1 hV1; unfold vrh; (try dsimp only); rw [if_pos h6, if_pos h23, if_neg h33, if_pos h58, if_pos h68, if_neg h95]]; (first | done | rfl)
          · refine (yc3 71 rfl rfl (Nat.le_of_ble_eq_true rfl) (Or.inr (by show ztg (zwi _ _) _ = _; rw [ztg_wi]; exact (zFS.tag hC.1.1 (j := 0) (by decide) rfl))) rfl rfl (c_rn0 hC h68)).trans ?_
            refine ys17_1 74 rfl rfl (fun h71 => ?_) (fun h71 => absurd (by decide) h71)
            refine (ys1 75 (x := 0) rfl rfl rfl).trans ?_
            refine (ys36 rfl (by decide)).trans ?_
            rw [show vrh P V Q K = (0, P6, V5) from by subst hP6 hV5 hV4 hr3 hP2 hn1 hV1; unfold vrh; (try dsimp only); rw [if_pos h6, if_pos h23, if_neg h33, if_pos h58, if_neg h68]]; (first | done | rfl)
        · refine (yc2 61 rfl rfl (Nat.le_of_ble_eq_true rfl) (Or.inr (by show ztg (zwi _ _) _ = _; rw [ztg_wi]; exact (zFS.tag hC.1.1 (j := 0) (by decide) rfl))) rfl rfl (c_ac0 hC (by decide) h58)).trans ?_
          refine ys17_0 64 rfl rfl (fun h61 => ?_) (fun h61 => absurd (by decide) h61)
          refine (ys1 75 (x := 0) rfl rfl rfl).trans ?_
          refine (ys36 rfl (by decide)).trans ?_
          rw [show vrh P V Q K = (0, r3.2, V5) from by subst hV5 hV4 hr3 hP2 hn1 hV1; unfold vrh; (try dsimp only); rw [if_pos h6, if_pos h23, if_neg h33, if_neg h58]]; (first | done | rfl)
    · refine (yc2 26 rfl rfl (Nat.le_of_ble_eq_true rfl) (Or.inr (by show ztg (zwi _ _) _ = _; rw [ztg_wi]; exact (zFS.tag hC.1.1 (j := 0) (by decide) rfl))) rfl rfl (c_ac0 hC (by decide) h23)).trans ?_
      refine ys17_0 29 rfl rfl (fun h26 => ?_) (fun h26 => absurd (by decide) h26)
      refine (ys1 37 (x := 0) rfl rfl rfl).trans ?_
      refine (ys36 rfl (by decide)).trans ?_
      rw [show vrh P V Q K = (0, P, V1) from by subst hn1 hV1; unfold vrh; (try dsimp only); rw [if_pos h6, if_neg h23]]; (first | done | rfl)
  · refine (ys4 10 (v := .ref (r + 0)) rfl rfl rfl rfl).trans ?_
    refine (ys1 11 (x := 4) rfl rfl rfl).trans ?_
    refine (yc2 14 rfl rfl (Nat.le_of_ble_eq_true rfl) (Or.inr (by show ztg (zwi _ _) _ = _; rw [ztg_wi]; exact (zFS.tag hC.1.1 (j := 0) (by decide) rfl))) rfl rfl (c_tell hC)).trans ?_
    generalize hP11 : vte P Q 4 = P11
    refine (ys4 15 (v := .ref (w)) rfl rfl rfl rfl).trans ?_
    refine (yc1 18 rfl rfl (Nat.le_of_ble_eq_true rfl) (Or.inr (by show ztg (zwi _ _) _ = _; rw [ztg_wi]; exact (zWS.tag hC.2.1 (o := 0) (by decide) rfl))) rfl rfl (c_addHn hC.2.1 hG)).trans ?_
    generalize hV12 : vaddH V = V12
    have hGV12 : zVG V12 := by rw [← hV12]; exact vaddH_G hG
    generalize hn1 : (min (vc V 2) 5) = n1
    have hn1b : n1 < 6 := by rw [← hn1]; exact (by omega)
    refine (ys5 19 (L2 := [(2, .ref (w + (43 + n1))), (0, .ref (r + 0)), (1, .ref (w))]) rfl rfl rfl rfl).trans ?_
    refine (ys4 20 (v := .ref (r + 0)) rfl rfl rfl rfl).trans ?_
    refine (ys25 23 rfl (v := .ref (7)) rfl rfl).trans ?_
    by_cases h23 : vko Q K (P11 0 0) = 7
    · refine (yc2 26 rfl rfl (Nat.le_of_ble_eq_true rfl) (Or.inr (by show ztg (zwi _ _) _ = _; rw [ztg_wi]; exact (zFS.tag hC.1.1 (j := 0) (by decide) rfl))) rfl rfl (c_ac1 hC (by decide) h23)).trans ?_
      generalize hP13 : vat P11 = P13
      refine ys17_0 29 rfl rfl (fun h26 => absurd h26 (by decide)) (fun h26 => ?_)
      refine (ys4 30 (v := .ref (r + 0)) rfl rfl rfl rfl).trans ?_
      refine (yc1 33 rfl rfl (Nat.le_of_ble_eq_true rfl) (Or.inr (by show ztg (zwi _ _) _ = _; rw [ztg_wi]; exact (zFS.tag hC.1.1 (j := 0) (by decide) rfl))) rfl rfl (c_rs hC)).trans ?_
      generalize hr14 : vrs P13 Q K = r14
      refine ys17_1 36 rfl rfl (fun h33 => ?_) (fun h33 => ?_)
      · refine (ys1 37 (x := 0) rfl rfl rfl).trans ?_
        refine (ys36 rfl (by decide)).trans ?_
        rw [show vrh P V Q K = (0, r14.2, V12) from by subst hr14 hP13 hn1 hV12 hP11; unfold vrh; (try dsimp only); rw [if_neg h6, if_pos h23, if_pos h33]]; (first | done | rfl)
      · refine (ys4 39 (v := .ref (w + (43 + n1))) rfl rfl rfl rfl).trans ?_
        refine (ys4 40 (v := .ref (r + 0)) rfl rfl rfl rfl).trans ?_
        refine (yg 43 rfl (zFS.tag hC.1.1 (j := 0) (by decide) rfl) (zFS.ni hC.1.1 (j := 0) (by decide) rfl) (by decide) rfl (zrw_at (o := 0) (j := 0) (by decide) hC.2.2.1)).trans ?_
        refine (yq 46 rfl (zWS.tag hC.2.1 (o := 43 + n1) (zwT_3 _ hn1b).2.2 (zwT_3 _ hn1b).1) (zWS.k0 hC.2.1 (o := 43 + n1)) (zWS.ni hC.2.1 (o := 43 + n1) (zwT_3 _ hn1b).2.2 (zwT_3 _ hn1b).2.1) (by decide) rfl (zpc_up (o := 43 + n1) (zpk_3 _ hn1b) (zwT_3 _ hn1b).2.2)).trans ?_
        generalize hV15 : zvu V12 3 n1 0 ((r14.2 0 4)) = V15
        have hGV15 : zVG V15 := by rw [← hV15]; exact zVG_u hGV12 (by decide) (by decide)
        refine (ys4 47 (v := .ref (w + (43 + n1))) rfl rfl rfl rfl).trans ?_
        refine (ys4 48 (v := .ref (r + 0)) rfl rfl rfl rfl).trans ?_
        refine (yg 51 rfl (zFS.tag hC.1.1 (j := 0) (by decide) rfl) (zFS.ni hC.1.1 (j := 0) (by decide) rfl) (by decide) rfl (zrw_at (o := 0) (j := 0) (by decide) hC.2.2.1)).trans ?_
        refine (yq 54 rfl (zWS.tag hC.2.1 (o := 43 + n1) (zwT_3 _ hn1b).2.2 (zwT_3 _ hn1b).1) (zWS.k0 hC.2.1 (o := 43 + n1)) (zWS.ni hC.2.1 (o := 43 + n1) (zwT_3 _ hn1b).2.2 (zwT_3 _ hn1b).2.1) (by decide) rfl (zpc_up (o := 43 + n1) (zpk_3 _ hn1b) (zwT_3 _ hn1b).2.2)).trans ?_
        generalize hV16 : zvu V15 3 n1 1 ((r14.2 0 5)) = V16
        have hGV16 : zVG V16 := by rw [← hV16]; exact zVG_u hGV15 (by decide) (by decide)
        refine (ys4 55 (v := .ref (r + 0)) rfl rfl rfl rfl).trans ?_
        refine (ys25 58 rfl (v := .ref (15)) rfl rfl).trans ?_
        by_cases h58 : vko Q K (r14.2 0 0) = 15
        · refine (yc2 61 rfl rfl (Nat.le_of_ble_eq_true rfl) (Or.inr (by show ztg (zwi _ _) _ = _; rw [ztg_wi]; exact (zFS.tag hC.1.1 (j := 0) (by decide) rfl))) rfl rfl (c_ac1 hC (by decide) h58)).trans ?_
          generalize hP17 : vat r14.2 = P17
          refine ys17_0 64 rfl rfl (fun h61 => absurd h61 (by decide)) (fun h61 => ?_)
          refine (ys4 65 (v := .ref (r + 0)) rfl rfl rfl rfl).trans ?_
          refine (ys1 66 (x := 0) rfl rfl rfl).trans ?_
          refine (ys1 68 (x := 20) rfl rfl rfl).trans ?_
          by_cases h68 : vko Q K (P17 0 0) = 3
          · refine (yc3 71 rfl rfl (Nat.le_of_ble_eq_true rfl) (Or.inr (by show ztg (zwi _ _) _ = _; rw [ztg_wi]; exact (zFS.tag hC.1.1 (j := 0) (by decide) rfl))) rfl rfl (c_rn1 hC h68)).trans ?_
            generalize hP18 : vrn P17 Q 0 20 = P18
            refine ys17_1 74 rfl rfl (fun h71 => absurd h71 (by decide)) (fun h71 => ?_)
            refine (ys4 77 (v := .ref (w + (43 + n1))) rfl rfl rfl rfl).trans ?_
            refine (ys4 78 (v := .ref (r + 0)) rfl rfl rfl rfl).trans ?_
            refine (yg 81 rfl (zFS.tag hC.1.1 (j := 0) (by decide) rfl) (zFS.ni hC.1.1 (j := 0) (by decide) rfl) (by decide) rfl (zrw_at (o := 0) (j := 0) (by decide) hC.2.2.1)).trans ?_
            refine (yq 84 rfl (zWS.tag hC.2.1 (o := 43 + n1) (zwT_3 _ hn1b).2.2 (zwT_3 _ hn1b).1) (zWS.k0 hC.2.1 (o := 43 + n1)) (zWS.ni hC.2.1 (o := 43 + n1) (zwT_3 _ hn1b).2.2 (zwT_3 _ hn1b).2.1) (by decide) rfl (zpc_up (o := 43 + n1) (zpk_3 _ hn1b) (zwT_3 _ hn1b).2.2)).trans ?_
            generalize hV19 : zvu V16 3 n1 2 ((P18 0 3)) = V19
            have hGV19 : zVG V19 := by rw [← hV19]; exact zVG_u hGV16 (by decide) (by decide)
            refine (ys4 85 (v := .ref (r + 0)) rfl rfl rfl rfl).trans ?_
            refine (ys25 88 rfl (v := .ref (16)) rfl rfl).trans ?_
            refine (ys1 89 (x := 1) rfl rfl rfl).trans ?_
            refine (ys1 91 (x := 24) rfl rfl rfl).trans ?_
            refine (ys1 92 (x := 4) rfl rfl rfl).trans ?_
            refine (yc5 95 rfl rfl (Nat.le_of_ble_eq_true rfl) (Or.inr (by show ztg (zwi _ _) _ = _; rw [ztg_wi]; exact (zFS.tag hC.1.1 (j := 0) (by decide) rfl))) rfl rfl (c_ro hC (by decide))).trans ?_
            generalize hr20 : vro P18 Q K 16 1 24 4 = r20
            refine ys17_1 98 rfl rfl (fun h95 => ?_) (fun h95 => ?_)
            · refine (ys1 99 (x := 0) rfl rfl rfl).trans ?_
              refine (ys36 rfl (by decide)).trans ?_
              rw [show vrh P V Q K = (0, r20.2, V19) from by subst hr20 hV19 hP18 hP17 hV16 hV15 hr14 hP13 hn1 hV12 hP11; unfold vrh; (try dsimp only); rw [if_neg h6, if_pos h23, if_neg h33, if_pos h58, if_pos h68, if_pos h95]]; (first | done | rfl)
            · refine (ys4 101 (v := .ref (w + (43 + n1))) rfl rfl rfl rfl).trans ?_
              refine (ys4 102 (v := .ref (r + 0)) rfl rfl rfl rfl).trans ?_
              refine (yg 105 rfl (zFS.tag hC.1.1 (j := 0) (by decide) rfl) (zFS.ni hC.1.1 (j := 0) (by decide) rfl) (by decide) rfl (zrw_at (o := 0) (j := 0) (by decide) hC.2.2.1)).trans ?_
              refine (yq 108 rfl (zWS.tag hC.2.1 (o := 43 + n1) (zwT_3 _ hn1b).2.2 (zwT_3 _ hn1b).1) (zWS.k0 hC.2.1 (o := 43 + n1)) (zWS.ni hC.2.1 (o := 43 + n1) (zwT_3 _ hn1b).2.2 (zwT_3 _ hn1b).2.1) (by decide) rfl (zpc_up (o := 43 + n1) (zpk_3 _ hn1b) (zwT_3 _ hn1b).2.2)).trans ?_
              generalize hV21 : zvu V19 3 n1 3 ((r20.2 0 3)) = V21
              have hGV21 : zVG V21 := by rw [← hV21]; exact zVG_u hGV19 (by decide) (by decide)
              refine (ys1 109 (x := 1) rfl rfl rfl).trans ?_
              refine (ys36 rfl (by decide)).trans ?_
              rw [show vrh P V Q K = (1, r20.2, V21) from by subst hV21 hr20 hV19 hP18 hP17 hV16 hV15 hr14 hP13 hn1 hV12 hP11; unfold vrh; (try dsimp only); rw [if_neg h6, if_pos h23, if_neg h33, if_pos h58, if_pos h68, if_neg h95]]; (first | done | rfl)
          · refine (yc3 71 rfl rfl (Nat.le_of_ble_eq_true rfl) (Or.inr (by show ztg (zwi _ _) _ = _; rw [ztg_wi]; exact (zFS.tag hC.1.1 (j := 0) (by decide) rfl))) rfl rfl (c_rn0 hC h68)).trans ?_
            refine ys17_1 74 rfl rfl (fun h71 => ?_) (fun h71 => absurd (by decide) h71)
            refine (ys1 75 (x := 0) rfl rfl rfl).trans ?_
            refine (ys36 rfl (by decide)).trans ?_
            rw [show vrh P V Q K = (0, P17, V16) from by subst hP17 hV16 hV15 hr14 hP13 hn1 hV12 hP11; unfold vrh; (try dsimp only); rw [if_neg h6, if_pos h23, if_neg h33, if_pos h58, if_neg h68]]; (first | done | rfl)
        · refine (yc2 61 rfl rfl (Nat.le_of_ble_eq_true rfl) (Or.inr (by show ztg (zwi _ _) _ = _; rw [ztg_wi]; exact (zFS.tag hC.1.1 (j := 0) (by decide) rfl))) rfl rfl (c_ac0 hC (by decide) h58)).trans ?_
          refine ys17_0 64 rfl rfl (fun h61 => ?_) (fun h61 => absurd (by decide) h61)
          refine (ys1 75 (x := 0) rfl rfl rfl).trans ?_
          refine (ys36 rfl (by decide)).trans ?_
          rw [show vrh P V Q K = (0, r14.2, V16) from by subst hV16 hV15 hr14 hP13 hn1 hV12 hP11; unfold vrh; (try dsimp only); rw [if_neg h6, if_pos h23, if_neg h33, if_neg h58]]; (first | done | rfl)
    · refine (yc2 26 rfl rfl (Nat.le_of_ble_eq_true rfl) (Or.inr (by show ztg (zwi _ _) _ = _; rw [ztg_wi]; exact (zFS.tag hC.1.1 (j := 0) (by decide) rfl))) rfl rfl (c_ac0 hC (by decide) h23)).trans ?_
      refine ys17_0 29 rfl rfl (fun h26 => ?_) (fun h26 => absurd (by decide) h26)
      refine (ys1 37 (x := 0) rfl rfl rfl).trans ?_
      refine (ys36 rfl (by decide)).trans ?_
      rw [show vrh P V Q K = (0, P11, V12) from by subst hn1 hV12 hP11; unfold vrh; (try dsimp only); rw [if_neg h6, if_neg h23]]; (first | done | rfl)

theorem vrp_G {V : zV} (hG : zVG V) (P Q : zFn) (K : zKn) : zVG (vrp P V Q K).2.2 := by
  by_cases hc0 : vko Q K (P 0 0) = 2
  · obtain ⟨P1, hP1⟩ : ∃ z_, vnn2 P Q (vc V 1) = z_ := ⟨_, rfl⟩
    obtain ⟨V2, hV2⟩ : ∃ z_, vaddP V = z_ := ⟨_, rfl⟩
    have hGV2 : zVG V2 := by rw [← hV2]; exact vaddP_G hG
    obtain ⟨n1, hn1⟩ : ∃ z_, (min (vc V 1) 19) = z_ := ⟨_, rfl⟩
    by_cases hc5 : vko Q K (P1 0 0) = 11
    · obtain ⟨P3, hP3⟩ : ∃ z_, vat P1 = z_ := ⟨_, rfl⟩
      by_cases hc7 : vko Q K (P3 0 0) = 2
      · obtain ⟨P4, hP4⟩ : ∃ z_, von1 P3 Q (vc V2 0) = z_ := ⟨_, rfl⟩
        obtain ⟨V5, hV5⟩ : ∃ z_, zvu V2 2 n1 1 ((P4 0 3)) = z_ := ⟨_, rfl⟩
        have hGV5 : zVG V5 := by rw [← hV5]; exact zVG_u hGV2 (by decide) (by decide)
        by_cases hc11 : vko Q K (P4 0 0) = 12
        · obtain ⟨P6, hP6⟩ : ∃ z_, vat P4 = z_ := ⟨_, rfl⟩
          by_cases hc13 : vko Q K (P6 0 0) = 2
          · obtain ⟨P7, hP7⟩ : ∃ z_, von1 P6 Q (vc V5 0) = z_ := ⟨_, rfl⟩
            obtain ⟨V8, hV8⟩ : ∃ z_, zvu V5 2 n1 2 ((P7 0 3)) = z_ := ⟨_, rfl⟩
            have hGV8 : zVG V8 := by rw [← hV8]; exact zVG_u hGV5 (by decide) (by decide)
            obtain ⟨r9, hr9⟩ : ∃ z_, vro P7 Q K 9 1 20 8 = z_ := ⟨_, rfl⟩
            by_cases hc18 : r9.1 = 0
            · rw [show vrp P V Q K = (0, r9.2, V8) from by subst hr9 hV8 hP7 hP6 hV5 hP4 hP3 hn1 hV2 hP1; unfold vrp; (try dsimp only); rw [if_pos hc0, if_pos hc5, if_pos hc7, if_pos hc11, if_pos hc13, if_pos hc18]]; exact hGV8
            · obtain ⟨V10, hV10⟩ : ∃ z_, zvu V8 2 n1 3 ((r9.2 0 3)) = z_ := ⟨_, rfl⟩
              have hGV10 : zVG V10 := by rw [← hV10]; exact zVG_u hGV8 (by decide) (by decide)
              obtain ⟨r11, hr11⟩ : ∃ z_, vro r9.2 Q K 13 0 20 3 = z_ := ⟨_, rfl⟩
              by_cases hc23 : r11.1 = 0
              · rw [show vrp P V Q K = (0, r11.2, V10) from by subst hr11 hV10 hr9 hV8 hP7 hP6 hV5 hP4 hP3 hn1 hV2 hP1; unfold vrp; (try dsimp only); rw [if_pos hc0, if_pos hc5, if_pos hc7, if_pos hc11, if_pos hc13, if_neg hc18, if_pos hc23]]; exact hGV10
              · obtain ⟨V12, hV12⟩ : ∃ z_, zvu V10 2 n1 4 ((r11.2 0 3)) = z_ := ⟨_, rfl⟩
                have hGV12 : zVG V12 := by rw [← hV12]; exact zVG_u hGV10 (by decide) (by decide)
                rw [show vrp P V Q K = (1, r11.2, V12) from by subst hV12 hr11 hV10 hr9 hV8 hP7 hP6 hV5 hP4 hP3 hn1 hV2 hP1; unfold vrp; (try dsimp only); rw [if_pos hc0, if_pos hc5, if_pos hc7, if_pos hc11, if_pos hc13, if_neg hc18, if_neg hc23]]; exact hGV12
          · rw [show vrp P V Q K = (0, P6, V5) from by subst hP6 hV5 hP4 hP3 hn1 hV2 hP1; unfold vrp; (try dsimp only); rw [if_pos hc0, if_pos hc5, if_pos hc7, if_pos hc11, if_neg hc13]]; exact hGV5
        · obtain ⟨V13, hV13⟩ : ∃ z_, zvu V5 2 n1 2 ((P4 0 3)) = z_ := ⟨_, rfl⟩
          have hGV13 : zVG V13 := by rw [← hV13]; exact zVG_u hGV5 (by decide) (by decide)
          obtain ⟨r14, hr14⟩ : ∃ z_, vro P4 Q K 9 1 20 8 = z_ := ⟨_, rfl⟩
          by_cases hc32 : r14.1 = 0
          · rw [show vrp P V Q K = (0, r14.2, V13) from by subst hr14 hV13 hV5 hP4 hP3 hn1 hV2 hP1; unfold vrp; (try dsimp only); rw [if_pos hc0, if_pos hc5, if_pos hc7, if_neg hc11, if_pos hc32]]; exact hGV13
          · obtain ⟨V15, hV15⟩ : ∃ z_, zvu V13 2 n1 3 ((r14.2 0 3)) = z_ := ⟨_, rfl⟩
            have hGV15 : zVG V15 := by rw [← hV15]; exact zVG_u hGV13 (by decide) (by decide)
            obtain ⟨r16, hr16⟩ : ∃ z_, vro r14.2 Q K 13 0 20 3 = z_ := ⟨_, rfl⟩
            by_cases hc37 : r16.1 = 0
            · rw [show vrp P V Q K = (0, r16.2, V15) from by subst hr16 hV15 hr14 hV13 hV5 hP4 hP3 hn1 hV2 hP1; unfold vrp; (try dsimp only); rw [if_pos hc0, if_pos hc5, if_pos hc7, if_neg hc11, if_neg hc32, if_pos hc37]]; exact hGV15
            · obtain ⟨V17, hV17⟩ : ∃ z_, zvu V15 2 n1 4 ((r16.2 0 3)) = z_ := ⟨_, rfl⟩
              have hGV17 : zVG V17 := by rw [← hV17]; exact zVG_u hGV15 (by decide) (by decide)
              rw [show vrp P V Q K = (1, r16.2, V17) from by subst hV17 hr16 hV15 hr14 hV13 hV5 hP4 hP3 hn1 hV2 hP1; unfold vrp; (try dsimp only); rw [if_pos hc0, if_pos hc5, if_pos hc7, if_neg hc11, if_neg hc32, if_neg hc37]]; exact hGV17
      · rw [show vrp P V Q K = (0, P3, V2) from by subst hP3 hn1 hV2 hP1; unfold vrp; (try dsimp only); rw [if_pos hc0, if_pos hc5, if_neg hc7]]; exact hGV2
    · rw [show vrp P V Q K = (0, P1, V2) from by subst hn1 hV2 hP1; unfold vrp; (try dsimp only); rw [if_pos hc0, if_neg hc5]]; exact hGV2
  · rw [show vrp P V Q K = (0, P, V) from by unfold vrp; (try dsimp only); rw [if_neg hc0]]; exact hG

theorem vrh_G {V : zV} (hG : zVG V) (P Q : zFn) (K : zKn) : zVG (vrh P V Q K).2.2 := by
  by_cases hc0 : (V 0 0 2) < 6
  · obtain ⟨V1, hV1⟩ : ∃ z_, vaddH V = z_ := ⟨_, rfl⟩
    have hGV1 : zVG V1 := by rw [← hV1]; exact vaddH_G hG
    obtain ⟨n1, hn1⟩ : ∃ z_, (min (vc V 2) 5) = z_ := ⟨_, rfl⟩
    by_cases hc4 : vko Q K (P 0 0) = 7
    · obtain ⟨P2, hP2⟩ : ∃ z_, vat P = z_ := ⟨_, rfl⟩
      obtain ⟨r3, hr3⟩ : ∃ z_, vrs P2 Q K = z_ := ⟨_, rfl⟩
      by_cases hc7 : r3.1 = 0
      · rw [show vrh P V Q K = (0, r3.2, V1) from by subst hr3 hP2 hn1 hV1; unfold vrh; (try dsimp only); rw [if_pos hc0, if_pos hc4, if_pos hc7]]; exact hGV1
      · obtain ⟨V4, hV4⟩ : ∃ z_, zvu V1 3 n1 0 ((r3.2 0 4)) = z_ := ⟨_, rfl⟩
        have hGV4 : zVG V4 := by rw [← hV4]; exact zVG_u hGV1 (by decide) (by decide)
        obtain ⟨V5, hV5⟩ : ∃ z_, zvu V4 3 n1 1 ((r3.2 0 5)) = z_ := ⟨_, rfl⟩
        have hGV5 : zVG V5 := by rw [← hV5]; exact zVG_u hGV4 (by decide) (by decide)
        by_cases hc13 : vko Q K (r3.2 0 0) = 15
        · obtain ⟨P6, hP6⟩ : ∃ z_, vat r3.2 = z_ := ⟨_, rfl⟩
          by_cases hc15 : vko Q K (P6 0 0) = 3
          · obtain ⟨P7, hP7⟩ : ∃ z_, vrn P6 Q 0 20 = z_ := ⟨_, rfl⟩
            obtain ⟨V8, hV8⟩ : ∃ z_, zvu V5 3 n1 2 ((P7 0 3)) = z_ := ⟨_, rfl⟩
            have hGV8 : zVG V8 := by rw [← hV8]; exact zVG_u hGV5 (by decide) (by decide)
            obtain ⟨r9, hr9⟩ : ∃ z_, vro P7 Q K 16 1 24 4 = z_ := ⟨_, rfl⟩
            by_cases hc20 : r9.1 = 0
            · rw [show vrh P V Q K = (0, r9.2, V8) from by subst hr9 hV8 hP7 hP6 hV5 hV4 hr3 hP2 hn1 hV1; unfold vrh; (try dsimp only); rw [if_pos hc0, if_pos hc4, if_neg hc7, if_pos hc13, if_pos hc15, if_pos hc20]]; exact hGV8
            · obtain ⟨V10, hV10⟩ : ∃ z_, zvu V8 3 n1 3 ((r9.2 0 3)) = z_ := ⟨_, rfl⟩
              have hGV10 : zVG V10 := by rw [← hV10]; exact zVG_u hGV8 (by decide) (by decide)
              rw [show vrh P V Q K = (1, r9.2, V10) from by subst hV10 hr9 hV8 hP7 hP6 hV5 hV4 hr3 hP2 hn1 hV1; unfold vrh; (try dsimp only); rw [if_pos hc0, if_pos hc4, if_neg hc7, if_pos hc13, if_pos hc15, if_neg hc20]]; exact hGV10
          · rw [show vrh P V Q K = (0, P6, V5) from by subst hP6 hV5 hV4 hr3 hP2 hn1 hV1; unfold vrh; (try dsimp only); rw [if_pos hc0, if_pos hc4, if_neg hc7, if_pos hc13, if_neg hc15]]; exact hGV5
        · rw [show vrh P V Q K = (0, r3.2, V5) from by subst hV5 hV4 hr3 hP2 hn1 hV1; unfold vrh; (try dsimp only); rw [if_pos hc0, if_pos hc4, if_neg hc7, if_neg hc13]]; exact hGV5
    · rw [show vrh P V Q K = (0, P, V1) from by subst hn1 hV1; unfold vrh; (try dsimp only); rw [if_pos hc0, if_neg hc4]]; exact hGV1
  · obtain ⟨P11, hP11⟩ : ∃ z_, vte P Q 4 = z_ := ⟨_, rfl⟩
    obtain ⟨V12, hV12⟩ : ∃ z_, vaddH V = z_ := ⟨_, rfl⟩
    have hGV12 : zVG V12 := by rw [← hV12]; exact vaddH_G hG
    obtain ⟨n1, hn1⟩ : ∃ z_, (min (vc V 2) 5) = z_ := ⟨_, rfl⟩
    by_cases hc32 : vko Q K (P11 0 0) = 7
    · obtain ⟨P13, hP13⟩ : ∃ z_, vat P11 = z_ := ⟨_, rfl⟩
      obtain ⟨r14, hr14⟩ : ∃ z_, vrs P13 Q K = z_ := ⟨_, rfl⟩
      by_cases hc35 : r14.1 = 0
      · rw [show vrh P V Q K = (0, r14.2, V12) from by subst hr14 hP13 hn1 hV12 hP11; unfold vrh; (try dsimp only); rw [if_neg hc0, if_pos hc32, if_pos hc35]]; exact hGV12
      · obtain ⟨V15, hV15⟩ : ∃ z_, zvu V12 3 n1 0 ((r14.2 0 4)) = z_ := ⟨_, rfl⟩
        have hGV15 : zVG V15 := by rw [← hV15]; exact zVG_u hGV12 (by decide) (by decide)
        obtain ⟨V16, hV16⟩ : ∃ z_, zvu V15 3 n1 1 ((r14.2 0 5)) = z_ := ⟨_, rfl⟩
        have hGV16 : zVG V16 := by rw [← hV16]; exact zVG_u hGV15 (by decide) (by decide)
        by_cases hc41 : vko Q K (r14.2 0 0) = 15
        · obtain ⟨P17, hP17⟩ : ∃ z_, vat r14.2 = z_ := ⟨_, rfl⟩
          by_cases hc43 : vko Q K (P17 0 0) = 3
          · obtain ⟨P18, hP18⟩ : ∃ z_, vrn P17 Q 0 20 = z_ := ⟨_, rfl⟩
            obtain ⟨V19, hV19⟩ : ∃ z_, zvu V16 3 n1 2 ((P18 0 3)) = z_ := ⟨_, rfl⟩
            have hGV19 : zVG V19 := by rw [← hV19]; exact zVG_u hGV16 (by decide) (by decide)
            obtain ⟨r20, hr20⟩ : ∃ z_, vro P18 Q K 16 1 24 4 = z_ := ⟨_, rfl⟩
            by_cases hc48 : r20.1 = 0
            · rw [show vrh P V Q K = (0, r20.2, V19) from by subst hr20 hV19 hP18 hP17 hV16 hV15 hr14 hP13 hn1 hV12 hP11; unfold vrh; (try dsimp only); rw [if_neg hc0, if_pos hc32, if_neg hc35, if_pos hc41, if_pos hc43, if_pos hc48]]; exact hGV19
            · obtain ⟨V21, hV21⟩ : ∃ z_, zvu V19 3 n1 3 ((r20.2 0 3)) = z_ := ⟨_, rfl⟩
              have hGV21 : zVG V21 := by rw [← hV21]; exact zVG_u hGV19 (by decide) (by decide)
              rw [show vrh P V Q K = (1, r20.2, V21) from by subst hV21 hr20 hV19 hP18 hP17 hV16 hV15 hr14 hP13 hn1 hV12 hP11; unfold vrh; (try dsimp only); rw [if_neg hc0, if_pos hc32, if_neg hc35, if_pos hc41, if_pos hc43, if_neg hc48]]; exact hGV21
          · rw [show vrh P V Q K = (0, P17, V16) from by subst hP17 hV16 hV15 hr14 hP13 hn1 hV12 hP11; unfold vrh; (try dsimp only); rw [if_neg hc0, if_pos hc32, if_neg hc35, if_pos hc41, if_neg hc43]]; exact hGV16
        · rw [show vrh P V Q K = (0, r14.2, V16) from by subst hV16 hV15 hr14 hP13 hn1 hV12 hP11; unfold vrh; (try dsimp only); rw [if_neg hc0, if_pos hc32, if_neg hc35, if_neg hc41]]; exact hGV16
    · rw [show vrh P V Q K = (0, P11, V12) from by subst hn1 hV12 hP11; unfold vrh; (try dsimp only); rw [if_neg hc0, if_neg hc32]]; exact hGV12

