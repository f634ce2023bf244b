/-! BLAME, DOUBLES, NEED -/
theorem zSZ_F {U : zV} {nl np nh nk : Nat} (h : zSZ U) (hS : zSm U (vpass U nl np nh nk)) : zSZ (vpass U nl np nh nk) := zSZ_cg h hS.2
theorem vhtL_Z {nl np nh nk k : Nat} {x : Int32} : ∀ (m i : Nat) (U : zV), zSZ U → zSZ (vhtL nl np nh nk k x m i U).2
  | 0, i, U, h => by
    rw [vhtL]
    repeat' split
    all_goals exact h
  | m + 1, i, U, h => by
    rw [vhtL]
    repeat' split
    all_goals first | exact h | exact vhtL_Z m (i + 1) _ (zSZ_cg h (zSm_pass _ _ _ _ _).2)
theorem vhtL_F {nl np nh nk k : Nat} {x : Int32} : ∀ (m i : Nat) (U : zV), zWF U nl np nh nk → zWF (vhtL nl np nh nk k x m i U).2 nl np nh nk
  | 0, i, U, h => by
    rw [vhtL]
    repeat' split
    all_goals exact h
  | m + 1, i, U, h => by
    rw [vhtL]
    repeat' split
    all_goals first | exact h | exact vhtL_F m (i + 1) _ (h.sm (zSm_pass _ _ _ _ _))
theorem zSm_ta (U : zV) (i : Nat) : zSm U (vta U i) := by
  unfold vta
  exact zSm.up (zSm.rf _) (by decide) (by decide)

def vblL (V : zV) (nl : Nat) (np : Nat) (nh : Nat) (nk : Nat) (k : Nat) (x : Int32) : Nat → Nat → Int32 → Int32 → zV → Int32 × zV
  | 0, i, a, b, U =>
    (b, U)
  | m + 1, i, a, b, U =>
    let U1 := vcpW U V nl np nh nk
    let U2 := vta U1 i
    let r3 := vhtL nl np nh nk k x (Int32.toNatClampNeg (a - 1)) 0 U2
    if r3.1 < 0 then
      vblL V nl np nh nk k x m (i + 1) a b r3.2
    else
      if a ≤ r3.1 then
        vblL V nl np nh nk k x m (i + 1) a b r3.2
      else
        vblL V nl np nh nk k x m (i + 1) r3.1 (nI i) r3.2

theorem l_bla {d c sl : Nat} {p r n s : Nat} {V : zV} {J : zFn} {μ : zM} (hL : zLC μ p r n s) {nl np nh nk : Nat} (hG : zWG V nl np nh nk) {k : Nat} (hk : k < nk) {x z : Int32} : ∀ (m i : Nat) (a : Int32) (b : Int32) (U : zV), zSZ U → i + m = nh → zden1 (d + 8) (zden zcds (d + 8)) zc18 (73, [(6, .int (nI i)), (5, .int (b)), (4, .int (a)), (3, .int (z)), (2, .int (x)), (0, .ref (p + 0)), (1, .int (nI k))], [], c, sl, zwi μ (zpc (zpc J n V) s U)) = some (0, some (.int ((vblL V nl np nh nk k x m i a b U).1)), c, sl, zwi μ (zpc (zpc J n V) s ((vblL V nl np nh nk k x m i a b U).2)))
  | 0, i, a, b, U, hZ, e => by
    refine (ys4 75 (v := .int (nI i)) rfl rfl rfl rfl).trans ?_
    refine (ys4 76 (v := .ref (p + 0)) rfl rfl rfl rfl).trans ?_
    refine (ygr 79 rfl hL.2.1 rfl hL.2.2.2.2.1).trans ?_
    refine (yg 82 rfl (zWS.tag hL.2.2.2.2.2.2.1 (o := 0) (by decide) rfl) (zWS.ni hL.2.2.2.2.2.2.1 (o := 0) (by decide) rfl) (by decide) rfl (zpc_at2 hL.2.2.2.2.2.2.2.2.1 (o := 0) (q := 0) (i := 0) rfl (by decide))).trans ?_
    refine ys18_3 85 rfl rfl (fun h82 => ?_) (fun h82 => absurd (by rw [hG.1.2.2.2.2.1]; exact nI_le (by omega) (by have := hG.1.2.2.2.2.2.1; omega)) h82)
    refine (ys4 148 (v := .int (b)) rfl rfl rfl rfl).trans ?_
    refine (ys36 rfl rfl).trans ?_
    rw [show vblL V nl np nh nk k x 0 i a b U = (b, U) from by rw [vblL]; (try dsimp only); first | done | rfl]; (first | done | rfl)
  | m + 1, i, a, b, U, hZ, e => by
    have hi : i < 6 := by have := hG.1.2.2.2.2.2.1; omega
    refine (ys4 75 (v := .int (nI i)) rfl rfl rfl rfl).trans ?_
    refine (ys4 76 (v := .ref (p + 0)) rfl rfl rfl rfl).trans ?_
    refine (ygr 79 rfl hL.2.1 rfl hL.2.2.2.2.1).trans ?_
    refine (yg 82 rfl (zWS.tag hL.2.2.2.2.2.2.1 (o := 0) (by decide) rfl) (zWS.ni hL.2.2.2.2.2.2.1 (o := 0) (by decide) rfl) (by decide) rfl (zpc_at2 hL.2.2.2.2.2.2.2.2.1 (o := 0) (q := 0) (i := 0) rfl (by decide))).trans ?_
    refine ys18_3 85 rfl rfl (fun h82 => absurd h82 (by rw [hG.1.2.2.2.2.1]; exact nI_ge (by omega) (by have := hG.1.2.2.2.2.2.1; omega))) (fun h82 => ?_)
    refine (ys4 86 (v := .ref (p + 0)) rfl rfl rfl rfl).trans ?_
    refine (ygr 89 rfl hL.2.1 rfl hL.2.2.2.2.2.1).trans ?_
    refine (ys4 90 (v := .ref (p + 0)) rfl rfl rfl rfl).trans ?_
    refine (ygr 93 rfl hL.2.1 rfl hL.2.2.2.2.1).trans ?_
    refine (yc2 96 rfl rfl (Nat.le_of_ble_eq_true rfl) (Or.inr (by show ztg (zwi _ _) _ = _; rw [ztg_wi]; exact (zWS.tag hL.2.2.2.2.2.2.2.1 (o := 0) (by decide) rfl))) rfl rfl (c_cpW hL.2.2.2.2.2.2.2.1 hL.2.2.2.2.2.2.1 hL.2.2.2.2.2.2.2.2.1 hG)).trans ?_
    generalize hU1 : vcpW U V nl np nh nk = U1
    have hZU1 : zSZ U1 := by rw [← hU1]; exact zSZ_cpW hG hZ
    have hFU1 : zWF U1 nl np nh nk := by rw [← hU1]; exact zWF_cpW hG hZ
    refine (ys4 97 (v := .ref (p + 0)) rfl rfl rfl rfl).trans ?_
    refine (ygr 100 rfl hL.2.1 rfl hL.2.2.2.2.2.1).trans ?_
    refine (ys4 102 (v := .int (nI i)) rfl rfl rfl rfl).trans ?_
    refine (yc2 105 rfl rfl (Nat.le_of_ble_eq_true rfl) (Or.inr (by show ztg (zwi _ _) _ = _; rw [ztg_wi]; exact (zWS.tag hL.2.2.2.2.2.2.2.1 (o := 0) (by decide) rfl))) rfl rfl (c_at3n hL.2.2.2.2.2.2.2.1 hi)).trans ?_
    refine (yc1 108 rfl rfl (Nat.le_of_ble_eq_true rfl) (Or.inr (by show ztg (zwi _ _) _ = _; rw [ztg_wi]; exact (zWS.tag hL.2.2.2.2.2.2.2.1 (o := 43 + i) (zwT_3 _ hi).2.2 (zwT_3 _ hi).1))) rfl rfl (c_ta hL.2.2.2.2.2.2.2.1 hi)).trans ?_
    generalize hU2 : vta U1 i = U2
    have hZU2 : zSZ U2 := by rw [← hU2]; exact zSZ_cg hZU1 (zSm_ta _ _).2
    have hFU2 : zWF U2 nl np nh nk := by rw [← hU2]; exact hFU1.sm (zSm_ta _ _)
    refine (ys4 109 (v := .ref (p + 0)) rfl rfl rfl rfl).trans ?_
    refine (ys4 110 (v := .int (nI k)) rfl rfl rfl rfl).trans ?_
    refine (ys4 111 (v := .int (x)) rfl rfl rfl rfl).trans ?_
    refine (ys4 113 (v := .int (a)) rfl rfl rfl rfl).trans ?_
    refine (ys1 114 (x := 1) rfl rfl rfl).trans ?_
    refine (ys7_1 115 rfl rfl).trans ?_
    refine (yc4 118 rfl rfl (Nat.le_of_ble_eq_true rfl) (Or.inr (by show ztg (zwi _ _) _ = _; rw [ztg_wi]; exact hL.2.1)) rfl rfl (c_hts hL hFU2 (Nat.lt_of_lt_of_le hk hG.1.2.2.2.2.2.2.2.1))).trans ?_
    generalize hr3 : vhtL nl np nh nk k x (Int32.toNatClampNeg (a - 1)) 0 U2 = r3
    have hZr32 : zSZ r3.2 := by rw [← hr3]; exact vhtL_Z _ _ _ hZU2
    have hFr32 : zWF r3.2 nl np nh nk := by rw [← hr3]; exact vhtL_F _ _ _ hFU2
    refine (ys5 120 (L2 := [(7, .int (r3.1)), (6, .int (nI i)), (5, .int (b)), (4, .int (a)), (3, .int (z)), (2, .int (x)), (0, .ref (p + 0)), (1, .int (nI k))]) rfl rfl rfl rfl).trans ?_
    refine (ys4 122 (v := .int (r3.1)) rfl rfl rfl rfl).trans ?_
    refine ys17_2 125 rfl rfl (fun h122 => ?_) (fun h122 => ?_)
    · refine (ys6 143 (y := nI (i + 1)) (L2 := [(6, .int (nI (i + 1))), (7, .int (r3.1)), (5, .int (b)), (4, .int (a)), (3, .int (z)), (2, .int (x)), (0, .ref (p + 0)), (1, .int (nI k))]) rfl rfl (nI_1 _) rfl rfl).trans ?_
      refine (ys19 rfl).trans ?_
      rw [show vblL V nl np nh nk k x (m + 1) i a b U = vblL V nl np nh nk k x m (i + 1) a b r3.2 from by subst hr3 hU2 hU1; rw [vblL]; (try dsimp only); rw [if_pos h122]]; refine zden1_fg (L := [(6, .int (nI (i + 1))), (5, .int (b)), (4, .int (a)), (3, .int (z)), (2, .int (x)), (0, .ref (p + 0)), (1, .int (nI k))]) (zfg_cons rfl (zfg_cons rfl (zfg_cons rfl (zfg_cons rfl (zfg_cons rfl (zfg_cons rfl (zfg_cons rfl zfg_nil))))))) ?_; exact l_bla hL hG hk m (i + 1) a b r3.2  hZr32 (by omega)
    · refine (ys4 127 (v := .int (r3.1)) rfl rfl rfl rfl).trans ?_
      refine (ys4 129 (v := .int (a)) rfl rfl rfl rfl).trans ?_
      refine ys18_3 132 rfl rfl (fun h129 => ?_) (fun h129 => ?_)
      · refine (ys6 143 (y := nI (i + 1)) (L2 := [(6, .int (nI (i + 1))), (7, .int (r3.1)), (5, .int (b)), (4, .int (a)), (3, .int (z)), (2, .int (x)), (0, .ref (p + 0)), (1, .int (nI k))]) rfl rfl (nI_1 _) rfl rfl).trans ?_
        refine (ys19 rfl).trans ?_
        rw [show vblL V nl np nh nk k x (m + 1) i a b U = vblL V nl np nh nk k x m (i + 1) a b r3.2 from by subst hr3 hU2 hU1; rw [vblL]; (try dsimp only); rw [if_neg h122, if_pos h129]]; refine zden1_fg (L := [(6, .int (nI (i + 1))), (5, .int (b)), (4, .int (a)), (3, .int (z)), (2, .int (x)), (0, .ref (p + 0)), (1, .int (nI k))]) (zfg_cons rfl (zfg_cons rfl (zfg_cons rfl (zfg_cons rfl (zfg_cons rfl (zfg_cons rfl (zfg_cons rfl zfg_nil))))))) ?_; exact l_bla hL hG hk m (i + 1) a b r3.2  hZr32 (by omega)
      · refine (ys4 134 (v := .int (r3.1)) rfl rfl rfl rfl).trans ?_
        refine (ys5 136 (L2 := [(4, .int (r3.1)), (7, .int (r3.1)), (6, .int (nI i)), (5, .int (b)), (3, .int (z)), (2, .int (x)), (0, .ref (p + 0)), (1, .int (nI k))]) rfl rfl rfl rfl).trans ?_
        refine (ys4 138 (v := .int (nI i)) rfl rfl rfl rfl).trans ?_
        refine (ys5 140 (L2 := [(5, .int (nI i)), (4, .int (r3.1)), (7, .int (r3.1)), (6, .int (nI i)), (3, .int (z)), (2, .int (x)), (0, .ref (p + 0)), (1, .int (nI k))]) rfl rfl rfl rfl).trans ?_
        refine (ys6 143 (y := nI (i + 1)) (L2 := [(6, .int (nI (i + 1))), (5, .int (nI i)), (4, .int (r3.1)), (7, .int (r3.1)), (3, .int (z)), (2, .int (x)), (0, .ref (p + 0)), (1, .int (nI k))]) rfl rfl (nI_1 _) rfl rfl).trans ?_
        refine (ys19 rfl).trans ?_
        rw [show vblL V nl np nh nk k x (m + 1) i a b U = vblL V nl np nh nk k x m (i + 1) r3.1 (nI i) r3.2 from by subst hr3 hU2 hU1; rw [vblL]; (try dsimp only); rw [if_neg h122, if_neg h129]]; refine zden1_fg (L := [(6, .int (nI (i + 1))), (5, .int (nI i)), (4, .int (r3.1)), (3, .int (z)), (2, .int (x)), (0, .ref (p + 0)), (1, .int (nI k))]) (zfg_cons rfl (zfg_cons rfl (zfg_cons rfl (zfg_cons rfl (zfg_cons rfl (zfg_cons rfl (zfg_cons rfl zfg_nil))))))) ?_; exact l_bla hL hG hk m (i + 1) r3.1 (nI i) r3.2  hZr32 (by omega)

def abla (V : zV) (U : zV) (nl : Nat) (np : Nat) (nh : Nat) (nk : Nat) (k : Nat) : Int32 × zV :=
  let U1 := vcpW U V nl np nh nk
  let r2 := vhtL nl np nh nk k (V 4 k 0) (Int32.toNatClampNeg 300) 0 U1
  if 0 ≤ r2.1 then
    vblL V nl np nh nk k (V 4 k 0) nh 0 r2.1 (-1) r2.2
  else
    vblL V nl np nh nk k (V 4 k 0) nh 0 301 (-1) r2.2

theorem c_bla {d : Nat} {p r n s : Nat} {V U : zV} {J : zFn} {μ : zM} (hL : zLC μ p r n s) {nl np nh nk : Nat} (hG : zWG V nl np nh nk) (hZ : zSZ U) {k : Nat} (hk : k < nk) : zden zcds (d + 9) 18 [.ref (p + 0), .int (nI k)] (zwi μ (zpc (zpc J n V) s U)) = some (0, some (.int ((abla V U nl np nh nk k).1)), 0, 0, zwi μ (zpc (zpc J n V) s ((abla V U nl np nh nk k).2))) := by
  refine (zd_in (d := d + 8) (cd := zc18) (nL := 8) (L := [(0, .ref (p + 0)), (1, .int (nI k))]) rfl (Nat.le_of_ble_eq_true rfl) rfl).trans ?_
  refine (ys4 1 (v := .ref (p + 0)) rfl rfl rfl rfl).trans ?_
  refine (ygr 4 rfl hL.2.1 rfl hL.2.2.2.2.1).trans ?_
  refine (ys4 5 (v := .int (nI k)) rfl rfl rfl rfl).trans ?_
  refine (yc2 8 rfl rfl (Nat.le_of_ble_eq_true rfl) (Or.inr (by show ztg (zwi _ _) _ = _; rw [ztg_wi]; exact (zWS.tag hL.2.2.2.2.2.2.1 (o := 0) (by decide) rfl))) rfl rfl (lnw hL.2.2.2.2.2.2.2.2.1 (fun _ => c_has3 hL.2.2.2.2.2.2.1))).trans ?_
  refine ys17_1 11 rfl rfl (fun h8 => absurd h8 (vhas_ne hG.1.2.2.2.2.2.2.1 (by have := hG.1.2.2.2.2.2.2.2.1; omega) hk)) (fun h8 => ?_)
  refine (ys4 22 (v := .ref (p + 0)) rfl rfl rfl rfl).trans ?_
  refine (ygr 25 rfl hL.2.1 rfl hL.2.2.2.2.1).trans ?_
  refine (ys4 26 (v := .int (nI k)) rfl rfl rfl rfl).trans ?_
  refine (yc2 29 rfl rfl (Nat.le_of_ble_eq_true rfl) (Or.inr (by show ztg (zwi _ _) _ = _; rw [ztg_wi]; exact (zWS.tag hL.2.2.2.2.2.2.1 (o := 0) (by decide) rfl))) rfl rfl (c_at4n hL.2.2.2.2.2.2.1 (Nat.lt_of_lt_of_le hk hG.1.2.2.2.2.2.2.2.1))).trans ?_
  refine (yg 32 rfl (zWS.tag hL.2.2.2.2.2.2.1 (o := 49 + 3 * k) (zwT_4 _ (Nat.lt_of_lt_of_le hk hG.1.2.2.2.2.2.2.2.1)).2.2.2.2 (zwT_4 _ (Nat.lt_of_lt_of_le hk hG.1.2.2.2.2.2.2.2.1)).1) (zWS.ni hL.2.2.2.2.2.2.1 (o := 49 + 3 * k) (zwT_4 _ (Nat.lt_of_lt_of_le hk hG.1.2.2.2.2.2.2.2.1)).2.2.2.2 (zwT_4 _ (Nat.lt_of_lt_of_le hk hG.1.2.2.2.2.2.2.2.1)).2.1) (by decide) rfl (zpc_at2 hL.2.2.2.2.2.2.2.2.1 (o := 49 + 3 * k) (zpk_4 _ (Nat.lt_of_lt_of_le hk hG.1.2.2.2.2.2.2.2.1)) (zwT_4 _ (Nat.lt_of_lt_of_le hk hG.1.2.2.2.2.2.2.2.1)).2.2.2.2)).trans ?_
  refine (ys5 33 (L2 := [(2, .int ((V 4 k 0))), (0, .ref (p + 0)), (1, .int (nI k))]) rfl rfl rfl rfl).trans ?_
  refine (ys4 34 (v := .ref (p + 0)) rfl rfl rfl rfl).trans ?_
  refine (ygr 37 rfl hL.2.1 rfl hL.2.2.2.2.2.1).trans ?_
  refine (ys4 38 (v := .ref (p + 0)) rfl rfl rfl rfl).trans ?_
  refine (ygr 41 rfl hL.2.1 rfl hL.2.2.2.2.1).trans ?_
  refine (yc2 44 rfl rfl (Nat.le_of_ble_eq_true rfl) (Or.inr (by show ztg (zwi _ _) _ = _; rw [ztg_wi]; exact (zWS.tag hL.2.2.2.2.2.2.2.1 (o := 0) (by decide) rfl))) rfl rfl (c_cpW hL.2.2.2.2.2.2.2.1 hL.2.2.2.2.2.2.1 hL.2.2.2.2.2.2.2.2.1 hG)).trans ?_
  generalize hU1 : vcpW U V nl np nh nk = U1
  have hZU1 : zSZ U1 := by rw [← hU1]; exact zSZ_cpW hG hZ
  have hFU1 : zWF U1 nl np nh nk := by rw [← hU1]; exact zWF_cpW hG hZ
  refine (ys4 45 (v := .ref (p + 0)) rfl rfl rfl rfl).trans ?_
  refine (ys4 46 (v := .int (nI k)) rfl rfl rfl rfl).trans ?_
  refine (ys4 47 (v := .int ((V 4 k 0))) rfl rfl rfl rfl).trans ?_
  refine (ys1 50 (x := 300) rfl rfl rfl).trans ?_
  refine (yc4 53 rfl rfl (Nat.le_of_ble_eq_true rfl) (Or.inr (by show ztg (zwi _ _) _ = _; rw [ztg_wi]; exact hL.2.1)) rfl rfl (c_hts hL hFU1 (Nat.lt_of_lt_of_le hk hG.1.2.2.2.2.2.2.2.1))).trans ?_
  generalize hr2 : vhtL nl np nh nk k (V 4 k 0) (Int32.toNatClampNeg 300) 0 U1 = r2
  have hZr22 : zSZ r2.2 := by rw [← hr2]; exact vhtL_Z _ _ _ hZU1
  have hFr22 : zWF r2.2 nl np nh nk := by rw [← hr2]; exact vhtL_F _ _ _ hFU1
  refine (ys5 54 (L2 := [(3, .int (r2.1)), (2, .int ((V 4 k 0))), (0, .ref (p + 0)), (1, .int (nI k))]) rfl rfl rfl rfl).trans ?_
  refine (ys4 55 (v := .int (r2.1)) rfl rfl rfl rfl).trans ?_
  refine ys17_3 58 rfl rfl (fun h55 => ?_) (fun h55 => ?_)
  · refine (ys4 65 (v := .int (r2.1)) rfl rfl rfl rfl).trans ?_
    refine (ys5 67 (L2 := [(4, .int (r2.1)), (3, .int (r2.1)), (2, .int ((V 4 k 0))), (0, .ref (p + 0)), (1, .int (nI k))]) rfl rfl rfl rfl).trans ?_
    refine (ys1 68 (x := (-1)) rfl rfl rfl).trans ?_
    refine (ys5 70 (L2 := [(5, .int ((-1))), (4, .int (r2.1)), (3, .int (r2.1)), (2, .int ((V 4 k 0))), (0, .ref (p + 0)), (1, .int (nI k))]) rfl rfl rfl rfl).trans ?_
    refine (ys1 71 (x := nI 0) rfl rfl rfl).trans ?_
    refine (ys5 73 (L2 := [(6, .int (nI 0)), (5, .int ((-1))), (4, .int (r2.1)), (3, .int (r2.1)), (2, .int ((V 4 k 0))), (0, .ref (p + 0)), (1, .int (nI k))]) rfl rfl rfl rfl).trans ?_
    rw [show abla V U nl np nh nk k = vblL V nl np nh nk k (V 4 k 0) nh 0 r2.1 (-1) r2.2 from by subst hr2 hU1; unfold abla; (try dsimp only); rw [if_pos h55]]; exact l_bla hL hG hk nh 0 _ _ _ hZr22 (by omega)
  · refine (ys1 61 (x := 301) rfl rfl rfl).trans ?_
    refine (ys19 rfl).trans ?_
    refine (ys5 67 (L2 := [(4, .int (301)), (3, .int (r2.1)), (2, .int ((V 4 k 0))), (0, .ref (p + 0)), (1, .int (nI k))]) rfl rfl rfl rfl).trans ?_
    refine (ys1 68 (x := (-1)) rfl rfl rfl).trans ?_
    refine (ys5 70 (L2 := [(5, .int ((-1))), (4, .int (301)), (3, .int (r2.1)), (2, .int ((V 4 k 0))), (0, .ref (p + 0)), (1, .int (nI k))]) rfl rfl rfl rfl).trans ?_
    refine (ys1 71 (x := nI 0) rfl rfl rfl).trans ?_
    refine (ys5 73 (L2 := [(6, .int (nI 0)), (5, .int ((-1))), (4, .int (301)), (3, .int (r2.1)), (2, .int ((V 4 k 0))), (0, .ref (p + 0)), (1, .int (nI k))]) rfl rfl rfl rfl).trans ?_
    rw [show abla V U nl np nh nk k = vblL V nl np nh nk k (V 4 k 0) nh 0 301 (-1) r2.2 from by subst hr2 hU1; unfold abla; (try dsimp only); rw [if_neg h55]]; exact l_bla hL hG hk nh 0 _ _ _ hZr22 (by omega)

def vkfL (V : zV) (k : Nat) (x : Int32) (z : Int32) : Nat → Nat → Nat → zV → zV
  | 0, i, a, U =>
    U
  | m + 1, i, a, U =>
    if (x &&& (vbit (vcar V k (V 4 k 2) (nI i)))) = 0 then
      vkfL V k x z m (i + 1) a U
    else
      if (nI (a + 1)) ≤ z then
        vkfL V k x z m (i + 1) (a + 1) U
      else
        let U1 := zvu U 2 (zsf (vcar V k (V 4 k 2) (nI i)) 20) 0 (2)
        vkfL V k x z m (i + 1) (a + 1) U1

theorem l_kf {d c sl : Nat} {p r n s : Nat} {V : zV} {J : zFn} {μ : zM} (hL : zLC μ p r n s) {nl np nh nk : Nat} (hG : zWG V nl np nh nk) {k : Nat} (hk : k < nk) {x z : Int32} : ∀ (m i : Nat) (a : Nat) (U : zV), i + m = vN V k → zden1 (d + 7) (zden zcds (d + 7)) zc21 (16, [(6, .int (nI i)), (5, .int (nI (vN V k))), (4, .int (nI a)), (0, .ref (p + 0)), (1, .ref (n + (49 + 3 * k))), (2, .int (x)), (3, .int (z))], [], c, sl, zwi μ (zpc (zpc J n V) s U)) = some (0, none, c, sl, zwi μ (zpc (zpc J n V) s ((vkfL V k x z m i a U))))
  | 0, i, a, U, e => by
    refine (ys4 18 (v := .int (nI i)) rfl rfl rfl rfl).trans ?_
    refine (ys4 20 (v := .int (nI (vN V k))) rfl rfl rfl rfl).trans ?_
    refine ys18_3 23 rfl rfl (fun h20 => ?_) (fun h20 => absurd (nI_le (by omega) (by have := (zWF_vN hG.1 hk).2; omega)) h20)
    refine (ys36v rfl rfl).trans ?_
    rw [show vkfL V k x z 0 i a U = U from by rw [vkfL]; (try dsimp only); first | done | rfl]; (first | done | rfl)
  | m + 1, i, a, U, e => by
    refine (ys4 18 (v := .int (nI i)) rfl rfl rfl rfl).trans ?_
    refine (ys4 20 (v := .int (nI (vN V k))) rfl rfl rfl rfl).trans ?_
    refine ys18_3 23 rfl rfl (fun h20 => absurd h20 (nI_ge (by omega) (by have := (zWF_vN hG.1 hk).2; omega))) (fun h20 => ?_)
    refine (ys4 24 (v := .ref (n + (49 + 3 * k))) rfl rfl rfl rfl).trans ?_
    refine (ys4 25 (v := .ref (n + (49 + 3 * k))) rfl rfl rfl rfl).trans ?_
    refine (yg 28 rfl (zWS.tag hL.2.2.2.2.2.2.1 (o := 49 + 3 * k) (zwT_4 _ (Nat.lt_of_lt_of_le hk hG.1.2.2.2.2.2.2.2.1)).2.2.2.2 (zwT_4 _ (Nat.lt_of_lt_of_le hk hG.1.2.2.2.2.2.2.2.1)).1) (zWS.ni hL.2.2.2.2.2.2.1 (o := 49 + 3 * k) (zwT_4 _ (Nat.lt_of_lt_of_le hk hG.1.2.2.2.2.2.2.2.1)).2.2.2.2 (zwT_4 _ (Nat.lt_of_lt_of_le hk hG.1.2.2.2.2.2.2.2.1)).2.1) (by decide) rfl (zpc_at2 hL.2.2.2.2.2.2.2.2.1 (o := 49 + 3 * k) (zpk_4 _ (Nat.lt_of_lt_of_le hk hG.1.2.2.2.2.2.2.2.1)) (zwT_4 _ (Nat.lt_of_lt_of_le hk hG.1.2.2.2.2.2.2.2.1)).2.2.2.2)).trans ?_
    refine (ys4 30 (v := .int (nI i)) rfl rfl rfl rfl).trans ?_
    refine (yc3 33 rfl rfl (Nat.le_of_ble_eq_true rfl) (Or.inr (by show ztg (zwi _ _) _ = _; rw [ztg_wi]; exact (zWS.tag hL.2.2.2.2.2.2.1 (o := 49 + 3 * k) (zwT_4 _ (Nat.lt_of_lt_of_le hk hG.1.2.2.2.2.2.2.2.1)).2.2.2.2 (zwT_4 _ (Nat.lt_of_lt_of_le hk hG.1.2.2.2.2.2.2.2.1)).1))) rfl rfl (lnw hL.2.2.2.2.2.2.2.2.1 (fun _ => c_car hL.2.2.2.2.2.2.1 (Nat.lt_of_lt_of_le hk hG.1.2.2.2.2.2.2.2.1)))).trans ?_
    refine (ys5 35 (L2 := [(7, .int ((vcar V k (V 4 k 2) (nI i)))), (6, .int (nI i)), (5, .int (nI (vN V k))), (4, .int (nI a)), (0, .ref (p + 0)), (1, .ref (n + (49 + 3 * k))), (2, .int (x)), (3, .int (z))]) rfl rfl rfl rfl).trans ?_
    refine (ys4 36 (v := .int (x)) rfl rfl rfl rfl).trans ?_
    refine (ys4 38 (v := .int ((vcar V k (V 4 k 2) (nI i)))) rfl rfl rfl rfl).trans ?_
    refine (yc1 41 rfl rfl (Nat.le_of_ble_eq_true rfl) (Or.inl rfl) rfl rfl c_bit).trans ?_
    refine (ys7_3 42 rfl rfl).trans ?_
    refine ys17_0 45 rfl rfl (fun h42 => ?_) (fun h42 => ?_)
    · refine (ys6 70 (y := nI (i + 1)) (L2 := [(6, .int (nI (i + 1))), (7, .int ((vcar V k (V 4 k 2) (nI i)))), (5, .int (nI (vN V k))), (4, .int (nI a)), (0, .ref (p + 0)), (1, .ref (n + (49 + 3 * k))), (2, .int (x)), (3, .int (z))]) rfl rfl (nI_1 _) rfl rfl).trans ?_
      refine (ys19 rfl).trans ?_
      rw [show vkfL V k x z (m + 1) i a U = vkfL V k x z m (i + 1) a U from by rw [vkfL]; (try dsimp only); rw [if_pos h42]]; refine zden1_fg (L := [(6, .int (nI (i + 1))), (5, .int (nI (vN V k))), (4, .int (nI a)), (0, .ref (p + 0)), (1, .ref (n + (49 + 3 * k))), (2, .int (x)), (3, .int (z))]) (zfg_cons rfl (zfg_cons rfl (zfg_cons rfl (zfg_cons rfl (zfg_cons rfl (zfg_cons rfl (zfg_cons rfl zfg_nil))))))) ?_; exact l_kf hL hG hk m (i + 1) a U  (by omega)
    · refine (ys6 48 (y := nI (a + 1)) (L2 := [(4, .int (nI (a + 1))), (7, .int ((vcar V k (V 4 k 2) (nI i)))), (6, .int (nI i)), (5, .int (nI (vN V k))), (0, .ref (p + 0)), (1, .ref (n + (49 + 3 * k))), (2, .int (x)), (3, .int (z))]) rfl rfl (nI_1 _) rfl rfl).trans ?_
      refine (ys4 50 (v := .int (nI (a + 1))) rfl rfl rfl rfl).trans ?_
      refine (ys4 51 (v := .int (z)) rfl rfl rfl rfl).trans ?_
      refine ys18_5 54 rfl rfl (fun h51 => ?_) (fun h51 => ?_)
      · refine (ys6 70 (y := nI (i + 1)) (L2 := [(6, .int (nI (i + 1))), (4, .int (nI (a + 1))), (7, .int ((vcar V k (V 4 k 2) (nI i)))), (5, .int (nI (vN V k))), (0, .ref (p + 0)), (1, .ref (n + (49 + 3 * k))), (2, .int (x)), (3, .int (z))]) rfl rfl (nI_1 _) rfl rfl).trans ?_
        refine (ys19 rfl).trans ?_
        rw [show vkfL V k x z (m + 1) i a U = vkfL V k x z m (i + 1) (a + 1) U from by rw [vkfL]; (try dsimp only); rw [if_neg h42, if_pos h51]]; refine zden1_fg (L := [(6, .int (nI (i + 1))), (5, .int (nI (vN V k))), (4, .int (nI (a + 1))), (0, .ref (p + 0)), (1, .ref (n + (49 + 3 * k))), (2, .int (x)), (3, .int (z))]) (zfg_cons rfl (zfg_cons rfl (zfg_cons rfl (zfg_cons rfl (zfg_cons rfl (zfg_cons rfl (zfg_cons rfl zfg_nil))))))) ?_; exact l_kf hL hG hk m (i + 1) (a + 1) U  (by omega)
      · refine (ys4 55 (v := .ref (p + 0)) rfl rfl rfl rfl).trans ?_
        refine (ygr 58 rfl hL.2.1 rfl hL.2.2.2.2.2.1).trans ?_
        refine (ys4 60 (v := .int ((vcar V k (V 4 k 2) (nI i)))) rfl rfl rfl rfl).trans ?_
        refine (yc2 63 rfl rfl (Nat.le_of_ble_eq_true rfl) (Or.inr (by show ztg (zwi _ _) _ = _; rw [ztg_wi]; exact (zWS.tag hL.2.2.2.2.2.2.2.1 (o := 0) (by decide) rfl))) rfl rfl (c_at2 hL.2.2.2.2.2.2.2.1)).trans ?_
        refine (ys1 64 (x := 2) rfl rfl rfl).trans ?_
        refine (yq 67 rfl (zWS.tag hL.2.2.2.2.2.2.2.1 (o := 23 + (zsf (vcar V k (V 4 k 2) (nI i)) 20)) (zwT_2 _ (zsf_lt (by decide) (by decide))).2.2 (zwT_2 _ (zsf_lt (by decide) (by decide))).1) (zWS.k0 hL.2.2.2.2.2.2.2.1 (o := 23 + (zsf (vcar V k (V 4 k 2) (nI i)) 20))) (zWS.ni hL.2.2.2.2.2.2.2.1 (o := 23 + (zsf (vcar V k (V 4 k 2) (nI i)) 20)) (zwT_2 _ (zsf_lt (by decide) (by decide))).2.2 (zwT_2 _ (zsf_lt (by decide) (by decide))).2.1) (by decide) rfl (zpc_up (o := 23 + (zsf (vcar V k (V 4 k 2) (nI i)) 20)) (zpk_2 _ (zsf_lt (by decide) (by decide))) (zwT_2 _ (zsf_lt (by decide) (by decide))).2.2)).trans ?_
        generalize hU1 : zvu U 2 (zsf (vcar V k (V 4 k 2) (nI i)) 20) 0 (2) = U1
        refine (ys6 70 (y := nI (i + 1)) (L2 := [(6, .int (nI (i + 1))), (4, .int (nI (a + 1))), (7, .int ((vcar V k (V 4 k 2) (nI i)))), (5, .int (nI (vN V k))), (0, .ref (p + 0)), (1, .ref (n + (49 + 3 * k))), (2, .int (x)), (3, .int (z))]) rfl rfl (nI_1 _) rfl rfl).trans ?_
        refine (ys19 rfl).trans ?_
        rw [show vkfL V k x z (m + 1) i a U = vkfL V k x z m (i + 1) (a + 1) U1 from by subst hU1; rw [vkfL]; (try dsimp only); rw [if_neg h42, if_neg h51]]; refine zden1_fg (L := [(6, .int (nI (i + 1))), (5, .int (nI (vN V k))), (4, .int (nI (a + 1))), (0, .ref (p + 0)), (1, .ref (n + (49 + 3 * k))), (2, .int (x)), (3, .int (z))]) (zfg_cons rfl (zfg_cons rfl (zfg_cons rfl (zfg_cons rfl (zfg_cons rfl (zfg_cons rfl (zfg_cons rfl zfg_nil))))))) ?_; exact l_kf hL hG hk m (i + 1) (a + 1) U1  (by omega)

def vkf (V : zV) (k : Nat) (x z : Int32) (U : zV) : zV := vkfL V k x z (vN V k) 0 0 U
theorem zSm_kfL (V : zV) (k : Nat) (x z : Int32) : ∀ (m i a : Nat) (U : zV), zSm U (vkfL V k x z m i a U)
  | 0, _, _, U => zSm.rf U
  | m + 1, i, a, U => by
    rw [vkfL]
    dsimp only
    repeat' split
    all_goals first | exact zSm_kfL V k x z m _ _ _ | exact (zSm.up (zSm.rf _) (by decide) (by decide)).tr (zSm_kfL V k x z m _ _ _)
theorem vkf_Z (V : zV) {U : zV} (k : Nat) (x : Int32) {z : Int32} (h : zSZ U) : zSZ (vkf V k x z U) := zSZ_cg h (zSm_kfL _ _ _ _ _ _ _ _).2
theorem vkf_F (V : zV) {U : zV} (k : Nat) (x : Int32) {z : Int32} {nl np nh nk : Nat} (h : zWF U nl np nh nk) : zWF (vkf V k x z U) nl np nh nk := h.sm (zSm_kfL _ _ _ _ _ _ _ _)
theorem vbc_le (x : Int32) : ∃ j, j < 64 ∧ vbc x = nI j := by
  unfold vbc
  (try dsimp only)
  have h := pk_andE
  first
    | exact (pk_andE _ 6 (by decide))
    | (obtain ⟨j, hj, e⟩ := pk_andE (m := 63) _ 6 (by decide); exact ⟨j, hj, e⟩)

theorem c_kf {d : Nat} {p r n s : Nat} {V U : zV} {J : zFn} {μ : zM} (hL : zLC μ p r n s) {nl np nh nk : Nat} (hG : zWG V nl np nh nk) {k : Nat} (hk : k < nk) {x z : Int32} : zden zcds (d + 8) 21 [.ref (p + 0), .ref (n + (49 + 3 * k)), .int (x), .int (z)] (zwi μ (zpc (zpc J n V) s U)) = some (0, none, 0, 0, zwi μ (zpc (zpc J n V) s (vkf V k x z U))) := by
  refine (zd_in (d := d + 7) (cd := zc21) (nL := 8) (L := [(0, .ref (p + 0)), (1, .ref (n + (49 + 3 * k))), (2, .int (x)), (3, .int (z))]) rfl (Nat.le_of_ble_eq_true rfl) rfl).trans ?_
  refine (ys1 1 (x := nI 0) rfl rfl rfl).trans ?_
  refine (ys5 3 (L2 := [(4, .int (nI 0)), (0, .ref (p + 0)), (1, .ref (n + (49 + 3 * k))), (2, .int (x)), (3, .int (z))]) rfl rfl rfl rfl).trans ?_
  refine (ys4 4 (v := .ref (n + (49 + 3 * k))) rfl rfl rfl rfl).trans ?_
  refine (ys4 5 (v := .ref (n + (49 + 3 * k))) rfl rfl rfl rfl).trans ?_
  refine (yg 8 rfl (zWS.tag hL.2.2.2.2.2.2.1 (o := 49 + 3 * k) (zwT_4 _ (Nat.lt_of_lt_of_le hk hG.1.2.2.2.2.2.2.2.1)).2.2.2.2 (zwT_4 _ (Nat.lt_of_lt_of_le hk hG.1.2.2.2.2.2.2.2.1)).1) (zWS.ni hL.2.2.2.2.2.2.1 (o := 49 + 3 * k) (zwT_4 _ (Nat.lt_of_lt_of_le hk hG.1.2.2.2.2.2.2.2.1)).2.2.2.2 (zwT_4 _ (Nat.lt_of_lt_of_le hk hG.1.2.2.2.2.2.2.2.1)).2.1) (by decide) rfl (zpc_at2 hL.2.2.2.2.2.2.2.2.1 (o := 49 + 3 * k) (zpk_4 _ (Nat.lt_of_lt_of_le hk hG.1.2.2.2.2.2.2.2.1)) (zwT_4 _ (Nat.lt_of_lt_of_le hk hG.1.2.2.2.2.2.2.2.1)).2.2.2.2)).trans ?_
  refine (yc2 11 rfl rfl (Nat.le_of_ble_eq_true rfl) (Or.inr (by show ztg (zwi _ _) _ = _; rw [ztg_wi]; exact (zWS.tag hL.2.2.2.2.2.2.1 (o := 49 + 3 * k) (zwT_4 _ (Nat.lt_of_lt_of_le hk hG.1.2.2.2.2.2.2.2.1)).2.2.2.2 (zwT_4 _ (Nat.lt_of_lt_of_le hk hG.1.2.2.2.2.2.2.2.1)).1))) rfl rfl (lnw hL.2.2.2.2.2.2.2.2.1 (fun _ => c_sizeN hL.2.2.2.2.2.2.1 (Nat.lt_of_lt_of_le hk hG.1.2.2.2.2.2.2.2.1) (zWF_vN hG.1 hk).1))).trans ?_
  refine (ys5 13 (L2 := [(5, .int (nI (vN V k))), (4, .int (nI 0)), (0, .ref (p + 0)), (1, .ref (n + (49 + 3 * k))), (2, .int (x)), (3, .int (z))]) rfl rfl rfl rfl).trans ?_
  refine (ys1 14 (x := nI 0) rfl rfl rfl).trans ?_
  refine (ys5 16 (L2 := [(6, .int (nI 0)), (5, .int (nI (vN V k))), (4, .int (nI 0)), (0, .ref (p + 0)), (1, .ref (n + (49 + 3 * k))), (2, .int (x)), (3, .int (z))]) rfl rfl rfl rfl).trans ?_
  exact l_kf hL hG hk (vN V k) 0 0 U (by omega)

def vdep (V : zV) (U : zV) (nl : Nat) (np : Nat) (nh : Nat) (nk : Nat) (k : Nat) : Int32 × zV :=
  let U1 := vcpW U V nl np nh nk
  let U2 := vslL nk 0 U1
  (((U2 4 k 3) &&& ((V 4 k 3) ^^^ (-1))), U2)

theorem c_dep {d : Nat} {p r n s : Nat} {V U : zV} {J : zFn} {μ : zM} (hL : zLC μ p r n s) {nl np nh nk : Nat} (hG : zWG V nl np nh nk) (hZ : zSZ U) {k : Nat} (hk : k < nk) : zden zcds (d + 8) 20 [.ref (p + 0), .int (nI k)] (zwi μ (zpc (zpc J n V) s U)) = some (0, some (.int ((vdep V U nl np nh nk k).1)), 0, 0, zwi μ (zpc (zpc J n V) s ((vdep V U nl np nh nk k).2))) := by
  refine (zd_in (d := d + 7) (cd := zc20) (nL := 2) (L := [(0, .ref (p + 0)), (1, .int (nI k))]) rfl (Nat.le_of_ble_eq_true rfl) rfl).trans ?_
  refine (ys4 1 (v := .ref (p + 0)) rfl rfl rfl rfl).trans ?_
  refine (ygr 4 rfl hL.2.1 rfl hL.2.2.2.2.2.1).trans ?_
  refine (ys4 5 (v := .ref (p + 0)) rfl rfl rfl rfl).trans ?_
  refine (ygr 8 rfl hL.2.1 rfl hL.2.2.2.2.1).trans ?_
  refine (yc2 11 rfl rfl (Nat.le_of_ble_eq_true rfl) (Or.inr (by show ztg (zwi _ _) _ = _; rw [ztg_wi]; exact (zWS.tag hL.2.2.2.2.2.2.2.1 (o := 0) (by decide) rfl))) rfl rfl (c_cpW hL.2.2.2.2.2.2.2.1 hL.2.2.2.2.2.2.1 hL.2.2.2.2.2.2.2.2.1 hG)).trans ?_
  generalize hU1 : vcpW U V nl np nh nk = U1
  have hZU1 : zSZ U1 := by rw [← hU1]; exact zSZ_cpW hG hZ
  have hFU1 : zWF U1 nl np nh nk := by rw [← hU1]; exact zWF_cpW hG hZ
  refine (ys4 12 (v := .ref (p + 0)) rfl rfl rfl rfl).trans ?_
  refine (ygr 15 rfl hL.2.1 rfl hL.2.2.2.2.2.1).trans ?_
  refine (yc1 18 rfl rfl (Nat.le_of_ble_eq_true rfl) (Or.inr (by show ztg (zwi _ _) _ = _; rw [ztg_wi]; exact (zWS.tag hL.2.2.2.2.2.2.2.1 (o := 0) (by decide) rfl))) rfl rfl (c_sl hL.2.2.2.2.2.2.2.1 hFU1)).trans ?_
  generalize hU2 : vslL nk 0 U1 = U2
  have hZU2 : zSZ U2 := by rw [← hU2]; exact zSZ_cg hZU1 (zSm_slL _ _ _).2
  have hFU2 : zWF U2 nl np nh nk := by rw [← hU2]; exact hFU1.sm (zSm_slL _ _ _)
  refine (ys4 19 (v := .ref (p + 0)) rfl rfl rfl rfl).trans ?_
  refine (ygr 22 rfl hL.2.1 rfl hL.2.2.2.2.2.1).trans ?_
  refine (ys4 23 (v := .int (nI k)) rfl rfl rfl rfl).trans ?_
  refine (yc2 26 rfl rfl (Nat.le_of_ble_eq_true rfl) (Or.inr (by show ztg (zwi _ _) _ = _; rw [ztg_wi]; exact (zWS.tag hL.2.2.2.2.2.2.2.1 (o := 0) (by decide) rfl))) rfl rfl (c_at4n hL.2.2.2.2.2.2.2.1 (Nat.lt_of_lt_of_le hk hG.1.2.2.2.2.2.2.2.1))).trans ?_
  refine (yg 29 rfl (zWS.tag hL.2.2.2.2.2.2.2.1 (o := 49 + 3 * k) (zwT_4 _ (Nat.lt_of_lt_of_le hk hG.1.2.2.2.2.2.2.2.1)).2.2.2.2 (zwT_4 _ (Nat.lt_of_lt_of_le hk hG.1.2.2.2.2.2.2.2.1)).1) (zWS.ni hL.2.2.2.2.2.2.2.1 (o := 49 + 3 * k) (zwT_4 _ (Nat.lt_of_lt_of_le hk hG.1.2.2.2.2.2.2.2.1)).2.2.2.2 (zwT_4 _ (Nat.lt_of_lt_of_le hk hG.1.2.2.2.2.2.2.2.1)).2.1) (by decide) rfl (zpc_at (o := 49 + 3 * k) (zpk_4 _ (Nat.lt_of_lt_of_le hk hG.1.2.2.2.2.2.2.2.1)) (zwT_4 _ (Nat.lt_of_lt_of_le hk hG.1.2.2.2.2.2.2.2.1)).2.2.2.2)).trans ?_
  refine (ys4 30 (v := .ref (p + 0)) rfl rfl rfl rfl).trans ?_
  refine (ygr 33 rfl hL.2.1 rfl hL.2.2.2.2.1).trans ?_
  refine (ys4 34 (v := .int (nI k)) rfl rfl rfl rfl).trans ?_
  refine (yc2 37 rfl rfl (Nat.le_of_ble_eq_true rfl) (Or.inr (by show ztg (zwi _ _) _ = _; rw [ztg_wi]; exact (zWS.tag hL.2.2.2.2.2.2.1 (o := 0) (by decide) rfl))) rfl rfl (c_at4n hL.2.2.2.2.2.2.1 (Nat.lt_of_lt_of_le hk hG.1.2.2.2.2.2.2.2.1))).trans ?_
  refine (yg 40 rfl (zWS.tag hL.2.2.2.2.2.2.1 (o := 49 + 3 * k) (zwT_4 _ (Nat.lt_of_lt_of_le hk hG.1.2.2.2.2.2.2.2.1)).2.2.2.2 (zwT_4 _ (Nat.lt_of_lt_of_le hk hG.1.2.2.2.2.2.2.2.1)).1) (zWS.ni hL.2.2.2.2.2.2.1 (o := 49 + 3 * k) (zwT_4 _ (Nat.lt_of_lt_of_le hk hG.1.2.2.2.2.2.2.2.1)).2.2.2.2 (zwT_4 _ (Nat.lt_of_lt_of_le hk hG.1.2.2.2.2.2.2.2.1)).2.1) (by decide) rfl (zpc_at2 hL.2.2.2.2.2.2.2.2.1 (o := 49 + 3 * k) (zpk_4 _ (Nat.lt_of_lt_of_le hk hG.1.2.2.2.2.2.2.2.1)) (zwT_4 _ (Nat.lt_of_lt_of_le hk hG.1.2.2.2.2.2.2.2.1)).2.2.2.2)).trans ?_
  refine (ys1 41 (x := (-1)) rfl rfl rfl).trans ?_
  refine (ys7_5 42 rfl rfl).trans ?_
  refine (ys7_3 43 rfl rfl).trans ?_
  refine (ys36 rfl rfl).trans ?_
  rw [show vdep V U nl np nh nk k = (((U2 4 k 3) &&& ((V 4 k 3) ^^^ (-1))), U2) from by subst hU2 hU1; unfold vdep; (try dsimp only); first | done | rfl]; (first | done | rfl)

theorem vdep_Z {V U : zV} {nl np nh nk k : Nat} (hG : zWG V nl np nh nk) (hZ : zSZ U) : zSZ (vdep V U nl np nh nk k).2 := by
  unfold vdep
  dsimp only
  exact zSZ_cg (zSZ_cpW hG hZ) (zSm_slL _ _ _).2

def vdoL (V : zV) (nl : Nat) (np : Nat) (nh : Nat) (nk : Nat) (k : Nat) (x : Int32) : Nat → Nat → zV → Int32 × zV
  | 0, i, U =>
    ((-1), U)
  | m + 1, i, U =>
    let U1 := vcpW U V nl np nh nk
    let U2 := vkf V k x (nI i) U1
    let r3 := vhtL nl np nh nk k ((V 4 k 2) + 1) (Int32.toNatClampNeg 100) 0 U2
    if r3.1 < 0 then
      vdoL V nl np nh nk k x m (i + 1) r3.2
    else
      (nI i, r3.2)

theorem l_dou {d c sl : Nat} {p r n s : Nat} {V : zV} {J : zFn} {μ : zM} (hL : zLC μ p r n s) {nl np nh nk : Nat} (hG : zWG V nl np nh nk) {k : Nat} (hk : k < nk) {x : Int32} {z : Nat} (hz : z < 64) : ∀ (m i : Nat) (U : zV), zSZ U → i + m = z + 1 → zden1 (d + 9) (zden zcds (d + 9)) zc19 (54, [(5, .int (nI i)), (4, .int (nI z)), (3, .int (x)), (2, .ref (n + (49 + 3 * k))), (0, .ref (p + 0)), (1, .int (nI k))], [], c, sl, zwi μ (zpc (zpc J n V) s U)) = some (0, some (.int ((vdoL V nl np nh nk k x m i U).1)), c, sl, zwi μ (zpc (zpc J n V) s ((vdoL V nl np nh nk k x m i U).2)))
  | 0, i, U, hZ, e => by
    refine (ys4 56 (v := .int (nI i)) rfl rfl rfl rfl).trans ?_
    refine (ys4 58 (v := .int (nI z)) rfl rfl rfl rfl).trans ?_
    refine ys18_4 61 rfl rfl (fun h58 => ?_) (fun h58 => absurd (nI_lt (by omega) (by omega)) h58)
    refine (ys1 106 (x := (-1)) rfl rfl rfl).trans ?_
    refine (ys36 rfl rfl).trans ?_
    rw [show vdoL V nl np nh nk k x 0 i U = ((-1), U) from by rw [vdoL]; (try dsimp only); first | done | rfl]; (first | done | rfl)
  | m + 1, i, U, hZ, e => by
    refine (ys4 56 (v := .int (nI i)) rfl rfl rfl rfl).trans ?_
    refine (ys4 58 (v := .int (nI z)) rfl rfl rfl rfl).trans ?_
    refine ys18_4 61 rfl rfl (fun h58 => absurd h58 (nI_nlt (by omega) (by omega))) (fun h58 => ?_)
    refine (ys4 62 (v := .ref (p + 0)) rfl rfl rfl rfl).trans ?_
    refine (ygr 65 rfl hL.2.1 rfl hL.2.2.2.2.2.1).trans ?_
    refine (ys4 66 (v := .ref (p + 0)) rfl rfl rfl rfl).trans ?_
    refine (ygr 69 rfl hL.2.1 rfl hL.2.2.2.2.1).trans ?_
    refine (yc2 72 rfl rfl (Nat.le_of_ble_eq_true rfl) (Or.inr (by show ztg (zwi _ _) _ = _; rw [ztg_wi]; exact (zWS.tag hL.2.2.2.2.2.2.2.1 (o := 0) (by decide) rfl))) rfl rfl (c_cpW hL.2.2.2.2.2.2.2.1 hL.2.2.2.2.2.2.1 hL.2.2.2.2.2.2.2.2.1 hG)).trans ?_
    generalize hU1 : vcpW U V nl np nh nk = U1
    have hZU1 : zSZ U1 := by rw [← hU1]; exact zSZ_cpW hG hZ
    have hFU1 : zWF U1 nl np nh nk := by rw [← hU1]; exact zWF_cpW hG hZ
    refine (ys4 73 (v := .ref (p + 0)) rfl rfl rfl rfl).trans ?_
    refine (ys4 74 (v := .ref (n + (49 + 3 * k))) rfl rfl rfl rfl).trans ?_
    refine (ys4 75 (v := .int (x)) rfl rfl rfl rfl).trans ?_
    refine (ys4 77 (v := .int (nI i)) rfl rfl rfl rfl).trans ?_
    refine (yc4 80 rfl rfl (Nat.le_of_ble_eq_true rfl) (Or.inr (by show ztg (zwi _ _) _ = _; rw [ztg_wi]; exact hL.2.1)) rfl rfl (c_kf hL hG hk)).trans ?_
    generalize hU2 : vkf V k x (nI i) U1 = U2
    have hZU2 : zSZ U2 := by rw [← hU2]; exact vkf_Z _ _ _ hZU1
    have hFU2 : zWF U2 nl np nh nk := by rw [← hU2]; exact vkf_F _ _ _ hFU1
    refine (ys4 81 (v := .ref (p + 0)) rfl rfl rfl rfl).trans ?_
    refine (ys4 82 (v := .int (nI k)) rfl rfl rfl rfl).trans ?_
    refine (ys4 83 (v := .ref (n + (49 + 3 * k))) rfl rfl rfl rfl).trans ?_
    refine (yg 86 rfl (zWS.tag hL.2.2.2.2.2.2.1 (o := 49 + 3 * k) (zwT_4 _ (Nat.lt_of_lt_of_le hk hG.1.2.2.2.2.2.2.2.1)).2.2.2.2 (zwT_4 _ (Nat.lt_of_lt_of_le hk hG.1.2.2.2.2.2.2.2.1)).1) (zWS.ni hL.2.2.2.2.2.2.1 (o := 49 + 3 * k) (zwT_4 _ (Nat.lt_of_lt_of_le hk hG.1.2.2.2.2.2.2.2.1)).2.2.2.2 (zwT_4 _ (Nat.lt_of_lt_of_le hk hG.1.2.2.2.2.2.2.2.1)).2.1) (by decide) rfl (zpc_at2 hL.2.2.2.2.2.2.2.2.1 (o := 49 + 3 * k) (zpk_4 _ (Nat.lt_of_lt_of_le hk hG.1.2.2.2.2.2.2.2.1)) (zwT_4 _ (Nat.lt_of_lt_of_le hk hG.1.2.2.2.2.2.2.2.1)).2.2.2.2)).trans ?_
    refine (ys1 87 (x := 1) rfl rfl rfl).trans ?_
    refine (ys7_0 88 rfl rfl).trans ?_
    refine (ys1 90 (x := 100) rfl rfl rfl).trans ?_
    refine (yc4 93 rfl rfl (Nat.le_of_ble_eq_true rfl) (Or.inr (by show ztg (zwi _ _) _ = _; rw [ztg_wi]; exact hL.2.1)) rfl rfl (c_hts hL hFU2 (Nat.lt_of_lt_of_le hk hG.1.2.2.2.2.2.2.2.1))).trans ?_
    generalize hr3 : vhtL nl np nh nk k ((V 4 k 2) + 1) (Int32.toNatClampNeg 100) 0 U2 = r3
    have hZr32 : zSZ r3.2 := by rw [← hr3]; exact vhtL_Z _ _ _ hZU2
    have hFr32 : zWF r3.2 nl np nh nk := by rw [← hr3]; exact vhtL_F _ _ _ hFU2
    refine ys17_2 96 rfl rfl (fun h93 => ?_) (fun h93 => ?_)
    · refine (ys6 102 (y := nI (i + 1)) (L2 := [(5, .int (nI (i + 1))), (4, .int (nI z)), (3, .int (x)), (2, .ref (n + (49 + 3 * k))), (0, .ref (p + 0)), (1, .int (nI k))]) rfl rfl (nI_1 _) rfl rfl).trans ?_
      refine (ys19 rfl).trans ?_
      rw [show vdoL V nl np nh nk k x (m + 1) i U = vdoL V nl np nh nk k x m (i + 1) r3.2 from by subst hr3 hU2 hU1; rw [vdoL]; (try dsimp only); rw [if_pos h93]]; exact l_dou hL hG hk hz m (i + 1)  r3.2  hZr32 (by omega)
    · refine (ys4 98 (v := .int (nI i)) rfl rfl rfl rfl).trans ?_
      refine (ys36 rfl rfl).trans ?_
      rw [show vdoL V nl np nh nk k x (m + 1) i U = (nI i, r3.2) from by subst hr3 hU2 hU1; rw [vdoL]; (try dsimp only); rw [if_neg h93]]; (first | done | rfl)

def adou (V : zV) (U : zV) (nl : Nat) (np : Nat) (nh : Nat) (nk : Nat) (k : Nat) : Int32 × zV :=
  if (varr V k) = 0 then
    let r1 := vdep V U nl np nh nk k
    vdoL V nl np nh nk k r1.1 (vbc r1.1).toNatClampNeg 1 r1.2
  else
    (0, U)

theorem c_dou {d : Nat} {p r n s : Nat} {V U : zV} {J : zFn} {μ : zM} (hL : zLC μ p r n s) {nl np nh nk : Nat} (hG : zWG V nl np nh nk) (hZ : zSZ U) {k : Nat} (hk : k < nk) : zden zcds (d + 10) 19 [.ref (p + 0), .int (nI k)] (zwi μ (zpc (zpc J n V) s U)) = some (0, some (.int ((adou V U nl np nh nk k).1)), 0, 0, zwi μ (zpc (zpc J n V) s ((adou V U nl np nh nk k).2))) := by
  refine (zd_in (d := d + 9) (cd := zc19) (nL := 6) (L := [(0, .ref (p + 0)), (1, .int (nI k))]) rfl (Nat.le_of_ble_eq_true rfl) rfl).trans ?_
  refine (ys4 1 (v := .ref (p + 0)) rfl rfl rfl rfl).trans ?_
  refine (ygr 4 rfl hL.2.1 rfl hL.2.2.2.2.1).trans ?_
  refine (ys4 5 (v := .int (nI k)) rfl rfl rfl rfl).trans ?_
  refine (yc2 8 rfl rfl (Nat.le_of_ble_eq_true rfl) (Or.inr (by show ztg (zwi _ _) _ = _; rw [ztg_wi]; exact (zWS.tag hL.2.2.2.2.2.2.1 (o := 0) (by decide) rfl))) rfl rfl (lnw hL.2.2.2.2.2.2.2.2.1 (fun _ => c_has3 hL.2.2.2.2.2.2.1))).trans ?_
  refine ys17_1 11 rfl rfl (fun h8 => absurd h8 (vhas_ne hG.1.2.2.2.2.2.2.1 (by have := hG.1.2.2.2.2.2.2.2.1; omega) hk)) (fun h8 => ?_)
  refine (ys4 22 (v := .ref (p + 0)) rfl rfl rfl rfl).trans ?_
  refine (ygr 25 rfl hL.2.1 rfl hL.2.2.2.2.1).trans ?_
  refine (ys4 26 (v := .int (nI k)) rfl rfl rfl rfl).trans ?_
  refine (yc2 29 rfl rfl (Nat.le_of_ble_eq_true rfl) (Or.inr (by show ztg (zwi _ _) _ = _; rw [ztg_wi]; exact (zWS.tag hL.2.2.2.2.2.2.1 (o := 0) (by decide) rfl))) rfl rfl (c_at4n hL.2.2.2.2.2.2.1 (Nat.lt_of_lt_of_le hk hG.1.2.2.2.2.2.2.2.1))).trans ?_
  refine (ys5 30 (L2 := [(2, .ref (n + (49 + 3 * k))), (0, .ref (p + 0)), (1, .int (nI k))]) rfl rfl rfl rfl).trans ?_
  refine (ys4 31 (v := .ref (n + (49 + 3 * k))) rfl rfl rfl rfl).trans ?_
  refine (yc1 34 rfl rfl (Nat.le_of_ble_eq_true rfl) (Or.inr (by show ztg (zwi _ _) _ = _; rw [ztg_wi]; exact (zWS.tag hL.2.2.2.2.2.2.1 (o := 49 + 3 * k) (zwT_4 _ (Nat.lt_of_lt_of_le hk hG.1.2.2.2.2.2.2.2.1)).2.2.2.2 (zwT_4 _ (Nat.lt_of_lt_of_le hk hG.1.2.2.2.2.2.2.2.1)).1))) rfl rfl (lnw hL.2.2.2.2.2.2.2.2.1 (fun _ => c_arr hL.2.2.2.2.2.2.1 (Nat.lt_of_lt_of_le hk hG.1.2.2.2.2.2.2.2.1)))).trans ?_
  refine ys17_0 37 rfl rfl (fun h34 => ?_) (fun h34 => ?_)
  · refine (ys4 40 (v := .ref (p + 0)) rfl rfl rfl rfl).trans ?_
    refine (ys4 41 (v := .int (nI k)) rfl rfl rfl rfl).trans ?_
    refine (yc2 44 rfl rfl (Nat.le_of_ble_eq_true rfl) (Or.inr (by show ztg (zwi _ _) _ = _; rw [ztg_wi]; exact hL.2.1)) rfl rfl (c_dep hL hG hZ hk)).trans ?_
    generalize hr1 : vdep V U nl np nh nk k = r1
    have hZr12 : zSZ r1.2 := by rw [← hr1]; exact vdep_Z hG hZ
    refine (ys5 45 (L2 := [(3, .int (r1.1)), (2, .ref (n + (49 + 3 * k))), (0, .ref (p + 0)), (1, .int (nI k))]) rfl rfl rfl rfl).trans ?_
    refine (ys4 46 (v := .int (r1.1)) rfl rfl rfl rfl).trans ?_
    refine (yc1 49 rfl rfl (Nat.le_of_ble_eq_true rfl) (Or.inl rfl) rfl rfl (c_bc (I := zpc (zpc J n V) s r1.2))).trans ?_
    rw [show (vbc r1.1) = nI (vbc r1.1).toNatClampNeg from (by obtain ⟨j, hj, e⟩ := vbc_le r1.1; rw [e, nI_clamp (by omega)])]
    refine (ys5 51 (L2 := [(4, .int (nI (vbc r1.1).toNatClampNeg)), (3, .int (r1.1)), (2, .ref (n + (49 + 3 * k))), (0, .ref (p + 0)), (1, .int (nI k))]) rfl rfl rfl rfl).trans ?_
    have hz : (vbc r1.1).toNatClampNeg < 64 := by obtain ⟨j, hj, e⟩ := vbc_le r1.1; rw [e, nI_clamp (by omega)]; exact hj
    refine (ys1 52 (x := nI 1) rfl rfl rfl).trans ?_
    refine (ys5 54 (L2 := [(5, .int (nI 1)), (4, .int (nI (vbc r1.1).toNatClampNeg)), (3, .int (r1.1)), (2, .ref (n + (49 + 3 * k))), (0, .ref (p + 0)), (1, .int (nI k))]) rfl rfl rfl rfl).trans ?_
    rw [show adou V U nl np nh nk k = vdoL V nl np nh nk k r1.1 (vbc r1.1).toNatClampNeg 1 r1.2 from by subst hr1; unfold adou; (try dsimp only); rw [if_pos h34]]; exact l_dou hL hG hk (z := (vbc r1.1).toNatClampNeg) hz (vbc r1.1).toNatClampNeg 1 _ hZr12 (by omega)
  · refine (ys1 38 (x := 0) rfl rfl rfl).trans ?_
    refine (ys36 rfl rfl).trans ?_
    rw [show adou V U nl np nh nk k = (0, U) from by unfold adou; (try dsimp only); rw [if_neg h34]]; (first | done | rfl)

def vneL (V : zV) (U : zV) : Nat → Nat → Int32 → Int32 → Int32
  | 0, i, a, b =>
    b
  | m + 1, i, a, b =>
    if (varr U i) = 0 then
      if ((V 4 i 0) - (V 4 i 2)) ≤ a then
        vneL V U m (i + 1) a b
      else
        vneL V U m (i + 1) ((V 4 i 0) - (V 4 i 2)) (nI i)
    else
      vneL V U m (i + 1) a b

theorem l_nee {d c sl : Nat} {p r n s : Nat} {V U : zV} {J : zFn} {μ : zM} (hL : zLC μ p r n s) {nl np nh nk : Nat} (hG : zWG V nl np nh nk) : ∀ (m i : Nat) (a : Int32) (b : Int32), i + m = nk → zden1 (d + 8) (zden zcds (d + 8)) zc22 (13, [(3, .int (nI i)), (2, .int (a)), (1, .int (b)), (0, .ref (p + 0))], [], c, sl, zwi μ (zpc (zpc J n V) s U)) = some (0, some (.int ((vneL V U m i a b))), c, sl, zwi μ (zpc (zpc J n V) s U))
  | 0, i, a, b, e => by
    refine (ys4 14 (v := .int (nI i)) rfl rfl rfl rfl).trans ?_
    refine (ys4 15 (v := .ref (p + 0)) rfl rfl rfl rfl).trans ?_
    refine (ygr 18 rfl hL.2.1 rfl hL.2.2.2.2.1).trans ?_
    refine (yg 21 rfl (zWS.tag hL.2.2.2.2.2.2.1 (o := 0) (by decide) rfl) (zWS.ni hL.2.2.2.2.2.2.1 (o := 0) (by decide) rfl) (by decide) rfl (zpc_at2 hL.2.2.2.2.2.2.2.2.1 (o := 0) (q := 0) (i := 0) rfl (by decide))).trans ?_
    refine ys18_3 24 rfl rfl (fun h21 => ?_) (fun h21 => absurd (by rw [hG.1.2.2.2.2.2.2.1]; exact nI_le (by omega) (by have := hG.1.2.2.2.2.2.2.2.1; omega)) h21)
    refine (ys4 79 (v := .int (b)) rfl rfl rfl rfl).trans ?_
    refine (ys36 rfl rfl).trans ?_
    rw [show vneL V U 0 i a b = b from by rw [vneL]; (try dsimp only); first | done | rfl]; (first | done | rfl)
  | m + 1, i, a, b, e => by
    have hi : i < 12 := by have := hG.1.2.2.2.2.2.2.2.1; omega
    refine (ys4 14 (v := .int (nI i)) rfl rfl rfl rfl).trans ?_
    refine (ys4 15 (v := .ref (p + 0)) rfl rfl rfl rfl).trans ?_
    refine (ygr 18 rfl hL.2.1 rfl hL.2.2.2.2.1).trans ?_
    refine (yg 21 rfl (zWS.tag hL.2.2.2.2.2.2.1 (o := 0) (by decide) rfl) (zWS.ni hL.2.2.2.2.2.2.1 (o := 0) (by decide) rfl) (by decide) rfl (zpc_at2 hL.2.2.2.2.2.2.2.2.1 (o := 0) (q := 0) (i := 0) rfl (by decide))).trans ?_
    refine ys18_3 24 rfl rfl (fun h21 => absurd h21 (by rw [hG.1.2.2.2.2.2.2.1]; exact nI_ge (by omega) (by have := hG.1.2.2.2.2.2.2.2.1; omega))) (fun h21 => ?_)
    refine (ys4 25 (v := .ref (p + 0)) rfl rfl rfl rfl).trans ?_
    refine (ygr 28 rfl hL.2.1 rfl hL.2.2.2.2.1).trans ?_
    refine (ys4 29 (v := .int (nI i)) rfl rfl rfl rfl).trans ?_
    refine (yc2 32 rfl rfl (Nat.le_of_ble_eq_true rfl) (Or.inr (by show ztg (zwi _ _) _ = _; rw [ztg_wi]; exact (zWS.tag hL.2.2.2.2.2.2.1 (o := 0) (by decide) rfl))) rfl rfl (c_at4n hL.2.2.2.2.2.2.1 hi)).trans ?_
    refine (ys5 34 (L2 := [(4, .ref (n + (49 + 3 * i))), (3, .int (nI i)), (2, .int (a)), (1, .int (b)), (0, .ref (p + 0))]) rfl rfl rfl rfl).trans ?_
    refine (ys4 36 (v := .ref (n + (49 + 3 * i))) rfl rfl rfl rfl).trans ?_
    refine (yg 39 rfl (zWS.tag hL.2.2.2.2.2.2.1 (o := 49 + 3 * i) (zwT_4 _ hi).2.2.2.2 (zwT_4 _ hi).1) (zWS.ni hL.2.2.2.2.2.2.1 (o := 49 + 3 * i) (zwT_4 _ hi).2.2.2.2 (zwT_4 _ hi).2.1) (by decide) rfl (zpc_at2 hL.2.2.2.2.2.2.2.2.1 (o := 49 + 3 * i) (zpk_4 _ hi) (zwT_4 _ hi).2.2.2.2)).trans ?_
    refine (ys4 41 (v := .ref (n + (49 + 3 * i))) rfl rfl rfl rfl).trans ?_
    refine (yg 44 rfl (zWS.tag hL.2.2.2.2.2.2.1 (o := 49 + 3 * i) (zwT_4 _ hi).2.2.2.2 (zwT_4 _ hi).1) (zWS.ni hL.2.2.2.2.2.2.1 (o := 49 + 3 * i) (zwT_4 _ hi).2.2.2.2 (zwT_4 _ hi).2.1) (by decide) rfl (zpc_at2 hL.2.2.2.2.2.2.2.2.1 (o := 49 + 3 * i) (zpk_4 _ hi) (zwT_4 _ hi).2.2.2.2)).trans ?_
    refine (ys7_1 45 rfl rfl).trans ?_
    refine (ys5 47 (L2 := [(5, .int (((V 4 i 0) - (V 4 i 2)))), (4, .ref (n + (49 + 3 * i))), (3, .int (nI i)), (2, .int (a)), (1, .int (b)), (0, .ref (p + 0))]) rfl rfl rfl rfl).trans ?_
    refine (ys4 48 (v := .ref (p + 0)) rfl rfl rfl rfl).trans ?_
    refine (ygr 51 rfl hL.2.1 rfl hL.2.2.2.2.2.1).trans ?_
    refine (ys4 52 (v := .int (nI i)) rfl rfl rfl rfl).trans ?_
    refine (yc2 55 rfl rfl (Nat.le_of_ble_eq_true rfl) (Or.inr (by show ztg (zwi _ _) _ = _; rw [ztg_wi]; exact (zWS.tag hL.2.2.2.2.2.2.2.1 (o := 0) (by decide) rfl))) rfl rfl (c_at4n hL.2.2.2.2.2.2.2.1 hi)).trans ?_
    refine (yc1 58 rfl rfl (Nat.le_of_ble_eq_true rfl) (Or.inr (by show ztg (zwi _ _) _ = _; rw [ztg_wi]; exact (zWS.tag hL.2.2.2.2.2.2.2.1 (o := 49 + 3 * i) (zwT_4 _ hi).2.2.2.2 (zwT_4 _ hi).1))) rfl rfl (c_arr hL.2.2.2.2.2.2.2.1 hi)).trans ?_
    refine ys17_1 61 rfl rfl (fun h58 => ?_) (fun h58 => ?_)
    · refine (ys4 63 (v := .int (((V 4 i 0) - (V 4 i 2)))) rfl rfl rfl rfl).trans ?_
      refine (ys4 64 (v := .int (a)) rfl rfl rfl rfl).trans ?_
      refine ys18_5 67 rfl rfl (fun h64 => ?_) (fun h64 => ?_)
      · refine (ys6 75 (y := nI (i + 1)) (L2 := [(3, .int (nI (i + 1))), (5, .int (((V 4 i 0) - (V 4 i 2)))), (4, .ref (n + (49 + 3 * i))), (2, .int (a)), (1, .int (b)), (0, .ref (p + 0))]) rfl rfl (nI_1 _) rfl rfl).trans ?_
        refine (ys19 rfl).trans ?_
        rw [show vneL V U (m + 1) i a b = vneL V U m (i + 1) a b from by rw [vneL]; (try dsimp only); rw [if_pos h58, if_pos h64]]; refine zden1_fg (L := [(3, .int (nI (i + 1))), (2, .int (a)), (1, .int (b)), (0, .ref (p + 0))]) (zfg_cons rfl (zfg_cons rfl (zfg_cons rfl (zfg_cons rfl zfg_nil)))) ?_; exact l_nee hL hG m (i + 1) a b   (by omega)
      · refine (ys4 69 (v := .int (((V 4 i 0) - (V 4 i 2)))) rfl rfl rfl rfl).trans ?_
        refine (ys5 70 (L2 := [(2, .int (((V 4 i 0) - (V 4 i 2)))), (5, .int (((V 4 i 0) - (V 4 i 2)))), (4, .ref (n + (49 + 3 * i))), (3, .int (nI i)), (1, .int (b)), (0, .ref (p + 0))]) rfl rfl rfl rfl).trans ?_
        refine (ys4 71 (v := .int (nI i)) rfl rfl rfl rfl).trans ?_
        refine (ys5 72 (L2 := [(1, .int (nI i)), (2, .int (((V 4 i 0) - (V 4 i 2)))), (5, .int (((V 4 i 0) - (V 4 i 2)))), (4, .ref (n + (49 + 3 * i))), (3, .int (nI i)), (0, .ref (p + 0))]) rfl rfl rfl rfl).trans ?_
        refine (ys6 75 (y := nI (i + 1)) (L2 := [(3, .int (nI (i + 1))), (1, .int (nI i)), (2, .int (((V 4 i 0) - (V 4 i 2)))), (5, .int (((V 4 i 0) - (V 4 i 2)))), (4, .ref (n + (49 + 3 * i))), (0, .ref (p + 0))]) rfl rfl (nI_1 _) rfl rfl).trans ?_
        refine (ys19 rfl).trans ?_
        rw [show vneL V U (m + 1) i a b = vneL V U m (i + 1) ((V 4 i 0) - (V 4 i 2)) (nI i) from by rw [vneL]; (try dsimp only); rw [if_pos h58, if_neg h64]]; refine zden1_fg (L := [(3, .int (nI (i + 1))), (2, .int (((V 4 i 0) - (V 4 i 2)))), (1, .int (nI i)), (0, .ref (p + 0))]) (zfg_cons rfl (zfg_cons rfl (zfg_cons rfl (zfg_cons rfl zfg_nil)))) ?_; exact l_nee hL hG m (i + 1) ((V 4 i 0) - (V 4 i 2)) (nI i)   (by omega)
    · refine (ys6 75 (y := nI (i + 1)) (L2 := [(3, .int (nI (i + 1))), (5, .int (((V 4 i 0) - (V 4 i 2)))), (4, .ref (n + (49 + 3 * i))), (2, .int (a)), (1, .int (b)), (0, .ref (p + 0))]) rfl rfl (nI_1 _) rfl rfl).trans ?_
      refine (ys19 rfl).trans ?_
      rw [show vneL V U (m + 1) i a b = vneL V U m (i + 1) a b from by rw [vneL]; (try dsimp only); rw [if_neg h58]]; refine zden1_fg (L := [(3, .int (nI (i + 1))), (2, .int (a)), (1, .int (b)), (0, .ref (p + 0))]) (zfg_cons rfl (zfg_cons rfl (zfg_cons rfl (zfg_cons rfl zfg_nil)))) ?_; exact l_nee hL hG m (i + 1) a b   (by omega)

def anee (V : zV) (U : zV) (nl : Nat) (np : Nat) (nh : Nat) (nk : Nat) : Int32 × zV :=
  let U1 := ala V U nl np nh nk 300
  (vneL V U1 nk 0 0 (-1), U1)

theorem c_nee {d : Nat} {p r n s : Nat} {V U : zV} {J : zFn} {μ : zM} (hL : zLC μ p r n s) {nl np nh nk : Nat} (hG : zWG V nl np nh nk) (hZ : zSZ U) : zden zcds (d + 9) 22 [.ref (p + 0)] (zwi μ (zpc (zpc J n V) s U)) = some (0, some (.int ((anee V U nl np nh nk).1)), 0, 0, zwi μ (zpc (zpc J n V) s ((anee V U nl np nh nk).2))) := by
  refine (zd_in (d := d + 8) (cd := zc22) (nL := 6) (L := [(0, .ref (p + 0))]) rfl (Nat.le_of_ble_eq_true rfl) rfl).trans ?_
  refine (ys4 1 (v := .ref (p + 0)) rfl rfl rfl rfl).trans ?_
  refine (ys1 4 (x := nI 300) rfl rfl rfl).trans ?_
  refine (yc2 7 rfl rfl (Nat.le_of_ble_eq_true rfl) (Or.inr (by show ztg (zwi _ _) _ = _; rw [ztg_wi]; exact hL.2.1)) rfl rfl (c_loo hL hG hZ (by omega))).trans ?_
  generalize hU1 : ala V U nl np nh nk 300 = U1
  refine (ys1 8 (x := (-1)) rfl rfl rfl).trans ?_
  refine (ys5 9 (L2 := [(1, .int ((-1))), (0, .ref (p + 0))]) rfl rfl rfl rfl).trans ?_
  refine (ys1 10 (x := 0) rfl rfl rfl).trans ?_
  refine (ys5 11 (L2 := [(2, .int (0)), (1, .int ((-1))), (0, .ref (p + 0))]) rfl rfl rfl rfl).trans ?_
  refine (ys1 12 (x := nI 0) rfl rfl rfl).trans ?_
  refine (ys5 13 (L2 := [(3, .int (nI 0)), (2, .int (0)), (1, .int ((-1))), (0, .ref (p + 0))]) rfl rfl rfl rfl).trans ?_
  rw [show anee V U nl np nh nk = (vneL V U1 nk 0 0 (-1), U1) from by subst hU1; unfold anee; rfl]; exact l_nee hL hG nk 0 0 (-1) (by omega)

