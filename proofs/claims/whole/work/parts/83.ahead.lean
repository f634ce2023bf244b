/-! THE CLASS LOOKS AHEAD -/
def vpsL (nl np nh nk : Nat) : Nat → zV → zV
  | 0, V => V
  | m + 1, V => vpsL nl np nh nk m (vpass V nl np nh nk)
theorem zSm_ps (nl np nh nk : Nat) : ∀ (m : Nat) (V : zV), zSm V (vpsL nl np nh nk m V)
  | 0, V => zSm.rf V
  | m + 1, V => (zSm_pass V nl np nh nk).tr (zSm_ps nl np nh nk m _)
/-! a copy keeps the numbers of carriers within bounds -/
theorem zSZ_u {V : zV} (h : zSZ V) {q i f : Nat} {x : Int32} (h7 : q ≠ 7) : zSZ (zvu V q i f x) := fun k hk j hj => by
  rw [zvu_ne (fun e => h7 e.1.symm)]
  exact h k hk j hj
theorem zSZ_R {W U : zV} {q k N : Nat} (h7 : q ≠ 7) (h : zSZ W) (m i : Nat) : zSZ (vcpR q k N U m i W) := fun k' hk j hj => by
  rw [vcpR_ne (fun e => h7 e.1.symm)]
  exact h k' hk j hj
theorem zSZ_k {V : zV} (h : zSZ V) {i f : Nat} {x : Int32} {n : Nat} (hn : n ≤ 20) (hx : x = nI n) : zSZ (zvu V 7 i f x) := fun k hk j hj => by
  by_cases e : k = i ∧ j = f
  · obtain ⟨rfl, rfl⟩ := e
    rw [zvu_same]
    exact ⟨n, hn, hx⟩
  · rw [zvu_ne (fun q => e q.2)]
    exact h k hk j hj
theorem zSZ_T {U : zV} {k n : Nat} (hz : ∀ j, j < n → ∃ z, z ≤ 20 ∧ U 7 k j = nI z) : ∀ (m j : Nat) (V : zV), j + m ≤ n → zSZ V → zSZ (vcpT k U m j V)
  | 0, _, _, _, h => h
  | m + 1, j, V, hm, h => by
    obtain ⟨z, hz1, hz2⟩ := hz j (by omega)
    rw [vcpT]
    exact zSZ_T hz m (j + 1) _ (by omega) (zSZ_R (by decide) (zSZ_k h hz1 hz2) _ _)
theorem zSZ_cpW {V U : zV} {nl np nh nk : Nat} (hG : zWG V nl np nh nk) (hZ : zSZ U) : zSZ (vcpW U V nl np nh nk) := by
  have h0 : zSZ (vcpW0 U V) := by
    unfold vcpW0
    dsimp only
    repeat (first | exact hZ | refine zSZ_u ?_ (by decide))
  have h1 : ∀ (m i : Nat) (W : zV), zSZ W → zSZ (vcpLL V m i W) := by
    intro m
    induction m with
    | zero => intro i W h; exact h
    | succ m ih =>
      intro i W h
      rw [vcpLL]
      refine ih _ _ ?_
      unfold vcpL vcpL0
      dsimp only
      refine zSZ_R (by decide) (zSZ_R (by decide) ?_ _ _) _ _
      repeat (first | exact h | refine zSZ_u ?_ (by decide))
  have h2 : ∀ (m i : Nat) (W : zV), zSZ W → zSZ (vcpPL V m i W) := by
    intro m
    induction m with
    | zero => intro i W h; exact h
    | succ m ih =>
      intro i W h
      rw [vcpPL]
      refine ih _ _ ?_
      unfold vcpP
      dsimp only
      repeat (first | exact h | refine zSZ_u ?_ (by decide))
  have h3 : ∀ (m i : Nat) (W : zV), zSZ W → zSZ (vcpHL V m i W) := by
    intro m
    induction m with
    | zero => intro i W h; exact h
    | succ m ih =>
      intro i W h
      rw [vcpHL]
      refine ih _ _ ?_
      unfold vcpH
      dsimp only
      repeat (first | exact h | refine zSZ_u ?_ (by decide))
  have h4 : ∀ (m i : Nat) (W : zV), i + m ≤ nk → zSZ W → zSZ (vcpKL V m i W) := by
    intro m
    induction m with
    | zero => intro i W _ h; exact h
    | succ m ih =>
      intro i W hm h
      rw [vcpKL]
      refine ih _ _ (by omega) ?_
      obtain ⟨z, hz1, hz2⟩ := hG.2.2 i (by omega)
      rw [hz2, nI_clamp (by omega)]
      unfold vcpK
      refine zSZ_T (n := z) (fun j hj => hG.1.2.2.2.2.2.2.2.2 i (by omega) j (by omega)) z 0 _ (by omega) ?_
      unfold vcpK0
      dsimp only
      repeat (first | exact h | refine zSZ_u ?_ (by decide))
  unfold vcpW
  exact h4 _ _ _ (by omega) (h3 _ _ _ (h2 _ _ _ (h1 _ _ _ h0)))
theorem zS0_cpW (V U : zV) (nl np nh nk : Nat) : ∀ f, f < 4 → vcpW U V nl np nh nk 0 0 f = V 0 0 f := fun f hf => by
  unfold vcpW
  rw [zS0_KL, zS0_HL, zS0_PL, zS0_LL]
  unfold vcpW0
  match f, hf with
  | 0, _ => simp [zvu]
  | 1, _ => simp [zvu]
  | 2, _ => simp [zvu]
  | 3, _ => simp [zvu]
theorem zWF_cpW {V U : zV} {nl np nh nk : Nat} (hG : zWG V nl np nh nk) (hZ : zSZ U) : zWF (vcpW U V nl np nh nk) nl np nh nk := by
  have h := zS0_cpW V U nl np nh nk
  obtain ⟨a, b, c, e, f, g, i, j, k⟩ := hG.1
  have hs := zSZ_cpW hG hZ
  exact ⟨(h 0 (by decide)).trans a, b, (h 1 (by decide)).trans c, e, (h 2 (by decide)).trans f, g, (h 3 (by decide)).trans i, j, fun q hq => hs q (by omega)⟩
theorem vhas_ne {V : zV} {f k m : Nat} (hc : V 0 0 f = nI m) (hm : m < 2 ^ 31) (hk : k < m) : ¬ vhas V f (nI k) = 0 := by
  unfold vhas
  rw [if_neg (nI_pos (by omega)), hc, if_neg (nI_ge hk hm)]
  decide
theorem vhas_1 {V : zV} {f k m : Nat} (hc : V 0 0 f = nI m) (hm : m < 2 ^ 31) (hk : k < m) : vhas V f (nI k) = 1 := by
  unfold vhas
  rw [if_neg (nI_pos (by omega)), hc, if_neg (nI_ge hk hm)]
theorem tn_lt (y : Int32) : y.toNatClampNeg < 2 ^ 31 := by
  have h1 := Int32.toInt_lt y
  have h2 : y.toNatClampNeg = y.toInt.toNat := rfl
  omega
theorem tn_ge {y : Int32} {i : Nat} (h : i = y.toNatClampNeg) : y ≤ nI i := by
  subst h
  rcases Classical.em (y < 0) with h1 | h1
  · exact Int32.le_of_lt (Int32.lt_of_lt_of_le h1 (nI_pos' (tn_lt y)))
  · obtain ⟨j, hj, rfl⟩ := nI_of h1
    rw [nI_clamp hj]
    exact Int32.le_refl _
theorem tn_lt' {y : Int32} {i : Nat} (h : i < y.toNatClampNeg) : ¬ y ≤ nI i := by
  rcases Classical.em (y < 0) with h1 | h1
  · exfalso
    have h2 : y.toNatClampNeg = y.toInt.toNat := rfl
    rw [Int32.lt_iff_toInt_lt] at h1
    have : (0 : Int32).toInt = 0 := rfl
    omega
  · obtain ⟨j, hj, rfl⟩ := nI_of h1
    rw [nI_clamp hj] at h
    exact nI_ge h hj

def vpas (nl : Nat) (np : Nat) (nh : Nat) (nk : Nat) : Nat → Nat → zV → zV
  | 0, i, V =>
    V
  | m + 1, i, V =>
    let V1 := vpass V nl np nh nk
    vpas nl np nh nk m (i + 1) V1

theorem l_pas {d c sl : Nat} {rz : zR} {p r n s : Nat} {U : zV} {J : zFn} {μ : zM} (hL : zLC μ p r n s) {nl np nh nk : Nat} {a : Int32} {h : Nat} (hh : h < 2 ^ 31) : ∀ (m i : Nat) (V : zV), zWF V nl np nh nk → i + m = h → zden1 (d + 7) (zden zcds (d + 7)) zc12 (50, [(3, .int (nI h)), (2, .int (a)), (0, .ref (p + 0)), (1, .int (nI h))], [], c, sl, zwi μ (zpc (zpc J n ((vpas nl np nh nk m i V))) s U)) = some rz → zden1 (d + 7) (zden zcds (d + 7)) zc12 (32, [(3, .int (nI i)), (2, .int (a)), (0, .ref (p + 0)), (1, .int (nI h))], [], c, sl, zwi μ (zpc (zpc J n V) s U)) = some rz
  | 0, i, V, hF, e, hkk => by
    have ei : h = i := by omega
    subst ei
    refine (ys4 33 (v := .int (nI h)) rfl rfl rfl rfl).trans ?_
    refine (ys4 34 (v := .int (nI h)) rfl rfl rfl rfl).trans ?_
    refine ys18_3 37 rfl rfl (fun h34 => ?_) (fun h34 => absurd (nI_le (by omega) (by omega)) h34)
    rw [show vpas nl np nh nk 0 h V = V from by rw [vpas]; (try dsimp only); first | done | rfl] at hkk; exact hkk
  | m + 1, i, V, hF, e, hkk => by
    refine (ys4 33 (v := .int (nI i)) rfl rfl rfl rfl).trans ?_
    refine (ys4 34 (v := .int (nI h)) rfl rfl rfl rfl).trans ?_
    refine ys18_3 37 rfl rfl (fun h34 => absurd h34 (nI_ge (by omega) (by omega))) (fun h34 => ?_)
    refine (ys4 38 (v := .ref (p + 0)) rfl rfl rfl rfl).trans ?_
    refine (ygr 41 rfl hL.2.1 rfl hL.2.2.2.2.1).trans ?_
    refine (yc1 44 rfl rfl (Nat.le_of_ble_eq_true rfl) (Or.inr (by show ztg (zwi _ _) _ = _; rw [ztg_wi]; exact (zWS.tag hL.2.2.2.2.2.2.1 (o := 0) (by decide) rfl))) rfl rfl (lnw hL.2.2.2.2.2.2.2.2.1 (fun _ => c_pass hL.2.2.2.2.2.2.1 hF))).trans ?_
    generalize hV1 : vpass V nl np nh nk = V1
    have hFV1 : zWF V1 nl np nh nk := by rw [← hV1]; exact hF.sm (zSm_pass _ _ _ _ _)
    refine (ys6 47 (y := nI (i + 1)) (L2 := [(3, .int (nI (i + 1))), (2, .int (a)), (0, .ref (p + 0)), (1, .int (nI h))]) rfl rfl (nI_1 _) rfl rfl).trans ?_
    refine (ys19 rfl).trans ?_
    rw [show vpas nl np nh nk (m + 1) i V = vpas nl np nh nk m (i + 1) V1 from by subst hV1; rw [vpas]; (try dsimp only); first | done | rfl] at hkk; exact l_pas hL hh m (i + 1)  V1  hFV1 (by omega) hkk

theorem vpas_eq (nl np nh nk : Nat) : ∀ (m i : Nat) (V : zV), vpas nl np nh nk m i V = vpsL nl np nh nk m V
  | 0, _, _ => rfl
  | m + 1, i, V => by rw [vpas, vpsL]; exact vpas_eq nl np nh nk m (i + 1) _

def apas (V : zV) (nl : Nat) (np : Nat) (nh : Nat) (nk : Nat) (h : Nat) : Int32 × zV :=
  let V1 := vpas nl np nh nk h 0 V
  (((zcnt (fun i => if varr V1 i = 0 then false else true) nk 0 0) - (zcnt (fun i => if varr V i = 0 then false else true) nk 0 0)), V1)

theorem c_pas {d : Nat} {p r n s : Nat} {V U : zV} {J : zFn} {μ : zM} (hL : zLC μ p r n s) {nl np nh nk : Nat} (hF : zWF V nl np nh nk) {h : Nat} (h1 : 1 ≤ h) (h2 : h ≤ 200) : zden zcds (d + 8) 12 [.ref (p + 0), .int (nI h)] (zwi μ (zpc (zpc J n V) s U)) = some (0, some (.int ((apas V nl np nh nk h).1)), 0, 0, zwi μ (zpc (zpc J n ((apas V nl np nh nk h).2)) s U)) := by
  refine (zd_in (d := d + 7) (cd := zc12) (nL := 4) (L := [(0, .ref (p + 0)), (1, .int (nI h))]) rfl (Nat.le_of_ble_eq_true rfl) rfl).trans ?_
  refine (ys4 1 (v := .int (nI h)) rfl rfl rfl rfl).trans ?_
  refine (ys1 2 (x := nI 1) rfl rfl rfl).trans ?_
  refine ys18_2 5 rfl rfl (fun h2 => absurd h2 (nI_nlt (b := 1) (by omega) (by omega))) (fun h2 => ?_)
  refine (ys4 6 (v := .int (nI h)) rfl rfl rfl rfl).trans ?_
  refine (ys1 9 (x := nI 200) rfl rfl rfl).trans ?_
  refine ys18_5 12 rfl rfl (fun h9 => ?_) (fun h9 => absurd (nI_le (b := 200) (by omega) (by omega)) h9)
  refine (ys4 23 (v := .ref (p + 0)) rfl rfl rfl rfl).trans ?_
  refine (ygr 26 rfl hL.2.1 rfl hL.2.2.2.2.1).trans ?_
  refine (yc1 29 rfl rfl (Nat.le_of_ble_eq_true rfl) (Or.inr (by show ztg (zwi _ _) _ = _; rw [ztg_wi]; exact (zWS.tag hL.2.2.2.2.2.2.1 (o := 0) (by decide) rfl))) rfl rfl (lnw hL.2.2.2.2.2.2.2.2.1 (fun _ => c_al hL.2.2.2.2.2.2.1 hF))).trans ?_
  refine (ys5 30 (L2 := [(2, .int ((zcnt (fun i => if varr V i = 0 then false else true) nk 0 0))), (0, .ref (p + 0)), (1, .int (nI h))]) rfl rfl rfl rfl).trans ?_
  refine (ys1 31 (x := nI 0) rfl rfl rfl).trans ?_
  refine (ys5 32 (L2 := [(3, .int (nI 0)), (2, .int ((zcnt (fun i => if varr V i = 0 then false else true) nk 0 0))), (0, .ref (p + 0)), (1, .int (nI h))]) rfl rfl rfl rfl).trans ?_
  refine l_pas hL (by omega) h 0 V hF (by omega) ?_
  generalize hV1 : vpas nl np nh nk h 0 V = V1
  have hFV1 : zWF V1 nl np nh nk := by rw [← hV1]; exact (by rw [vpas_eq]; exact hF.sm (zSm_ps _ _ _ _ _ _))
  refine (ys4 51 (v := .ref (p + 0)) rfl rfl rfl rfl).trans ?_
  refine (ygr 54 rfl hL.2.1 rfl hL.2.2.2.2.1).trans ?_
  refine (yc1 57 rfl rfl (Nat.le_of_ble_eq_true rfl) (Or.inr (by show ztg (zwi _ _) _ = _; rw [ztg_wi]; exact (zWS.tag hL.2.2.2.2.2.2.1 (o := 0) (by decide) rfl))) rfl rfl (lnw hL.2.2.2.2.2.2.2.2.1 (fun _ => c_al hL.2.2.2.2.2.2.1 hFV1))).trans ?_
  refine (ys4 58 (v := .int ((zcnt (fun i => if varr V i = 0 then false else true) nk 0 0))) rfl rfl rfl rfl).trans ?_
  refine (ys7_1 59 rfl rfl).trans ?_
  refine (ys36 rfl rfl).trans ?_
  rw [show apas V nl np nh nk h = (((zcnt (fun i => if varr V1 i = 0 then false else true) nk 0 0) - (zcnt (fun i => if varr V i = 0 then false else true) nk 0 0)), V1) from by subst hV1; unfold apas; (try dsimp only); first | done | rfl]; (first | done | rfl)

def vlaL (nl : Nat) (np : Nat) (nh : Nat) (nk : Nat) : Nat → Nat → zV → zV
  | 0, i, U =>
    U
  | m + 1, i, U =>
    if (vq1 U nk np 0) = 0 then
      let U1 := vpass U nl np nh nk
      vlaL nl np nh nk m (i + 1) U1
    else
      U

theorem l_loo {d c sl : Nat} {p r n s : Nat} {V : zV} {J : zFn} {μ : zM} (hL : zLC μ p r n s) {nl np nh nk : Nat} {h : Nat} (hh : h < 2 ^ 31) : ∀ (m i : Nat) (U : zV), zWF U nl np nh nk → i + m = h → zden1 (d + 7) (zden zcds (d + 7)) zc14 (13, [(2, .int (nI i)), (0, .ref (p + 0)), (1, .int (nI h))], [], c, sl, zwi μ (zpc (zpc J n V) s U)) = some (0, none, c, sl, zwi μ (zpc (zpc J n V) s ((vlaL nl np nh nk m i U))))
  | 0, i, U, hFU, e => by
    refine (ys4 14 (v := .int (nI i)) rfl rfl rfl rfl).trans ?_
    refine (ys4 15 (v := .int (nI h)) rfl rfl rfl rfl).trans ?_
    refine ys18_3 18 rfl rfl (fun h15 => ?_) (fun h15 => absurd (nI_le (by omega) (by omega)) h15)
    refine (ys36v rfl rfl).trans ?_
    rw [show vlaL nl np nh nk 0 i U = U from by rw [vlaL]; (try dsimp only); first | done | rfl]; (first | done | rfl)
  | m + 1, i, U, hFU, e => by
    refine (ys4 14 (v := .int (nI i)) rfl rfl rfl rfl).trans ?_
    refine (ys4 15 (v := .int (nI h)) rfl rfl rfl rfl).trans ?_
    refine ys18_3 18 rfl rfl (fun h15 => absurd h15 (nI_ge (by omega) (by omega))) (fun h15 => ?_)
    refine (ys4 19 (v := .ref (p + 0)) rfl rfl rfl rfl).trans ?_
    refine (ygr 22 rfl hL.2.1 rfl hL.2.2.2.2.2.1).trans ?_
    refine (yc1 25 rfl rfl (Nat.le_of_ble_eq_true rfl) (Or.inr (by show ztg (zwi _ _) _ = _; rw [ztg_wi]; exact (zWS.tag hL.2.2.2.2.2.2.2.1 (o := 0) (by decide) rfl))) rfl rfl (c_quiet hL.2.2.2.2.2.2.2.1 hFU)).trans ?_
    refine ys17_1 28 rfl rfl (fun h25 => ?_) (fun h25 => ?_)
    · refine (ys4 29 (v := .ref (p + 0)) rfl rfl rfl rfl).trans ?_
      refine (ygr 32 rfl hL.2.1 rfl hL.2.2.2.2.2.1).trans ?_
      refine (yc1 35 rfl rfl (Nat.le_of_ble_eq_true rfl) (Or.inr (by show ztg (zwi _ _) _ = _; rw [ztg_wi]; exact (zWS.tag hL.2.2.2.2.2.2.2.1 (o := 0) (by decide) rfl))) rfl rfl (c_pass hL.2.2.2.2.2.2.2.1 hFU)).trans ?_
      generalize hU1 : vpass U nl np nh nk = U1
      have hFU1 : zWF U1 nl np nh nk := by rw [← hU1]; exact hFU.sm (zSm_pass _ _ _ _ _)
      refine (ys6 38 (y := nI (i + 1)) (L2 := [(2, .int (nI (i + 1))), (0, .ref (p + 0)), (1, .int (nI h))]) rfl rfl (nI_1 _) rfl rfl).trans ?_
      refine (ys19 rfl).trans ?_
      rw [show vlaL nl np nh nk (m + 1) i U = vlaL nl np nh nk m (i + 1) U1 from by subst hU1; rw [vlaL]; (try dsimp only); rw [if_pos h25]]; exact l_loo hL hh m (i + 1)  U1  hFU1 (by omega)
    · refine (ys36v rfl rfl).trans ?_
      rw [show vlaL nl np nh nk (m + 1) i U = U from by rw [vlaL]; (try dsimp only); rw [if_neg h25]]; (first | done | rfl)

def ala (V : zV) (U : zV) (nl : Nat) (np : Nat) (nh : Nat) (nk : Nat) (h : Nat) : zV :=
  let U1 := vcpW U V nl np nh nk
  vlaL nl np nh nk h 0 U1

theorem c_loo {d : Nat} {p r n s : Nat} {V U : zV} {J : zFn} {μ : zM} (hL : zLC μ p r n s) {nl np nh nk : Nat} (hG : zWG V nl np nh nk) (hZ : zSZ U) {h : Nat} (hh : h < 2 ^ 31) : zden zcds (d + 8) 14 [.ref (p + 0), .int (nI h)] (zwi μ (zpc (zpc J n V) s U)) = some (0, none, 0, 0, zwi μ (zpc (zpc J n V) s ((ala V U nl np nh nk h)))) := by
  refine (zd_in (d := d + 7) (cd := zc14) (nL := 3) (L := [(0, .ref (p + 0)), (1, .int (nI h))]) rfl (Nat.le_of_ble_eq_true rfl) rfl).trans ?_
  refine (ys4 1 (v := .ref (p + 0)) rfl rfl rfl rfl).trans ?_
  refine (ygr 4 rfl hL.2.1 rfl hL.2.2.2.2.2.1).trans ?_
  refine (ys4 5 (v := .ref (p + 0)) rfl rfl rfl rfl).trans ?_
  refine (ygr 8 rfl hL.2.1 rfl hL.2.2.2.2.1).trans ?_
  refine (yc2 11 rfl rfl (Nat.le_of_ble_eq_true rfl) (Or.inr (by show ztg (zwi _ _) _ = _; rw [ztg_wi]; exact (zWS.tag hL.2.2.2.2.2.2.2.1 (o := 0) (by decide) rfl))) rfl rfl (c_cpW hL.2.2.2.2.2.2.2.1 hL.2.2.2.2.2.2.1 hL.2.2.2.2.2.2.2.2.1 hG)).trans ?_
  generalize hU1 : vcpW U V nl np nh nk = U1
  have hFU1 : zWF U1 nl np nh nk := by rw [← hU1]; exact zWF_cpW hG hZ
  refine (ys1 12 (x := nI 0) rfl rfl rfl).trans ?_
  refine (ys5 13 (L2 := [(2, .int (nI 0)), (0, .ref (p + 0)), (1, .int (nI h))]) rfl rfl rfl rfl).trans ?_
  rw [show ala V U nl np nh nk h = vlaL nl np nh nk h 0 U1 from by subst hU1; unfold ala; rfl]; exact l_loo hL hh h 0 _ hFU1 (by omega)

theorem vlaL_F {nl np nh nk : Nat} : ∀ (m i : Nat) (U : zV), zWF U nl np nh nk → zWF (vlaL nl np nh nk m i U) nl np nh nk
  | 0, _, _, h => h
  | m + 1, i, U, h => by
    rw [vlaL]
    dsimp only
    split
    · exact vlaL_F m _ _ (h.sm (zSm_pass _ _ _ _ _))
    · exact h
theorem ala_F {V U : zV} {nl np nh nk h : Nat} (hG : zWG V nl np nh nk) (hZ : zSZ U) : zWF (ala V U nl np nh nk h) nl np nh nk := by
  unfold ala
  exact vlaL_F _ _ _ (zWF_cpW hG hZ)

def afor (V : zV) (U : zV) (nl : Nat) (np : Nat) (nh : Nat) (nk : Nat) (h : Nat) (x : Int32) : Nat × Int32 × zV :=
  if x < 0 then
    (1, 0, U)
  else
    if x ≤ 2 then
      let U1 := ala V U nl np nh nk h
      if x = 0 then
        (0, (zcnt (fun i => if varr U1 i = 0 then false else true) nk 0 0), U1)
      else
        if x = 1 then
          (0, (zcnt (fun i => if vlost U1 i np = 0 then false else true) nk 0 0), U1)
        else
          (0, (vpthL U1 2 np 0 0), U1)
    else
      (1, 0, U)

theorem c_for {d : Nat} {p r n s : Nat} {V U : zV} {J : zFn} {μ : zM} (hL : zLC μ p r n s) {nl np nh nk : Nat} (hG : zWG V nl np nh nk) (hZ : zSZ U) {h : Nat} (h1 : 1 ≤ h) (h2 : h ≤ 200) {x : Int32} : zden zcds (d + 9) 13 [.ref (p + 0), .int (nI h), .int (x)] (zwi μ (zpc (zpc J n V) s U)) = some (zrs ((afor V U nl np nh nk h x).1) ((afor V U nl np nh nk h x).2.1) (zwi μ (zpc (zpc J n V) s ((afor V U nl np nh nk h x).2.2)))) := by
  refine (zd_in (d := d + 8) (cd := zc13) (nL := 3) (L := [(0, .ref (p + 0)), (1, .int (nI h)), (2, .int (x))]) rfl (Nat.le_of_ble_eq_true rfl) rfl).trans ?_
  refine (ys4 1 (v := .int (nI h)) rfl rfl rfl rfl).trans ?_
  refine (ys1 2 (x := nI 1) rfl rfl rfl).trans ?_
  refine ys18_2 5 rfl rfl (fun h2 => absurd h2 (nI_nlt (b := 1) (by omega) (by omega))) (fun h2 => ?_)
  refine (ys4 6 (v := .int (nI h)) rfl rfl rfl rfl).trans ?_
  refine (ys1 9 (x := nI 200) rfl rfl rfl).trans ?_
  refine ys18_5 12 rfl rfl (fun h9 => ?_) (fun h9 => absurd (nI_le (b := 200) (by omega) (by omega)) h9)
  refine (ys4 23 (v := .int (x)) rfl rfl rfl rfl).trans ?_
  refine ys17_2 26 rfl rfl (fun h23 => ?_) (fun h23 => ?_)
  · refine (ys35 rfl (by omega) (Nat.le_of_ble_eq_true rfl)).trans ?_; rw [show afor V U nl np nh nk h x = (1, 0, U) from by unfold afor; (try dsimp only); rw [if_pos h23]]; (first | done | rfl)
  · refine (ys4 27 (v := .int (x)) rfl rfl rfl rfl).trans ?_
    refine (ys1 28 (x := 2) rfl rfl rfl).trans ?_
    refine ys18_5 31 rfl rfl (fun h28 => ?_) (fun h28 => ?_)
    · refine (ys4 42 (v := .ref (p + 0)) rfl rfl rfl rfl).trans ?_
      refine (ys4 43 (v := .int (nI h)) rfl rfl rfl rfl).trans ?_
      refine (yc2 46 rfl rfl (Nat.le_of_ble_eq_true rfl) (Or.inr (by show ztg (zwi _ _) _ = _; rw [ztg_wi]; exact hL.2.1)) rfl rfl (c_loo hL hG hZ (by omega))).trans ?_
      generalize hU1 : ala V U nl np nh nk h = U1
      have hFU1 : zWF U1 nl np nh nk := by rw [← hU1]; exact ala_F hG hZ
      refine (ys4 47 (v := .int (x)) rfl rfl rfl rfl).trans ?_
      by_cases h47_0 : x = 0
      · refine (ys22k 72 rfl (by rw [h47_0]; decide)).trans ?_
        refine (ys4 73 (v := .ref (p + 0)) rfl rfl rfl rfl).trans ?_
        refine (ygr 76 rfl hL.2.1 rfl hL.2.2.2.2.2.1).trans ?_
        refine (yc1 79 rfl rfl (Nat.le_of_ble_eq_true rfl) (Or.inr (by show ztg (zwi _ _) _ = _; rw [ztg_wi]; exact (zWS.tag hL.2.2.2.2.2.2.2.1 (o := 0) (by decide) rfl))) rfl rfl (c_al hL.2.2.2.2.2.2.2.1 hFU1)).trans ?_
        refine (ys36 rfl rfl).trans ?_
        rw [show afor V U nl np nh nk h x = (0, (zcnt (fun i => if varr U1 i = 0 then false else true) nk 0 0), U1) from by subst hU1; unfold afor; (try dsimp only); rw [if_neg h23, if_pos h28, if_pos h47_0]]; (first | done | rfl)
      by_cases h47_1 : x = 1
      · refine (ys22k 80 rfl (by rw [h47_1]; decide)).trans ?_
        refine (ys4 81 (v := .ref (p + 0)) rfl rfl rfl rfl).trans ?_
        refine (ygr 84 rfl hL.2.1 rfl hL.2.2.2.2.2.1).trans ?_
        refine (yc1 87 rfl rfl (Nat.le_of_ble_eq_true rfl) (Or.inr (by show ztg (zwi _ _) _ = _; rw [ztg_wi]; exact (zWS.tag hL.2.2.2.2.2.2.2.1 (o := 0) (by decide) rfl))) rfl rfl (c_ll hL.2.2.2.2.2.2.2.1 hFU1)).trans ?_
        refine (ys36 rfl rfl).trans ?_
        rw [show afor V U nl np nh nk h x = (0, (zcnt (fun i => if vlost U1 i np = 0 then false else true) nk 0 0), U1) from by subst hU1; unfold afor; (try dsimp only); rw [if_neg h23, if_pos h28, if_neg h47_0, if_pos h47_1]]; (first | done | rfl)
      refine (ys22k 88 rfl (by exact (if_neg h47_0).trans (if_neg h47_1))).trans ?_
      refine (ys4 89 (v := .ref (p + 0)) rfl rfl rfl rfl).trans ?_
      refine (ygr 92 rfl hL.2.1 rfl hL.2.2.2.2.2.1).trans ?_
      refine (ys1 93 (x := 2) rfl rfl rfl).trans ?_
      refine (yc2 96 rfl rfl (Nat.le_of_ble_eq_true rfl) (Or.inr (by show ztg (zwi _ _) _ = _; rw [ztg_wi]; exact (zWS.tag hL.2.2.2.2.2.2.2.1 (o := 0) (by decide) rfl))) rfl rfl (c_pth hL.2.2.2.2.2.2.2.1 hFU1.2.2.1 hFU1.2.2.2.1)).trans ?_
      refine (ys36 rfl rfl).trans ?_
      rw [show afor V U nl np nh nk h x = (0, (vpthL U1 2 np 0 0), U1) from by subst hU1; unfold afor; (try dsimp only); rw [if_neg h23, if_pos h28, if_neg h47_0, if_neg h47_1]]; (first | done | rfl)
    · refine (ys35 rfl (by omega) (Nat.le_of_ble_eq_true rfl)).trans ?_; rw [show afor V U nl np nh nk h x = (1, 0, U) from by unfold afor; (try dsimp only); rw [if_neg h23, if_neg h28]]; (first | done | rfl)

def vhtL (nl : Nat) (np : Nat) (nh : Nat) (nk : Nat) (k : Nat) (x : Int32) : Nat → Nat → zV → Int32 × zV
  | 0, i, U =>
    if x ≤ (U 4 k 2) then
      if (U 4 k 2) < x then
        ((-1), U)
      else
        (nI i, U)
    else
      if (U 4 k 2) < x then
        ((-1), U)
      else
        (nI i, U)
  | m + 1, i, U =>
    if x ≤ (U 4 k 2) then
      if (U 4 k 2) < x then
        ((-1), U)
      else
        (nI i, U)
    else
      if (vq1 U nk np 0) = 0 then
        let U1 := vpass U nl np nh nk
        vhtL nl np nh nk k x m (i + 1) U1
      else
        if (U 4 k 2) < x then
          ((-1), U)
        else
          (nI i, U)

theorem l_hts {d c sl : Nat} {p r n s : Nat} {V : zV} {J : zFn} {μ : zM} (hL : zLC μ p r n s) {nl np nh nk : Nat} {k : Nat} (hk : k < 12) {x y : Int32} : ∀ (m i : Nat) (U : zV), zWF U nl np nh nk → i + m = y.toNatClampNeg → zden1 (d + 7) (zden zcds (d + 7)) zc16 (13, [(5, .int (nI i)), (4, .ref (s + (49 + 3 * k))), (0, .ref (p + 0)), (1, .int (nI k)), (2, .int (x)), (3, .int (y))], [], c, sl, zwi μ (zpc (zpc J n V) s U)) = some (0, some (.int ((vhtL nl np nh nk k x m i U).1)), c, sl, zwi μ (zpc (zpc J n V) s ((vhtL nl np nh nk k x m i U).2)))
  | 0, i, U, hFU, e => by
    refine (ys4 15 (v := .ref (s + (49 + 3 * k))) rfl rfl rfl rfl).trans ?_
    refine (yg 18 rfl (zWS.tag hL.2.2.2.2.2.2.2.1 (o := 49 + 3 * k) (zwT_4 _ hk).2.2.2.2 (zwT_4 _ hk).1) (zWS.ni hL.2.2.2.2.2.2.2.1 (o := 49 + 3 * k) (zwT_4 _ hk).2.2.2.2 (zwT_4 _ hk).2.1) (by decide) rfl (zpc_at (o := 49 + 3 * k) (zpk_4 _ hk) (zwT_4 _ hk).2.2.2.2)).trans ?_
    refine (ys4 19 (v := .int (x)) rfl rfl rfl rfl).trans ?_
    refine ys18_3 22 rfl rfl (fun h19 => ?_) (fun h19 => ?_)
    · refine (ys4 53 (v := .ref (s + (49 + 3 * k))) rfl rfl rfl rfl).trans ?_
      refine (yg 56 rfl (zWS.tag hL.2.2.2.2.2.2.2.1 (o := 49 + 3 * k) (zwT_4 _ hk).2.2.2.2 (zwT_4 _ hk).1) (zWS.ni hL.2.2.2.2.2.2.2.1 (o := 49 + 3 * k) (zwT_4 _ hk).2.2.2.2 (zwT_4 _ hk).2.1) (by decide) rfl (zpc_at (o := 49 + 3 * k) (zpk_4 _ hk) (zwT_4 _ hk).2.2.2.2)).trans ?_
      refine (ys4 57 (v := .int (x)) rfl rfl rfl rfl).trans ?_
      refine ys18_2 60 rfl rfl (fun h57 => ?_) (fun h57 => ?_)
      · refine (ys1 66 (x := (-1)) rfl rfl rfl).trans ?_
        refine (ys36 rfl rfl).trans ?_
        rw [show vhtL nl np nh nk k x 0 i U = ((-1), U) from by rw [vhtL]; (try dsimp only); rw [if_pos h19, if_pos h57]]; (first | done | rfl)
      · refine (ys4 62 (v := .int (nI i)) rfl rfl rfl rfl).trans ?_
        refine (ys19 rfl).trans ?_
        refine (ys36 rfl rfl).trans ?_
        rw [show vhtL nl np nh nk k x 0 i U = (nI i, U) from by rw [vhtL]; (try dsimp only); rw [if_pos h19, if_neg h57]]; (first | done | rfl)
    · refine (ys4 24 (v := .int (nI i)) rfl rfl rfl rfl).trans ?_
      refine (ys4 25 (v := .int (y)) rfl rfl rfl rfl).trans ?_
      refine ys18_3 28 rfl rfl (fun h25 => ?_) (fun h25 => absurd (tn_ge (by omega)) h25)
      refine (ys4 53 (v := .ref (s + (49 + 3 * k))) rfl rfl rfl rfl).trans ?_
      refine (yg 56 rfl (zWS.tag hL.2.2.2.2.2.2.2.1 (o := 49 + 3 * k) (zwT_4 _ hk).2.2.2.2 (zwT_4 _ hk).1) (zWS.ni hL.2.2.2.2.2.2.2.1 (o := 49 + 3 * k) (zwT_4 _ hk).2.2.2.2 (zwT_4 _ hk).2.1) (by decide) rfl (zpc_at (o := 49 + 3 * k) (zpk_4 _ hk) (zwT_4 _ hk).2.2.2.2)).trans ?_
      refine (ys4 57 (v := .int (x)) rfl rfl rfl rfl).trans ?_
      refine ys18_2 60 rfl rfl (fun h57 => ?_) (fun h57 => ?_)
      · refine (ys1 66 (x := (-1)) rfl rfl rfl).trans ?_
        refine (ys36 rfl rfl).trans ?_
        rw [show vhtL nl np nh nk k x 0 i U = ((-1), U) from by rw [vhtL]; (try dsimp only); rw [if_neg h19, if_pos h57]]; (first | done | rfl)
      · refine (ys4 62 (v := .int (nI i)) rfl rfl rfl rfl).trans ?_
        refine (ys19 rfl).trans ?_
        refine (ys36 rfl rfl).trans ?_
        rw [show vhtL nl np nh nk k x 0 i U = (nI i, U) from by rw [vhtL]; (try dsimp only); rw [if_neg h19, if_neg h57]]; (first | done | rfl)
  | m + 1, i, U, hFU, e => by
    refine (ys4 15 (v := .ref (s + (49 + 3 * k))) rfl rfl rfl rfl).trans ?_
    refine (yg 18 rfl (zWS.tag hL.2.2.2.2.2.2.2.1 (o := 49 + 3 * k) (zwT_4 _ hk).2.2.2.2 (zwT_4 _ hk).1) (zWS.ni hL.2.2.2.2.2.2.2.1 (o := 49 + 3 * k) (zwT_4 _ hk).2.2.2.2 (zwT_4 _ hk).2.1) (by decide) rfl (zpc_at (o := 49 + 3 * k) (zpk_4 _ hk) (zwT_4 _ hk).2.2.2.2)).trans ?_
    refine (ys4 19 (v := .int (x)) rfl rfl rfl rfl).trans ?_
    refine ys18_3 22 rfl rfl (fun h19 => ?_) (fun h19 => ?_)
    · refine (ys4 53 (v := .ref (s + (49 + 3 * k))) rfl rfl rfl rfl).trans ?_
      refine (yg 56 rfl (zWS.tag hL.2.2.2.2.2.2.2.1 (o := 49 + 3 * k) (zwT_4 _ hk).2.2.2.2 (zwT_4 _ hk).1) (zWS.ni hL.2.2.2.2.2.2.2.1 (o := 49 + 3 * k) (zwT_4 _ hk).2.2.2.2 (zwT_4 _ hk).2.1) (by decide) rfl (zpc_at (o := 49 + 3 * k) (zpk_4 _ hk) (zwT_4 _ hk).2.2.2.2)).trans ?_
      refine (ys4 57 (v := .int (x)) rfl rfl rfl rfl).trans ?_
      refine ys18_2 60 rfl rfl (fun h57 => ?_) (fun h57 => ?_)
      · refine (ys1 66 (x := (-1)) rfl rfl rfl).trans ?_
        refine (ys36 rfl rfl).trans ?_
        rw [show vhtL nl np nh nk k x (m + 1) i U = ((-1), U) from by rw [vhtL]; (try dsimp only); rw [if_pos h19, if_pos h57]]; (first | done | rfl)
      · refine (ys4 62 (v := .int (nI i)) rfl rfl rfl rfl).trans ?_
        refine (ys19 rfl).trans ?_
        refine (ys36 rfl rfl).trans ?_
        rw [show vhtL nl np nh nk k x (m + 1) i U = (nI i, U) from by rw [vhtL]; (try dsimp only); rw [if_pos h19, if_neg h57]]; (first | done | rfl)
    · refine (ys4 24 (v := .int (nI i)) rfl rfl rfl rfl).trans ?_
      refine (ys4 25 (v := .int (y)) rfl rfl rfl rfl).trans ?_
      refine ys18_3 28 rfl rfl (fun h25 => absurd h25 (tn_lt' (by omega))) (fun h25 => ?_)
      refine (ys4 29 (v := .ref (p + 0)) rfl rfl rfl rfl).trans ?_
      refine (ygr 32 rfl hL.2.1 rfl hL.2.2.2.2.2.1).trans ?_
      refine (yc1 35 rfl rfl (Nat.le_of_ble_eq_true rfl) (Or.inr (by show ztg (zwi _ _) _ = _; rw [ztg_wi]; exact (zWS.tag hL.2.2.2.2.2.2.2.1 (o := 0) (by decide) rfl))) rfl rfl (c_quiet hL.2.2.2.2.2.2.2.1 hFU)).trans ?_
      refine ys17_1 38 rfl rfl (fun h35 => ?_) (fun h35 => ?_)
      · refine (ys4 39 (v := .ref (p + 0)) rfl rfl rfl rfl).trans ?_
        refine (ygr 42 rfl hL.2.1 rfl hL.2.2.2.2.2.1).trans ?_
        refine (yc1 45 rfl rfl (Nat.le_of_ble_eq_true rfl) (Or.inr (by show ztg (zwi _ _) _ = _; rw [ztg_wi]; exact (zWS.tag hL.2.2.2.2.2.2.2.1 (o := 0) (by decide) rfl))) rfl rfl (c_pass hL.2.2.2.2.2.2.2.1 hFU)).trans ?_
        generalize hU1 : vpass U nl np nh nk = U1
        have hFU1 : zWF U1 nl np nh nk := by rw [← hU1]; exact hFU.sm (zSm_pass _ _ _ _ _)
        refine (ys6 48 (y := nI (i + 1)) (L2 := [(5, .int (nI (i + 1))), (4, .ref (s + (49 + 3 * k))), (0, .ref (p + 0)), (1, .int (nI k)), (2, .int (x)), (3, .int (y))]) rfl rfl (nI_1 _) rfl rfl).trans ?_
        refine (ys19 rfl).trans ?_
        rw [show vhtL nl np nh nk k x (m + 1) i U = vhtL nl np nh nk k x m (i + 1) U1 from by subst hU1; rw [vhtL]; (try dsimp only); rw [if_neg h19, if_pos h35]]; exact l_hts hL hk m (i + 1)  U1  hFU1 (by omega)
      · refine (ys4 53 (v := .ref (s + (49 + 3 * k))) rfl rfl rfl rfl).trans ?_
        refine (yg 56 rfl (zWS.tag hL.2.2.2.2.2.2.2.1 (o := 49 + 3 * k) (zwT_4 _ hk).2.2.2.2 (zwT_4 _ hk).1) (zWS.ni hL.2.2.2.2.2.2.2.1 (o := 49 + 3 * k) (zwT_4 _ hk).2.2.2.2 (zwT_4 _ hk).2.1) (by decide) rfl (zpc_at (o := 49 + 3 * k) (zpk_4 _ hk) (zwT_4 _ hk).2.2.2.2)).trans ?_
        refine (ys4 57 (v := .int (x)) rfl rfl rfl rfl).trans ?_
        refine ys18_2 60 rfl rfl (fun h57 => ?_) (fun h57 => ?_)
        · refine (ys1 66 (x := (-1)) rfl rfl rfl).trans ?_
          refine (ys36 rfl rfl).trans ?_
          rw [show vhtL nl np nh nk k x (m + 1) i U = ((-1), U) from by rw [vhtL]; (try dsimp only); rw [if_neg h19, if_neg h35, if_pos h57]]; (first | done | rfl)
        · refine (ys4 62 (v := .int (nI i)) rfl rfl rfl rfl).trans ?_
          refine (ys19 rfl).trans ?_
          refine (ys36 rfl rfl).trans ?_
          rw [show vhtL nl np nh nk k x (m + 1) i U = (nI i, U) from by rw [vhtL]; (try dsimp only); rw [if_neg h19, if_neg h35, if_neg h57]]; (first | done | rfl)

theorem c_hts {d : Nat} {p r n s : Nat} {V U : zV} {J : zFn} {μ : zM} (hL : zLC μ p r n s) {nl np nh nk : Nat} (hFU : zWF U nl np nh nk) {k : Nat} (hk : k < 12) {x y : Int32} : zden zcds (d + 8) 16 [.ref (p + 0), .int (nI k), .int (x), .int (y)] (zwi μ (zpc (zpc J n V) s U)) = some (0, some (.int ((vhtL nl np nh nk k x y.toNatClampNeg 0 U).1)), 0, 0, zwi μ (zpc (zpc J n V) s ((vhtL nl np nh nk k x y.toNatClampNeg 0 U).2))) := by
  refine (zd_in (d := d + 7) (cd := zc16) (nL := 6) (L := [(0, .ref (p + 0)), (1, .int (nI k)), (2, .int (x)), (3, .int (y))]) rfl (Nat.le_of_ble_eq_true rfl) rfl).trans ?_
  refine (ys4 1 (v := .ref (p + 0)) rfl rfl rfl rfl).trans ?_
  refine (ygr 4 rfl hL.2.1 rfl hL.2.2.2.2.2.1).trans ?_
  refine (ys4 5 (v := .int (nI k)) rfl rfl rfl rfl).trans ?_
  refine (yc2 8 rfl rfl (Nat.le_of_ble_eq_true rfl) (Or.inr (by show ztg (zwi _ _) _ = _; rw [ztg_wi]; exact (zWS.tag hL.2.2.2.2.2.2.2.1 (o := 0) (by decide) rfl))) rfl rfl (c_at4n hL.2.2.2.2.2.2.2.1 hk)).trans ?_
  refine (ys5 10 (L2 := [(4, .ref (s + (49 + 3 * k))), (0, .ref (p + 0)), (1, .int (nI k)), (2, .int (x)), (3, .int (y))]) rfl rfl rfl rfl).trans ?_
  refine (ys1 11 (x := nI 0) rfl rfl rfl).trans ?_
  refine (ys5 13 (L2 := [(5, .int (nI 0)), (4, .ref (s + (49 + 3 * k))), (0, .ref (p + 0)), (1, .int (nI k)), (2, .int (x)), (3, .int (y))]) rfl rfl rfl rfl).trans ?_
  exact l_hts hL hk y.toNatClampNeg 0 U hFU (by omega)

def aarv (V : zV) (U : zV) (nl : Nat) (np : Nat) (nh : Nat) (nk : Nat) (k : Nat) : Int32 × zV :=
  let U1 := vcpW U V nl np nh nk
  let r2 := vhtL nl np nh nk k (V 4 k 0) (Int32.toNatClampNeg 300) 0 U1
  (r2.1, r2.2)

theorem c_arv {d : Nat} {p r n s : Nat} {V U : zV} {J : zFn} {μ : zM} (hL : zLC μ p r n s) {nl np nh nk : Nat} (hG : zWG V nl np nh nk) (hZ : zSZ U) {k : Nat} (hk : k < nk) : zden zcds (d + 9) 15 [.ref (p + 0), .int (nI k)] (zwi μ (zpc (zpc J n V) s U)) = some (0, some (.int ((aarv V U nl np nh nk k).1)), 0, 0, zwi μ (zpc (zpc J n V) s ((aarv V U nl np nh nk k).2))) := by
  refine (zd_in (d := d + 8) (cd := zc15) (nL := 2) (L := [(0, .ref (p + 0)), (1, .int (nI k))]) rfl (Nat.le_of_ble_eq_true rfl) rfl).trans ?_
  refine (ys4 1 (v := .ref (p + 0)) rfl rfl rfl rfl).trans ?_
  refine (ygr 4 rfl hL.2.1 rfl hL.2.2.2.2.1).trans ?_
  refine (ys4 5 (v := .int (nI k)) rfl rfl rfl rfl).trans ?_
  refine (yc2 8 rfl rfl (Nat.le_of_ble_eq_true rfl) (Or.inr (by show ztg (zwi _ _) _ = _; rw [ztg_wi]; exact (zWS.tag hL.2.2.2.2.2.2.1 (o := 0) (by decide) rfl))) rfl rfl (lnw hL.2.2.2.2.2.2.2.2.1 (fun _ => c_has3 hL.2.2.2.2.2.2.1))).trans ?_
  refine ys17_1 11 rfl rfl (fun h8 => absurd h8 (vhas_ne hG.1.2.2.2.2.2.2.1 (by have := hG.1.2.2.2.2.2.2.2.1; omega) hk)) (fun h8 => ?_)
  refine (ys4 22 (v := .ref (p + 0)) rfl rfl rfl rfl).trans ?_
  refine (ygr 25 rfl hL.2.1 rfl hL.2.2.2.2.2.1).trans ?_
  refine (ys4 26 (v := .ref (p + 0)) rfl rfl rfl rfl).trans ?_
  refine (ygr 29 rfl hL.2.1 rfl hL.2.2.2.2.1).trans ?_
  refine (yc2 32 rfl rfl (Nat.le_of_ble_eq_true rfl) (Or.inr (by show ztg (zwi _ _) _ = _; rw [ztg_wi]; exact (zWS.tag hL.2.2.2.2.2.2.2.1 (o := 0) (by decide) rfl))) rfl rfl (c_cpW hL.2.2.2.2.2.2.2.1 hL.2.2.2.2.2.2.1 hL.2.2.2.2.2.2.2.2.1 hG)).trans ?_
  generalize hU1 : vcpW U V nl np nh nk = U1
  have hFU1 : zWF U1 nl np nh nk := by rw [← hU1]; exact zWF_cpW hG hZ
  refine (ys4 33 (v := .ref (p + 0)) rfl rfl rfl rfl).trans ?_
  refine (ys4 34 (v := .int (nI k)) rfl rfl rfl rfl).trans ?_
  refine (ys4 35 (v := .ref (p + 0)) rfl rfl rfl rfl).trans ?_
  refine (ygr 38 rfl hL.2.1 rfl hL.2.2.2.2.1).trans ?_
  refine (ys4 39 (v := .int (nI k)) rfl rfl rfl rfl).trans ?_
  refine (yc2 42 rfl rfl (Nat.le_of_ble_eq_true rfl) (Or.inr (by show ztg (zwi _ _) _ = _; rw [ztg_wi]; exact (zWS.tag hL.2.2.2.2.2.2.1 (o := 0) (by decide) rfl))) rfl rfl (c_at4n hL.2.2.2.2.2.2.1 (Nat.lt_of_lt_of_le hk hG.1.2.2.2.2.2.2.2.1))).trans ?_
  refine (yg 45 rfl (zWS.tag hL.2.2.2.2.2.2.1 (o := 49 + 3 * k) (zwT_4 _ (Nat.lt_of_lt_of_le hk hG.1.2.2.2.2.2.2.2.1)).2.2.2.2 (zwT_4 _ (Nat.lt_of_lt_of_le hk hG.1.2.2.2.2.2.2.2.1)).1) (zWS.ni hL.2.2.2.2.2.2.1 (o := 49 + 3 * k) (zwT_4 _ (Nat.lt_of_lt_of_le hk hG.1.2.2.2.2.2.2.2.1)).2.2.2.2 (zwT_4 _ (Nat.lt_of_lt_of_le hk hG.1.2.2.2.2.2.2.2.1)).2.1) (by decide) rfl (zpc_at2 hL.2.2.2.2.2.2.2.2.1 (o := 49 + 3 * k) (zpk_4 _ (Nat.lt_of_lt_of_le hk hG.1.2.2.2.2.2.2.2.1)) (zwT_4 _ (Nat.lt_of_lt_of_le hk hG.1.2.2.2.2.2.2.2.1)).2.2.2.2)).trans ?_
  refine (ys1 48 (x := 300) rfl rfl rfl).trans ?_
  refine (yc4 51 rfl rfl (Nat.le_of_ble_eq_true rfl) (Or.inr (by show ztg (zwi _ _) _ = _; rw [ztg_wi]; exact hL.2.1)) rfl rfl (c_hts hL hFU1 (Nat.lt_of_lt_of_le hk hG.1.2.2.2.2.2.2.2.1))).trans ?_
  generalize hr2 : vhtL nl np nh nk k (V 4 k 0) (Int32.toNatClampNeg 300) 0 U1 = r2
  refine (ys36 rfl rfl).trans ?_
  rw [show aarv V U nl np nh nk k = (r2.1, r2.2) from by subst hr2 hU1; unfold aarv; (try dsimp only); first | done | rfl]; (first | done | rfl)

def vwhL (l : Nat) : Nat → Nat → zV → zV
  | 0, i, U =>
    U
  | m + 1, i, U =>
    let U1 := vmove U l
    vwhL l m (i + 1) U1

theorem l_whe {d c sl : Nat} {rz : zR} {p r n s : Nat} {V : zV} {J : zFn} {μ : zM} (hL : zLC μ p r n s) {l : Nat} (hl : l < 6) {h : Nat} (hh : h < 2 ^ 31) : ∀ (m i : Nat) (U : zV), i + m = h → zden1 (d + 7) (zden zcds (d + 7)) zc17 (84, [(4, .int (nI h)), (3, .ref (s + (5 + 3 * l))), (0, .ref (p + 0)), (1, .int (nI l)), (2, .int (nI h))], [], c, sl, zwi μ (zpc (zpc J n V) s ((vwhL l m i U)))) = some rz → zden1 (d + 7) (zden zcds (d + 7)) zc17 (68, [(4, .int (nI i)), (3, .ref (s + (5 + 3 * l))), (0, .ref (p + 0)), (1, .int (nI l)), (2, .int (nI h))], [], c, sl, zwi μ (zpc (zpc J n V) s U)) = some rz
  | 0, i, U, e, hkk => by
    have ei : h = i := by omega
    subst ei
    refine (ys4 70 (v := .int (nI h)) rfl rfl rfl rfl).trans ?_
    refine (ys4 71 (v := .int (nI h)) rfl rfl rfl rfl).trans ?_
    refine ys18_3 74 rfl rfl (fun h71 => ?_) (fun h71 => absurd (nI_le (by omega) (by omega)) h71)
    rw [show vwhL l 0 h U = U from by rw [vwhL]; (try dsimp only); first | done | rfl] at hkk; exact hkk
  | m + 1, i, U, e, hkk => by
    refine (ys4 70 (v := .int (nI i)) rfl rfl rfl rfl).trans ?_
    refine (ys4 71 (v := .int (nI h)) rfl rfl rfl rfl).trans ?_
    refine ys18_3 74 rfl rfl (fun h71 => absurd h71 (nI_ge (by omega) (by omega))) (fun h71 => ?_)
    refine (ys4 75 (v := .ref (s + (5 + 3 * l))) rfl rfl rfl rfl).trans ?_
    refine (yc1 78 rfl rfl (Nat.le_of_ble_eq_true rfl) (Or.inr (by show ztg (zwi _ _) _ = _; rw [ztg_wi]; exact (zWS.tag hL.2.2.2.2.2.2.2.1 (o := 5 + 3 * l) (zwT_1 _ hl).2.2.2.2 (zwT_1 _ hl).1))) rfl rfl (c_move hL.2.2.2.2.2.2.2.1 hl)).trans ?_
    generalize hU1 : vmove U l = U1
    refine (ys6 81 (y := nI (i + 1)) (L2 := [(4, .int (nI (i + 1))), (3, .ref (s + (5 + 3 * l))), (0, .ref (p + 0)), (1, .int (nI l)), (2, .int (nI h))]) rfl rfl (nI_1 _) rfl rfl).trans ?_
    refine (ys19 rfl).trans ?_
    rw [show vwhL l (m + 1) i U = vwhL l m (i + 1) U1 from by subst hU1; rw [vwhL]; (try dsimp only); first | done | rfl] at hkk; exact l_whe hL hl hh m (i + 1)  U1  (by omega) hkk

def awhe (V : zV) (U : zV) (l : Nat) (h : Nat) (z : Nat) : Int32 × zV :=
  let U1 := vcpL U V l z
  let U2 := vwhL l h 0 U1
  (((64 * (U2 1 l 2)) + (U2 1 l 1)), U2)

theorem c_whe {d : Nat} {p r n s : Nat} {V U : zV} {J : zFn} {μ : zM} (hL : zLC μ p r n s) {nl : Nat} (hc : V 0 0 0 = nI nl)  (hn6 : nl ≤ 6) {l z h : Nat} (hln : l < nl) (hh : h ≤ 500) (hl : l < 6) (hz : z ≤ 6) (hzs : V 1 l 0 = nI z) : zden zcds (d + 8) 17 [.ref (p + 0), .int (nI l), .int (nI h)] (zwi μ (zpc (zpc J n V) s U)) = some (0, some (.int ((awhe V U l h z).1)), 0, 0, zwi μ (zpc (zpc J n V) s ((awhe V U l h z).2))) := by
  refine (zd_in (d := d + 7) (cd := zc17) (nL := 5) (L := [(0, .ref (p + 0)), (1, .int (nI l)), (2, .int (nI h))]) rfl (Nat.le_of_ble_eq_true rfl) rfl).trans ?_
  refine (ys4 1 (v := .ref (p + 0)) rfl rfl rfl rfl).trans ?_
  refine (ygr 4 rfl hL.2.1 rfl hL.2.2.2.2.1).trans ?_
  refine (ys4 5 (v := .int (nI l)) rfl rfl rfl rfl).trans ?_
  refine (yc2 8 rfl rfl (Nat.le_of_ble_eq_true rfl) (Or.inr (by show ztg (zwi _ _) _ = _; rw [ztg_wi]; exact (zWS.tag hL.2.2.2.2.2.2.1 (o := 0) (by decide) rfl))) rfl rfl (lnw hL.2.2.2.2.2.2.2.2.1 (fun _ => c_has0 hL.2.2.2.2.2.2.1))).trans ?_
  refine ys17_1 11 rfl rfl (fun h8 => absurd h8 (vhas_ne hc (by omega) hln)) (fun h8 => ?_)
  refine (ys4 23 (v := .int (nI h)) rfl rfl rfl rfl).trans ?_
  refine ys17_2 26 rfl rfl (fun h23 => absurd h23 (nI_pos (by omega))) (fun h23 => ?_)
  refine (ys4 27 (v := .int (nI h)) rfl rfl rfl rfl).trans ?_
  refine (ys1 30 (x := nI 500) rfl rfl rfl).trans ?_
  refine ys18_5 33 rfl rfl (fun h30 => ?_) (fun h30 => absurd (nI_le (b := 500) (by omega) (by omega)) h30)
  refine (ys4 45 (v := .ref (p + 0)) rfl rfl rfl rfl).trans ?_
  refine (ygr 48 rfl hL.2.1 rfl hL.2.2.2.2.2.1).trans ?_
  refine (ys4 49 (v := .int (nI l)) rfl rfl rfl rfl).trans ?_
  refine (yc2 52 rfl rfl (Nat.le_of_ble_eq_true rfl) (Or.inr (by show ztg (zwi _ _) _ = _; rw [ztg_wi]; exact (zWS.tag hL.2.2.2.2.2.2.2.1 (o := 0) (by decide) rfl))) rfl rfl (c_at1n hL.2.2.2.2.2.2.2.1 hl)).trans ?_
  refine (ys5 53 (L2 := [(3, .ref (s + (5 + 3 * l))), (0, .ref (p + 0)), (1, .int (nI l)), (2, .int (nI h))]) rfl rfl rfl rfl).trans ?_
  refine (ys4 54 (v := .ref (s + (5 + 3 * l))) rfl rfl rfl rfl).trans ?_
  refine (ys4 55 (v := .ref (p + 0)) rfl rfl rfl rfl).trans ?_
  refine (ygr 58 rfl hL.2.1 rfl hL.2.2.2.2.1).trans ?_
  refine (ys4 59 (v := .int (nI l)) rfl rfl rfl rfl).trans ?_
  refine (yc2 62 rfl rfl (Nat.le_of_ble_eq_true rfl) (Or.inr (by show ztg (zwi _ _) _ = _; rw [ztg_wi]; exact (zWS.tag hL.2.2.2.2.2.2.1 (o := 0) (by decide) rfl))) rfl rfl (c_at1n hL.2.2.2.2.2.2.1 hl)).trans ?_
  refine (yc2 65 rfl rfl (Nat.le_of_ble_eq_true rfl) (Or.inr (by show ztg (zwi _ _) _ = _; rw [ztg_wi]; exact (zWS.tag hL.2.2.2.2.2.2.2.1 (o := 5 + 3 * l) (zwT_1 _ hl).2.2.2.2 (zwT_1 _ hl).1))) rfl rfl (c_cpL hL.2.2.2.2.2.2.2.1 hL.2.2.2.2.2.2.1 hL.2.2.2.2.2.2.2.2.1 hl hz hzs)).trans ?_
  generalize hU1 : vcpL U V l z = U1
  refine (ys1 66 (x := nI 0) rfl rfl rfl).trans ?_
  refine (ys5 68 (L2 := [(4, .int (nI 0)), (3, .ref (s + (5 + 3 * l))), (0, .ref (p + 0)), (1, .int (nI l)), (2, .int (nI h))]) rfl rfl rfl rfl).trans ?_
  refine l_whe hL hl (by omega) h 0 U1 (by omega) ?_
  generalize hU2 : vwhL l h 0 U1 = U2
  refine (ys1 86 (x := 64) rfl rfl rfl).trans ?_
  refine (ys4 87 (v := .ref (s + (5 + 3 * l))) rfl rfl rfl rfl).trans ?_
  refine (yg 90 rfl (zWS.tag hL.2.2.2.2.2.2.2.1 (o := 5 + 3 * l) (zwT_1 _ hl).2.2.2.2 (zwT_1 _ hl).1) (zWS.ni hL.2.2.2.2.2.2.2.1 (o := 5 + 3 * l) (zwT_1 _ hl).2.2.2.2 (zwT_1 _ hl).2.1) (by decide) rfl (zpc_at (o := 5 + 3 * l) (zpk_1 _ hl) (zwT_1 _ hl).2.2.2.2)).trans ?_
  refine (ys7_2 91 rfl rfl).trans ?_
  refine (ys4 92 (v := .ref (s + (5 + 3 * l))) rfl rfl rfl rfl).trans ?_
  refine (yg 95 rfl (zWS.tag hL.2.2.2.2.2.2.2.1 (o := 5 + 3 * l) (zwT_1 _ hl).2.2.2.2 (zwT_1 _ hl).1) (zWS.ni hL.2.2.2.2.2.2.2.1 (o := 5 + 3 * l) (zwT_1 _ hl).2.2.2.2 (zwT_1 _ hl).2.1) (by decide) rfl (zpc_at (o := 5 + 3 * l) (zpk_1 _ hl) (zwT_1 _ hl).2.2.2.2)).trans ?_
  refine (ys7_0 96 rfl rfl).trans ?_
  refine (ys36 rfl rfl).trans ?_
  rw [show awhe V U l h z = (((64 * (U2 1 l 2)) + (U2 1 l 1)), U2) from by subst hU2 hU1; unfold awhe; (try dsimp only); first | done | rfl]; (first | done | rfl)

