/-! DOUBLES OF WHOLE NUMBERS; MEAN ON BOTH SIDES -/
theorem dq_fin (s : Bool) {c : Nat} {q : Int} (hc : c < 9007199254740992) (hq : q ≤ 971) : FP.Core.encode FP.Core.b64 (.fin s c q) % 9223372036854775808 ≤ 9218868437227405312 ∧ FP.Core.encode FP.Core.b64 (.fin s c q) < 18446744073709551616 := by
  have e1 : FP.Core.b64.tails = 4503599627370496 := by decide
  have e2 : FP.Core.b64.exps = 2048 := by decide
  have e3 : FP.Core.b64.qmin = -1074 := by decide
  have e4 : s.toNat ≤ 1 := by cases s <;> decide
  simp only [FP.Core.encode, FP.Core.assemble, e1, e2, e3]
  split <;> omega
theorem dq_inf (s : Bool) : FP.Core.encode FP.Core.b64 (.inf s) % 9223372036854775808 ≤ 9218868437227405312 ∧ FP.Core.encode FP.Core.b64 (.inf s) < 18446744073709551616 := by
  cases s <;> decide
theorem dq_bound (s : Bool) {c : Nat} {q : Int} (hc : c < 9007199254740992) : FP.Core.encode FP.Core.b64 (FP.Core.bound FP.Core.b64 s c q) % 9223372036854775808 ≤ 9218868437227405312 ∧ FP.Core.encode FP.Core.b64 (FP.Core.bound FP.Core.b64 s c q) < 18446744073709551616 := by
  have e1 : FP.Core.b64.qmax = 971 := by decide
  unfold FP.Core.bound
  rw [e1]
  split
  · exact dq_fin s hc (by assumption)
  · exact dq_inf s
theorem dq_rr (s : Bool) (A B : Nat) (e : Int) : FP.Core.encode FP.Core.b64 (FP.Core.roundRatio FP.Core.b64 s A B e) % 9223372036854775808 ≤ 9218868437227405312 ∧ FP.Core.encode FP.Core.b64 (FP.Core.roundRatio FP.Core.b64 s A B e) < 18446744073709551616 := by
  have e1 : (2 : Nat) ^ FP.Core.b64.p = 9007199254740992 := by decide
  have e2 : FP.Core.b64.tails = 4503599627370496 := by decide
  unfold FP.Core.roundRatio
  split
  · exact dq_fin s (by decide) (by decide)
  · unfold FP.Core.roundAt FP.Core.settle
    rw [e1, e2]
    split
    · exact dq_bound s (by assumption)
    · exact dq_bound s (by decide)
theorem dq_dec {n : Nat} (h1 : n % 9223372036854775808 ≤ 9218868437227405312) : FP.Core.decode FP.Core.b64 n ≠ .nan := by
  have e1 : FP.Core.b64.tails = 4503599627370496 := by decide
  have e2 : FP.Core.b64.exps = 2048 := by decide
  unfold FP.Core.decode
  simp only [FP.Core.fieldE, FP.Core.fieldT, e1, e2]
  split
  · split
    · exact fun h => by cases h
    · omega
  · split <;> exact fun h => by cases h
theorem dq_quo {x y : FP.Core.Datum} (hx : x ≠ .nan) {t : Bool} {d : Nat} {r : Int} (hy : y = .fin t d r) (hd : d ≠ 0) : FP.Core.encode FP.Core.b64 (FP.Core.quotient FP.Core.b64 x y) % 9223372036854775808 ≤ 9218868437227405312 ∧ FP.Core.encode FP.Core.b64 (FP.Core.quotient FP.Core.b64 x y) < 18446744073709551616 := by
  subst hy
  cases x with
  | nan => exact absurd rfl hx
  | inf s => exact dq_inf _
  | fin s c q =>
    have e : FP.Core.quotient FP.Core.b64 (.fin s c q) (.fin t d r) = FP.Core.roundRatio FP.Core.b64 (s != t) c d (q - r) := by
      show (if d = 0 then _ else _) = _
      rw [if_neg hd]
    rw [e]
    exact dq_rr _ _ _ _
theorem dq_mask {n : Nat} (h1 : n % 9223372036854775808 ≤ 9218868437227405312) (h2 : n < 18446744073709551616) : UInt64.ofNat n &&& 0x7fffffffffffffff ≤ 0x7ff0000000000000 := by
  rw [UInt64.le_iff_toNat_le, UInt64.toNat_and, UInt64.toNat_ofNat_of_lt' (by exact h2)]
  rw [show (0x7fffffffffffffff : UInt64).toNat = 2 ^ 63 - 1 from by decide, Nat.and_two_pow_sub_one_eq_mod]
  exact h1
theorem dq_i2d (x : Int32) : FP.Core.decode FP.Core.b64 (FP.i2d x).toNat ≠ .nan := by
  have h := dq_rr (decide (x.toInt < 0)) x.toInt.natAbs 1 0
  have e : (FP.i2d x).toNat = FP.Core.encode FP.Core.b64 (FP.Core.roundRatio FP.Core.b64 (decide (x.toInt < 0)) x.toInt.natAbs 1 0) := UInt64.toNat_ofNat_of_lt' (by exact h.2)
  rw [e]
  exact dq_dec h.1
def dqn : FP.Core.Datum → Bool
  | .fin _ d _ => d != 0
  | _ => false
theorem dq_small : ∀ n, n < 13 → n ≠ 0 → dqn (FP.Core.decode FP.Core.b64 (FP.i2d (nI n)).toNat) = true := by decide +kernel
theorem dq_div (x : Int32) {n : Nat} (h0 : n ≠ 0) (h : n < 13) : FP.Core.encode FP.Core.b64 (FP.Core.quotient FP.Core.b64 (FP.Core.decode FP.Core.b64 (FP.i2d x).toNat) (FP.Core.decode FP.Core.b64 (FP.i2d (nI n)).toNat)) % 9223372036854775808 ≤ 9218868437227405312 ∧ FP.Core.encode FP.Core.b64 (FP.Core.quotient FP.Core.b64 (FP.Core.decode FP.Core.b64 (FP.i2d x).toNat) (FP.Core.decode FP.Core.b64 (FP.i2d (nI n)).toNat)) < 18446744073709551616 := by
  have hn := dq_small n h h0
  generalize FP.Core.decode FP.Core.b64 (FP.i2d (nI n)).toNat = y at hn
  cases y with
  | nan => cases hn
  | inf s => cases hn
  | fin s c q => exact dq_quo (dq_i2d x) rfl (fun e => by subst e; cases hn)
theorem dq_ok (x : Int32) {n : Nat} (h0 : n ≠ 0) (h : n < 13) : FP.ddiv (FP.i2d x) (FP.i2d (nI n)) &&& 0x7fffffffffffffff ≤ 0x7ff0000000000000 := dq_mask (dq_div x h0 h).1 (dq_div x h0 h).2
theorem dq_order {x : FP.Core.Datum} (h : x ≠ .nan) : FP.Core.order x x = some .eq := by
  have hc : ∀ a : Int, compare a a = .eq := fun a => by
    show compareOfLessAndEq a a = .eq
    unfold compareOfLessAndEq
    rw [if_neg (Int.lt_irrefl _), if_pos rfl]
  cases x with
  | nan => exact absurd rfl h
  | inf s => exact congrArg some (hc _)
  | fin s c q => exact congrArg some (hc _)
theorem dq_same (x : Int32) {n : Nat} (h0 : n ≠ 0) (h : n < 13) : FP.dcmp (FP.ddiv (FP.i2d x) (FP.i2d (nI n))) (FP.ddiv (FP.i2d x) (FP.i2d (nI n))) = some .eq := by
  have e : (FP.ddiv (FP.i2d x) (FP.i2d (nI n))).toNat = _ := UInt64.toNat_ofNat_of_lt' (by exact (dq_div x h0 h).2)
  show FP.Core.order (FP.Core.decode FP.Core.b64 (FP.ddiv (FP.i2d x) (FP.i2d (nI n))).toNat) (FP.Core.decode FP.Core.b64 (FP.ddiv (FP.i2d x) (FP.i2d (nI n))).toNat) = some .eq
  rw [e]
  exact dq_order (dq_dec (dq_div x h0 h).1)
theorem dq_zero : FP.dcmp FP.dconst0 FP.dconst0 = some .eq := by decide +kernel

def vmeL (V : zV) : Nat → Nat → Int32 → Int32 → Int32 × Int32
  | 0, i, a, b =>
    (a, b)
  | m + 1, i, a, b =>
    if (varr V i) = 0 then
      vmeL V m (i + 1) a b
    else
      vmeL V m (i + 1) (a + (V 4 i 5)) (b + 1)

theorem l_vme {d c sl : Nat} {rz : zR} {p r n s : Nat} {V U : zV} {J : zFn} {μ : zM} (hL : zLC μ p r n s) {nl np nh nk : Nat} (hG : zWG V nl np nh nk) : ∀ (m i : Nat) (a : Int32) (b : Int32), i + m = nk → zden1 (d + 4) (zden zcds (d + 4)) zc23 (52, [(2, .int ((vmeL V m i a b).2)), (1, .int ((vmeL V m i a b).1)), (0, .ref (p + 0))], [], c, sl, zwi μ (zpc (zpc J n V) s U)) = some rz → zden1 (d + 4) (zden zcds (d + 4)) zc23 (6, [(3, .int (nI i)), (2, .int (b)), (1, .int (a)), (0, .ref (p + 0))], [], c, sl, zwi μ (zpc (zpc J n V) s U)) = some rz
  | 0, i, a, b, e, hkk => by
    have ei : i = nk := by omega
    subst ei
    refine (ys4 7 (v := .int (nI i)) rfl rfl rfl rfl).trans ?_
    refine (ys4 8 (v := .ref (p + 0)) rfl rfl rfl rfl).trans ?_
    refine (ygr 11 rfl hL.2.1 rfl hL.2.2.2.2.1).trans ?_
    refine (yg 14 rfl (zWS.tag hL.2.2.2.2.2.2.1 (o := 0) (by decide) rfl) (zWS.ni hL.2.2.2.2.2.2.1 (o := 0) (by decide) rfl) (by decide) rfl (zpc_at2 hL.2.2.2.2.2.2.2.2.1 (o := 0) (q := 0) (i := 0) rfl (by decide))).trans ?_
    refine ys18_3 17 rfl rfl (fun h14 => ?_) (fun h14 => absurd (by rw [hG.1.2.2.2.2.2.2.1]; exact nI_le (by omega) (by have := hG.1.2.2.2.2.2.2.2.1; omega)) h14)
    rw [show vmeL V 0 i a b = (a, b) from by rw [vmeL]; (try dsimp only); first | done | rfl] at hkk; refine zden1_fg (L := [(2, .int (b)), (1, .int (a)), (0, .ref (p + 0))]) (zfg_cons rfl (zfg_cons rfl (zfg_cons rfl zfg_nil))) ?_; exact hkk
  | m + 1, i, a, b, e, hkk => by
    have hi : i < 12 := by have := hG.1.2.2.2.2.2.2.2.1; omega
    refine (ys4 7 (v := .int (nI i)) rfl rfl rfl rfl).trans ?_
    refine (ys4 8 (v := .ref (p + 0)) rfl rfl rfl rfl).trans ?_
    refine (ygr 11 rfl hL.2.1 rfl hL.2.2.2.2.1).trans ?_
    refine (yg 14 rfl (zWS.tag hL.2.2.2.2.2.2.1 (o := 0) (by decide) rfl) (zWS.ni hL.2.2.2.2.2.2.1 (o := 0) (by decide) rfl) (by decide) rfl (zpc_at2 hL.2.2.2.2.2.2.2.2.1 (o := 0) (q := 0) (i := 0) rfl (by decide))).trans ?_
    refine ys18_3 17 rfl rfl (fun h14 => absurd h14 (by rw [hG.1.2.2.2.2.2.2.1]; exact nI_ge (by omega) (by have := hG.1.2.2.2.2.2.2.2.1; omega))) (fun h14 => ?_)
    refine (ys4 18 (v := .ref (p + 0)) rfl rfl rfl rfl).trans ?_
    refine (ygr 21 rfl hL.2.1 rfl hL.2.2.2.2.1).trans ?_
    refine (ys4 22 (v := .int (nI i)) rfl rfl rfl rfl).trans ?_
    refine (yc2 25 rfl rfl (Nat.le_of_ble_eq_true rfl) (Or.inr (by show ztg (zwi _ _) _ = _; rw [ztg_wi]; exact (zWS.tag hL.2.2.2.2.2.2.1 (o := 0) (by decide) rfl))) rfl rfl (c_at4n hL.2.2.2.2.2.2.1 hi)).trans ?_
    refine (ys5 27 (L2 := [(4, .ref (n + (49 + 3 * i))), (3, .int (nI i)), (2, .int (b)), (1, .int (a)), (0, .ref (p + 0))]) rfl rfl rfl rfl).trans ?_
    refine (ys4 29 (v := .ref (n + (49 + 3 * i))) rfl rfl rfl rfl).trans ?_
    refine (yc1 32 rfl rfl (Nat.le_of_ble_eq_true rfl) (Or.inr (by show ztg (zwi _ _) _ = _; rw [ztg_wi]; exact (zWS.tag hL.2.2.2.2.2.2.1 (o := 49 + 3 * i) (zwT_4 _ hi).2.2.2.2 (zwT_4 _ hi).1))) rfl rfl (lnw hL.2.2.2.2.2.2.2.2.1 (fun _ => c_arr hL.2.2.2.2.2.2.1 hi))).trans ?_
    refine ys17_0 35 rfl rfl (fun h32 => ?_) (fun h32 => ?_)
    · refine (ys6 49 (y := nI (i + 1)) (L2 := [(3, .int (nI (i + 1))), (4, .ref (n + (49 + 3 * i))), (2, .int (b)), (1, .int (a)), (0, .ref (p + 0))]) rfl rfl (nI_1 _) rfl rfl).trans ?_
      refine (ys19 rfl).trans ?_
      rw [show vmeL V (m + 1) i a b = vmeL V m (i + 1) a b from by rw [vmeL]; (try dsimp only); rw [if_pos h32]] at hkk; refine zden1_fg (L := [(3, .int (nI (i + 1))), (2, .int (b)), (1, .int (a)), (0, .ref (p + 0))]) (zfg_cons rfl (zfg_cons rfl (zfg_cons rfl (zfg_cons rfl zfg_nil)))) ?_; exact l_vme hL hG m (i + 1) a b   (by omega) hkk
    · refine (ys4 36 (v := .int (a)) rfl rfl rfl rfl).trans ?_
      refine (ys4 38 (v := .ref (n + (49 + 3 * i))) rfl rfl rfl rfl).trans ?_
      refine (yg 41 rfl (zWS.tag hL.2.2.2.2.2.2.1 (o := 49 + 3 * i) (zwT_4 _ hi).2.2.2.2 (zwT_4 _ hi).1) (zWS.ni hL.2.2.2.2.2.2.1 (o := 49 + 3 * i) (zwT_4 _ hi).2.2.2.2 (zwT_4 _ hi).2.1) (by decide) rfl (zpc_at2 hL.2.2.2.2.2.2.2.2.1 (o := 49 + 3 * i) (zpk_4 _ hi) (zwT_4 _ hi).2.2.2.2)).trans ?_
      refine (ys7_0 42 rfl rfl).trans ?_
      refine (ys5 43 (L2 := [(1, .int ((a + (V 4 i 5)))), (4, .ref (n + (49 + 3 * i))), (3, .int (nI i)), (2, .int (b)), (0, .ref (p + 0))]) rfl rfl rfl rfl).trans ?_
      refine (ys6 46 (y := b + 1) (L2 := [(2, .int (b + 1)), (1, .int ((a + (V 4 i 5)))), (4, .ref (n + (49 + 3 * i))), (3, .int (nI i)), (0, .ref (p + 0))]) rfl rfl rfl rfl rfl).trans ?_
      refine (ys6 49 (y := nI (i + 1)) (L2 := [(3, .int (nI (i + 1))), (2, .int (b + 1)), (1, .int ((a + (V 4 i 5)))), (4, .ref (n + (49 + 3 * i))), (0, .ref (p + 0))]) rfl rfl (nI_1 _) rfl rfl).trans ?_
      refine (ys19 rfl).trans ?_
      rw [show vmeL V (m + 1) i a b = vmeL V m (i + 1) (a + (V 4 i 5)) (b + 1) from by rw [vmeL]; (try dsimp only); rw [if_neg h32]] at hkk; refine zden1_fg (L := [(3, .int (nI (i + 1))), (2, .int (b + 1)), (1, .int ((a + (V 4 i 5)))), (0, .ref (p + 0))]) (zfg_cons rfl (zfg_cons rfl (zfg_cons rfl (zfg_cons rfl zfg_nil)))) ?_; exact l_vme hL hG m (i + 1) (a + (V 4 i 5)) (b + 1)   (by omega) hkk

theorem vme_nI (V : zV) : ∀ (m i c : Nat) (a : Int32), ∃ e, e ≤ m ∧ (vmeL V m i a (nI c)).2 = nI (c + e)
  | 0, _, c, _ => ⟨0, Nat.le_refl _, rfl⟩
  | m + 1, i, c, a => by
    rw [vmeL]
    (try dsimp only)
    by_cases h : varr V i = 0
    · rw [if_pos h]
      obtain ⟨e, h1, h2⟩ := vme_nI V m (i + 1) c a
      exact ⟨e, by omega, h2⟩
    · rw [if_neg h, nI_1]
      obtain ⟨e, h1, h2⟩ := vme_nI V m (i + 1) (c + 1) (a + V 4 i 5)
      exact ⟨e + 1, by omega, by rw [show c + (e + 1) = c + 1 + e from by omega]; exact h2⟩

def vmean (V : zV) (nk : Nat) : UInt64 :=
  if ((vmeL V nk 0 0 0).2) = 0 then
    FP.dconst0
  else
    (FP.ddiv (FP.i2d ((vmeL V nk 0 0 0).1)) (FP.i2d ((vmeL V nk 0 0 0).2)))

theorem c_vme {d : Nat} {p r n s : Nat} {V U : zV} {J : zFn} {μ : zM} (hL : zLC μ p r n s) {nl np nh nk : Nat} (hG : zWG V nl np nh nk) : zden zcds (d + 5) 23 [.ref (p + 0)] (zwi μ (zpc (zpc J n V) s U)) = some (0, some (.double ((vmean V nk))), 0, 0, zwi μ (zpc (zpc J n V) s U)) := by
  refine (zd_in (d := d + 4) (cd := zc23) (nL := 5) (L := [(0, .ref (p + 0))]) rfl (Nat.le_of_ble_eq_true rfl) rfl).trans ?_
  refine (ys1 1 (x := 0) rfl rfl rfl).trans ?_
  refine (ys5 2 (L2 := [(1, .int (0)), (0, .ref (p + 0))]) rfl rfl rfl rfl).trans ?_
  refine (ys1 3 (x := 0) rfl rfl rfl).trans ?_
  refine (ys5 4 (L2 := [(2, .int (0)), (1, .int (0)), (0, .ref (p + 0))]) rfl rfl rfl rfl).trans ?_
  refine (ys1 5 (x := nI 0) rfl rfl rfl).trans ?_
  refine (ys5 6 (L2 := [(3, .int (nI 0)), (2, .int (0)), (1, .int (0)), (0, .ref (p + 0))]) rfl rfl rfl rfl).trans ?_
  refine l_vme hL hG nk 0 0 0 (by omega) ?_
  refine (ys4 53 (v := .int ((vmeL V nk 0 0 0).2)) rfl rfl rfl rfl).trans ?_
  refine ys17_1 56 rfl rfl (fun h53 => ?_) (fun h53 => ?_)
  · refine (ys13 57 rfl rfl).trans ?_
    refine (ys19 rfl).trans ?_
    refine (ys36 rfl rfl).trans ?_
    rw [show vmean V nk = FP.dconst0 from by unfold vmean; (try dsimp only); rw [if_pos h53]]; (first | done | rfl)
  · refine (ys4 61 (v := .int ((vmeL V nk 0 0 0).1)) rfl rfl rfl rfl).trans ?_
    refine (ys10 62 rfl rfl).trans ?_
    refine (ys4 63 (v := .int ((vmeL V nk 0 0 0).2)) rfl rfl rfl rfl).trans ?_
    refine (ys10 64 rfl rfl).trans ?_
    refine (ys12_0 65 rfl (by obtain ⟨c_, hc1, hc2⟩ := vme_nI V nk 0 0 0; have hc3 : (vmeL V nk 0 0 0).2 = nI c_ := (by rw [Nat.zero_add] at hc2; exact hc2); rw [hc3] at h53 ⊢; exact dq_ok _ (fun e => h53 (by rw [e]; rfl)) (by have := hG.1.2.2.2.2.2.2.2.1; omega)) rfl).trans ?_
    refine (ys36 rfl rfl).trans ?_
    rw [show vmean V nk = (FP.ddiv (FP.i2d ((vmeL V nk 0 0 0).1)) (FP.i2d ((vmeL V nk 0 0 0).2))) from by unfold vmean; (try dsimp only); rw [if_neg h53]]; (first | done | rfl)

def mmeL (S : zFn) (T : zFn) : Nat → Nat → Int32 → Int32
  | 0, i, a =>
    a
  | m + 1, i, a =>
    if (ria S T i) = 0 then
      mmeL S T m (i + 1) (a + 0)
    else
      mmeL S T m (i + 1) (a + (S 20 i))

theorem l_mme {d c sl : Nat} {rz : zR} {x t s q : Nat} {X S A T J : zFn} {μ : zM} (hM : zMC μ x t s q J T) {nl np nh nk : Nat} (hN : zTN T nl np nh nk) : ∀ (m i : Nat) (a : Int32), i + m = nk → zden1 (d + 4) (zden zcds (d + 4)) zc181 (53, [(1, .int ((mmeL S T m i a))), (0, .ref (x + 0))], [], c, sl, zwi μ (zfl (zfl (zfl J x 6 X) s 22 S) q 22 A)) = some rz → zden1 (d + 4) (zden zcds (d + 4)) zc181 (9, [(2, .int (nI i)), (1, .int (a)), (0, .ref (x + 0))], [], c, sl, zwi μ (zfl (zfl (zfl J x 6 X) s 22 S) q 22 A)) = some rz
  | 0, i, a, e, hkk => by
    have ei : i = nk := by omega
    subst ei
    refine (ys4 10 (v := .int (nI i)) rfl rfl rfl rfl).trans ?_
    refine (ys4 11 (v := .ref (x + 0)) rfl rfl rfl rfl).trans ?_
    refine (ygr 14 rfl (zFS.tag hM.1.1 (j := 0) (by decide) rfl) rfl hM.2.1).trans ?_
    refine (yg 17 rfl (zFS.tag (hMq hM (X := X) (S := S)).2.2.2.1 (j := 0) (by decide) rfl) (zFS.ni (hMq hM (X := X) (S := S)).2.2.2.1 (j := 0) (by decide) rfl) (by decide) rfl (zt3_at hM (j := 0) (by decide))).trans ?_
    refine ys18_3 20 rfl rfl (fun h17 => ?_) (fun h17 => absurd (by rw [hN.2.2.2.2.2.2.1]; exact nI_le (by omega) (by have := hN.2.2.2.2.2.2.2; omega)) h17)
    rw [show mmeL S T 0 i a = a from by rw [mmeL]; (try dsimp only); first | done | rfl] at hkk; refine zden1_fg (L := [(1, .int (a)), (0, .ref (x + 0))]) (zfg_cons rfl (zfg_cons rfl zfg_nil)) ?_; exact hkk
  | m + 1, i, a, e, hkk => by
    have hk12 : i < 12 := by have := hN.2.2.2.2.2.2.2; omega
    refine (ys4 10 (v := .int (nI i)) rfl rfl rfl rfl).trans ?_
    refine (ys4 11 (v := .ref (x + 0)) rfl rfl rfl rfl).trans ?_
    refine (ygr 14 rfl (zFS.tag hM.1.1 (j := 0) (by decide) rfl) rfl hM.2.1).trans ?_
    refine (yg 17 rfl (zFS.tag (hMq hM (X := X) (S := S)).2.2.2.1 (j := 0) (by decide) rfl) (zFS.ni (hMq hM (X := X) (S := S)).2.2.2.1 (j := 0) (by decide) rfl) (by decide) rfl (zt3_at hM (j := 0) (by decide))).trans ?_
    refine ys18_3 20 rfl rfl (fun h17 => absurd h17 (by rw [hN.2.2.2.2.2.2.1]; exact nI_ge (by omega) (by have := hN.2.2.2.2.2.2.2; omega))) (fun h17 => ?_)
    refine (ys4 21 (v := .int (a)) rfl rfl rfl rfl).trans ?_
    refine (ys4 22 (v := .ref (x + 0)) rfl rfl rfl rfl).trans ?_
    refine (ygr 25 rfl (zFS.tag hM.1.1 (j := 0) (by decide) rfl) rfl hM.2.2.1).trans ?_
    refine (ys4 26 (v := .int (nI i)) rfl rfl rfl rfl).trans ?_
    refine (yc2 29 rfl rfl (Nat.le_of_ble_eq_true rfl) (Or.inr (by show ztg (zwi _ _) _ = _; rw [ztg_wi]; exact (zFS.tag (hMs hM).1 (j := 0) (by decide) rfl))) rfl rfl (lsm hM (fun K hC => c_ia hC hk12))).trans ?_
    refine ys17_0 32 rfl rfl (fun h29 => ?_) (fun h29 => ?_)
    · refine (ys1 45 (x := 0) rfl rfl rfl).trans ?_
      refine (ys7_0 46 rfl rfl).trans ?_
      refine (ys5 47 (L2 := [(1, .int ((a + 0))), (2, .int (nI i)), (0, .ref (x + 0))]) rfl rfl rfl rfl).trans ?_
      refine (ys6 50 (y := nI (i + 1)) (L2 := [(2, .int (nI (i + 1))), (1, .int ((a + 0))), (0, .ref (x + 0))]) rfl rfl (nI_1 _) rfl rfl).trans ?_
      refine (ys19 rfl).trans ?_
      rw [show mmeL S T (m + 1) i a = mmeL S T m (i + 1) (a + 0) from by rw [mmeL]; (try dsimp only); rw [if_pos h29]] at hkk; exact l_mme hM hN m (i + 1) (a + 0)   (by omega) hkk
    · refine (ys4 33 (v := .ref (x + 0)) rfl rfl rfl rfl).trans ?_
      refine (ygr 36 rfl (zFS.tag hM.1.1 (j := 0) (by decide) rfl) rfl hM.2.2.1).trans ?_
      refine (ygr 39 rfl (zFS.tag (hMs hM).1 (j := 0) (by decide) rfl) rfl ((hMs hM).2.1 19 (by decide))).trans ?_
      refine (ys4 40 (v := .int (nI i)) rfl rfl rfl rfl).trans ?_
      refine (ylx 41 (N := 12) rfl (j := i) rfl (Or.inl (zFS.tag (hMs hM).1 (j := 20) (by decide) rfl)) (zFS.ni (hMs hM).1 (j := 20) (by decide) rfl) hk12 (by decide) rfl (zs3_at hM (j := 20) (by decide))).trans ?_
      refine (ys19 rfl).trans ?_
      refine (ys7_0 46 rfl rfl).trans ?_
      refine (ys5 47 (L2 := [(1, .int ((a + (S 20 i)))), (2, .int (nI i)), (0, .ref (x + 0))]) rfl rfl rfl rfl).trans ?_
      refine (ys6 50 (y := nI (i + 1)) (L2 := [(2, .int (nI (i + 1))), (1, .int ((a + (S 20 i)))), (0, .ref (x + 0))]) rfl rfl (nI_1 _) rfl rfl).trans ?_
      refine (ys19 rfl).trans ?_
      rw [show mmeL S T (m + 1) i a = mmeL S T m (i + 1) (a + (S 20 i)) from by rw [mmeL]; (try dsimp only); rw [if_neg h29]] at hkk; exact l_mme hM hN m (i + 1) (a + (S 20 i))   (by omega) hkk

theorem rar_nI (S T : zFn) : ∀ (m i c : Nat), ∃ e, e ≤ m ∧ rarL S T m i (nI c) = nI (c + e)
  | 0, _, c => ⟨0, Nat.le_refl _, rfl⟩
  | m + 1, i, c => by
    rw [rarL]
    (try dsimp only)
    by_cases h : ria S T i = 0
    · rw [if_pos h, Int32.add_zero]
      obtain ⟨e, h1, h2⟩ := rar_nI S T m (i + 1) c
      exact ⟨e, by omega, h2⟩
    · rw [if_neg h, nI_1]
      obtain ⟨e, h1, h2⟩ := rar_nI S T m (i + 1) (c + 1)
      exact ⟨e + 1, by omega, by rw [show c + (e + 1) = c + 1 + e from by omega]; exact h2⟩

def mmean (X : zFn) (S : zFn) (T : zFn) (nk : Nat) : UInt64 × zFn :=
  let X1 := zup X 0 0 (0)
  if (rarL S T nk 0 0) = 0 then
    (FP.dconst0, X1)
  else
    ((FP.ddiv (FP.i2d ((mmeL S T nk 0 0))) (FP.i2d ((rarL S T nk 0 0)))), X1)

theorem c_mme {d : Nat} {x t s q : Nat} {X S A T J : zFn} {μ : zM} (hM : zMC μ x t s q J T) {nl np nh nk : Nat} (hN : zTN T nl np nh nk) : zden zcds (d + 5) 181 [.ref (x + 0)] (zwi μ (zfl (zfl (zfl J x 6 X) s 22 S) q 22 A)) = some (0, some (.double ((mmean X S T nk).1)), 0, 0, zwi μ (zfl (zfl (zfl J x 6 ((mmean X S T nk).2)) s 22 S) q 22 A)) := by
  refine (zd_in (d := d + 4) (cd := zc181) (nL := 3) (L := [(0, .ref (x + 0))]) rfl (Nat.le_of_ble_eq_true rfl) rfl).trans ?_
  refine (ys4 1 (v := .ref (x + 0)) rfl rfl rfl rfl).trans ?_
  refine (ys1 2 (x := 0) rfl rfl rfl).trans ?_
  refine (yq 5 rfl (zFS.tag hM.1.1 (j := 0) (by decide) rfl) (zFS.k0 hM.1.1 (j := 0)) (zFS.ni hM.1.1 (j := 0) (by decide) rfl) (by decide) rfl (zx3_up hM (j := 0) (by decide))).trans ?_
  generalize hX1 : zup X 0 0 (0) = X1
  refine (ys1 6 (x := 0) rfl rfl rfl).trans ?_
  refine (ys5 7 (L2 := [(1, .int (0)), (0, .ref (x + 0))]) rfl rfl rfl rfl).trans ?_
  refine (ys1 8 (x := nI 0) rfl rfl rfl).trans ?_
  refine (ys5 9 (L2 := [(2, .int (nI 0)), (1, .int (0)), (0, .ref (x + 0))]) rfl rfl rfl rfl).trans ?_
  refine l_mme hM hN nk 0 0 (by omega) ?_
  refine (ys4 54 (v := .ref (x + 0)) rfl rfl rfl rfl).trans ?_
  refine (ygr 57 rfl (zFS.tag hM.1.1 (j := 0) (by decide) rfl) rfl hM.2.2.1).trans ?_
  refine (yc1 60 rfl rfl (Nat.le_of_ble_eq_true rfl) (Or.inr (by show ztg (zwi _ _) _ = _; rw [ztg_wi]; exact (zFS.tag (hMs hM).1 (j := 0) (by decide) rfl))) rfl rfl (lsm hM (fun K hC => c_rar hC hN))).trans ?_
  refine ys17_1 63 rfl rfl (fun h60 => ?_) (fun h60 => ?_)
  · refine (ys13 64 rfl rfl).trans ?_
    refine (ys19 rfl).trans ?_
    refine (ys36 rfl rfl).trans ?_
    rw [show mmean X S T nk = (FP.dconst0, X1) from by subst hX1; unfold mmean; (try dsimp only); rw [if_pos h60]]; (first | done | rfl)
  · refine (ys4 68 (v := .int ((mmeL S T nk 0 0))) rfl rfl rfl rfl).trans ?_
    refine (ys10 69 rfl rfl).trans ?_
    refine (ys4 70 (v := .ref (x + 0)) rfl rfl rfl rfl).trans ?_
    refine (ygr 73 rfl (zFS.tag hM.1.1 (j := 0) (by decide) rfl) rfl hM.2.2.1).trans ?_
    refine (yc1 76 rfl rfl (Nat.le_of_ble_eq_true rfl) (Or.inr (by show ztg (zwi _ _) _ = _; rw [ztg_wi]; exact (zFS.tag (hMs hM).1 (j := 0) (by decide) rfl))) rfl rfl (lsm hM (fun K hC => c_rar hC hN))).trans ?_
    refine (ys10 77 rfl rfl).trans ?_
    refine (ys12_0 78 rfl (by obtain ⟨c_, hc1, hc2⟩ := rar_nI S T nk 0 0; have hc3 : (rarL S T nk 0 0) = nI c_ := (by rw [Nat.zero_add] at hc2; exact hc2); rw [hc3] at h60 ⊢; exact dq_ok _ (fun e => h60 (by rw [e]; rfl)) (by have := hN.2.2.2.2.2.2.2; omega)) rfl).trans ?_
    refine (ys36 rfl rfl).trans ?_
    rw [show mmean X S T nk = ((FP.ddiv (FP.i2d ((mmeL S T nk 0 0))) (FP.i2d ((rarL S T nk 0 0)))), X1) from by subst hX1; unfold mmean; (try dsimp only); rw [if_neg h60]]; (first | done | rfl)

theorem zq_vme {V : zV} {T S : zFn} {nl np nh nk g : Nat} (hR : zqR V T S nl np nh nk g) : ∀ (m i : Nat) (a b : Int32), i + m = nk → vmeL V m i a b = (mmeL S T m i a, rarL S T m i b)
  | 0, _, _, _, _ => rfl
  | m + 1, i, a, b, hi => by
    rw [vmeL, mmeL, rarL]
    (try dsimp only)
    rw [zq_arr hR (by omega), (hR.2.2.2.2.2 i (by omega)).2.2.2.2.1]
    by_cases h : ria S T i = 0
    · rw [if_pos h, if_pos h, if_pos h, Int32.add_zero, Int32.add_zero]
      exact zq_vme hR m (i + 1) _ _ (by omega)
    · rw [if_neg h, if_neg h, if_neg h]
      exact zq_vme hR m (i + 1) _ _ (by omega)
theorem zq_mea {V : zV} {T S X : zFn} {nl np nh nk g : Nat} (hR : zqR V T S nl np nh nk g) : vmean V nk = (mmean X S T nk).1 ∧ (mmean X S T nk).2 = zup X 0 0 0 ∧ FP.dcmp (vmean V nk) (vmean V nk) = some .eq := by
  have hk := (zq_np hR).2.2.2
  unfold vmean mmean
  dsimp only
  rw [zq_vme hR nk 0 0 0 (by omega)]
  dsimp only
  by_cases h : rarL S T nk 0 0 = 0
  · rw [if_pos h, if_pos h]
    exact ⟨rfl, rfl, dq_zero⟩
  · rw [if_neg h, if_neg h]
    refine ⟨rfl, rfl, ?_⟩
    obtain ⟨c, h1, h2⟩ := rar_nI S T nk 0 0
    have h3 : rarL S T nk 0 0 = nI c := (by rw [Nat.zero_add] at h2; exact h2)
    rw [h3] at h ⊢
    exact dq_same _ (fun e => h (by rw [e]; rfl)) (by omega)

