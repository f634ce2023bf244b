/-! THE REFERENCE: doubles, what is told of a loft, a pigeon, a letter -/
def me1L (T : zFn) (k : Nat) (v : Int32) (w : Nat) : Nat → Nat → Nat → zFn → zFn
  | 0, i, ec, A =>
    A
  | m + 1, i, ec, A =>
    if ((zbin 7 (v) ((nI (zsf (rca A T k i) 20)))) &&& 1) = 0 then
      me1L T k v w m (i + 1) ec A
    else
      if (nI (ec + 1)) ≤ (nI w) then
        me1L T k v w m (i + 1) (ec + 1) A
      else
        let A1 := zup A 4 (zsf (rca A T k i) 20) (2)
        me1L T k v w m (i + 1) (ec + 1) A1

theorem l_me1 {d c sl : Nat} {rz : zR} {x t s q : Nat} {X S T J : zFn} {μ : zM} (hM : zMC μ x t s q J T) {k : Nat} (hk12 : k < 12) {v z : Int32} {w n : Nat} (hn20 : n ≤ 20) : ∀ (m i : Nat) (ec : Nat) (A : zFn), zIN T A → rcs A T k = nI n → i + m = n → zden1 (d + 8) (zden zcds (d + 8)) zc178 (91, [(4, .int (z)), (0, .ref (x + 0)), (1, .int (nI k)), (2, .int (v)), (3, .int (nI w))], [], c, sl, zwi μ (zfl (zfl (zfl J x 6 X) s 22 S) q 22 ((me1L T k v w m i ec A)))) = some rz → zden1 (d + 8) (zden zcds (d + 8)) zc178 (28, [(6, .int (nI i)), (5, .int (nI ec)), (4, .int (z)), (0, .ref (x + 0)), (1, .int (nI k)), (2, .int (v)), (3, .int (nI w))], [], c, sl, zwi μ (zfl (zfl (zfl J x 6 X) s 22 S) q 22 A)) = some rz
  | 0, i, ec, A, hIA, hn, e, hkk => by
    have ei : i = n := by omega
    subst ei
    refine (ys4 30 (v := .int (nI i)) rfl rfl rfl rfl).trans ?_
    refine (ys4 31 (v := .ref (x + 0)) rfl rfl rfl rfl).trans ?_
    refine (ygr 34 rfl (zFS.tag hM.1.1 (j := 0) (by decide) rfl) rfl hM.2.2.2.1).trans ?_
    refine (ys4 35 (v := .int (nI k)) rfl rfl rfl rfl).trans ?_
    refine (yc2 38 rfl rfl (Nat.le_of_ble_eq_true rfl) (Or.inr (by show ztg (zwi _ _) _ = _; rw [ztg_wi]; exact (zFS.tag (hMq hM (X := X) (S := S)).1 (j := 0) (by decide) rfl))) rfl rfl (c_rcs (hMq hM) hk12 hIA)).trans ?_
    refine ys18_3 41 rfl rfl (fun h38 => ?_) (fun h38 => absurd (by rw [hn]; exact nI_le (by omega) (by omega)) h38)
    rw [show me1L T k v w 0 i ec A = A from by rw [me1L]; (try dsimp only); first | done | rfl] at hkk; refine zden1_fg (L := [(4, .int (z)), (0, .ref (x + 0)), (1, .int (nI k)), (2, .int (v)), (3, .int (nI w))]) (zfg_cons rfl (zfg_cons rfl (zfg_cons rfl (zfg_cons rfl (zfg_cons rfl zfg_nil))))) ?_; exact hkk
  | m + 1, i, ec, A, hIA, hn, e, hkk => by
    have hi20 : i < 20 := by omega
    have h6 : zsf (A 18 k) 7 < 6 := (rcs_le hk12 hIA).2.2 (by have e1 := (rcs_le hk12 hIA).1; rw [hn] at e1; have := congrArg Int32.toNatClampNeg e1; rw [nI_clamp (by omega), nI_clamp (by have := (rcs_le hk12 hIA).2.1; omega)] at this; omega)
    refine (ys4 30 (v := .int (nI i)) rfl rfl rfl rfl).trans ?_
    refine (ys4 31 (v := .ref (x + 0)) rfl rfl rfl rfl).trans ?_
    refine (ygr 34 rfl (zFS.tag hM.1.1 (j := 0) (by decide) rfl) rfl hM.2.2.2.1).trans ?_
    refine (ys4 35 (v := .int (nI k)) rfl rfl rfl rfl).trans ?_
    refine (yc2 38 rfl rfl (Nat.le_of_ble_eq_true rfl) (Or.inr (by show ztg (zwi _ _) _ = _; rw [ztg_wi]; exact (zFS.tag (hMq hM (X := X) (S := S)).1 (j := 0) (by decide) rfl))) rfl rfl (c_rcs (hMq hM) hk12 hIA)).trans ?_
    refine ys18_3 41 rfl rfl (fun h38 => absurd h38 (by rw [hn]; exact nI_ge (by omega) (by omega))) (fun h38 => ?_)
    refine (ys4 42 (v := .ref (x + 0)) rfl rfl rfl rfl).trans ?_
    refine (ygr 45 rfl (zFS.tag hM.1.1 (j := 0) (by decide) rfl) rfl hM.2.2.2.1).trans ?_
    refine (ys4 46 (v := .int (nI k)) rfl rfl rfl rfl).trans ?_
    refine (ys4 48 (v := .int (nI i)) rfl rfl rfl rfl).trans ?_
    refine (yc3 51 rfl rfl (Nat.le_of_ble_eq_true rfl) (Or.inr (by show ztg (zwi _ _) _ = _; rw [ztg_wi]; exact (zFS.tag (hMq hM (X := X) (S := S)).1 (j := 0) (by decide) rfl))) rfl rfl (c_rca (hMq hM) hk12 hi20 hIA h6)).trans ?_
    rw [show (rca A T k i) = (nI (zsf (rca A T k i) 20)) from ((rca_ix hk12 hi20 hIA h6).eq (by decide))]
    refine (ys5 53 (L2 := [(7, .int ((nI (zsf (rca A T k i) 20)))), (6, .int (nI i)), (5, .int (nI ec)), (4, .int (z)), (0, .ref (x + 0)), (1, .int (nI k)), (2, .int (v)), (3, .int (nI w))]) rfl rfl rfl rfl).trans ?_
    refine (ys4 54 (v := .int (v)) rfl rfl rfl rfl).trans ?_
    refine (ys4 56 (v := .int ((nI (zsf (rca A T k i) 20)))) rfl rfl rfl rfl).trans ?_
    refine (ys7 57 (b := 7) rfl rfl).trans ?_
    refine (ys1 58 (x := 1) rfl rfl rfl).trans ?_
    refine (ys7_3 59 rfl rfl).trans ?_
    refine ys17_1 62 rfl rfl (fun h59 => ?_) (fun h59 => ?_)
    · refine (ys19 rfl).trans ?_
      refine (ys6 88 (y := nI (i + 1)) (L2 := [(6, .int (nI (i + 1))), (7, .int ((nI (zsf (rca A T k i) 20)))), (5, .int (nI ec)), (4, .int (z)), (0, .ref (x + 0)), (1, .int (nI k)), (2, .int (v)), (3, .int (nI w))]) rfl rfl (nI_1 _) rfl rfl).trans ?_
      refine (ys19 rfl).trans ?_
      rw [show me1L T k v w (m + 1) i ec A = me1L T k v w m (i + 1) ec A from by rw [me1L]; (try dsimp only); rw [if_pos h59]] at hkk; refine zden1_fg (L := [(6, .int (nI (i + 1))), (5, .int (nI ec)), (4, .int (z)), (0, .ref (x + 0)), (1, .int (nI k)), (2, .int (v)), (3, .int (nI w))]) (zfg_cons rfl (zfg_cons rfl (zfg_cons rfl (zfg_cons rfl (zfg_cons rfl (zfg_cons rfl (zfg_cons rfl zfg_nil))))))) ?_; exact l_me1 hM hk12 hn20 m (i + 1) ec A  hIA hn (by omega) hkk
    · refine (ys6 68 (y := nI (ec + 1)) (L2 := [(5, .int (nI (ec + 1))), (7, .int ((nI (zsf (rca A T k i) 20)))), (6, .int (nI i)), (4, .int (z)), (0, .ref (x + 0)), (1, .int (nI k)), (2, .int (v)), (3, .int (nI w))]) rfl rfl (nI_1 _) rfl rfl).trans ?_
      refine (ys4 70 (v := .int (nI (ec + 1))) rfl rfl rfl rfl).trans ?_
      refine (ys4 71 (v := .int (nI w)) rfl rfl rfl rfl).trans ?_
      refine ys18_5 74 rfl rfl (fun h71 => ?_) (fun h71 => ?_)
      · refine (ys6 88 (y := nI (i + 1)) (L2 := [(6, .int (nI (i + 1))), (5, .int (nI (ec + 1))), (7, .int ((nI (zsf (rca A T k i) 20)))), (4, .int (z)), (0, .ref (x + 0)), (1, .int (nI k)), (2, .int (v)), (3, .int (nI w))]) rfl rfl (nI_1 _) rfl rfl).trans ?_
        refine (ys19 rfl).trans ?_
        rw [show me1L T k v w (m + 1) i ec A = me1L T k v w m (i + 1) (ec + 1) A from by rw [me1L]; (try dsimp only); rw [if_neg h59, if_pos h71]] at hkk; refine zden1_fg (L := [(6, .int (nI (i + 1))), (5, .int (nI (ec + 1))), (4, .int (z)), (0, .ref (x + 0)), (1, .int (nI k)), (2, .int (v)), (3, .int (nI w))]) (zfg_cons rfl (zfg_cons rfl (zfg_cons rfl (zfg_cons rfl (zfg_cons rfl (zfg_cons rfl (zfg_cons rfl zfg_nil))))))) ?_; exact l_me1 hM hk12 hn20 m (i + 1) (ec + 1) A  hIA hn (by omega) hkk
      · refine (ys4 75 (v := .ref (x + 0)) rfl rfl rfl rfl).trans ?_
        refine (ygr 78 rfl (zFS.tag hM.1.1 (j := 0) (by decide) rfl) rfl hM.2.2.2.1).trans ?_
        refine (ygr 81 rfl (zFS.tag (hMq hM (X := X) (S := S)).1 (j := 0) (by decide) rfl) rfl ((hMq hM (X := X) (S := S)).2.1 3 (by decide))).trans ?_
        refine (ys4 83 (v := .int ((nI (zsf (rca A T k i) 20)))) rfl rfl rfl rfl).trans ?_
        refine (ys1 84 (x := 2) rfl rfl rfl).trans ?_
        refine (ywx 85 (N := 20) rfl (j := (zsf (rca A T k i) 20)) rfl (zFS.tag (hMq hM (X := X) (S := S)).1 (j := 4) (by decide) rfl) (zFS.k0 (hMq hM (X := X) (S := S)).1 (j := 4)) (zFS.ni (hMq hM (X := X) (S := S)).1 (j := 4) (by decide) rfl) (zsf_lt (by decide) (by decide)) (by decide) rfl (zfl_up (j := 4) (by decide))).trans ?_
        generalize hA1 : zup A 4 (zsf (rca A T k i) 20) (2) = A1
        have hIA1 : zIN T A1 := by rw [← hA1]; exact zIN_u hIA (by decide)
        refine (ys6 88 (y := nI (i + 1)) (L2 := [(6, .int (nI (i + 1))), (5, .int (nI (ec + 1))), (7, .int ((nI (zsf (rca A T k i) 20)))), (4, .int (z)), (0, .ref (x + 0)), (1, .int (nI k)), (2, .int (v)), (3, .int (nI w))]) rfl rfl (nI_1 _) rfl rfl).trans ?_
        refine (ys19 rfl).trans ?_
        rw [show me1L T k v w (m + 1) i ec A = me1L T k v w m (i + 1) (ec + 1) A1 from by subst hA1; rw [me1L]; (try dsimp only); rw [if_neg h59, if_neg h71]] at hkk; refine zden1_fg (L := [(6, .int (nI (i + 1))), (5, .int (nI (ec + 1))), (4, .int (z)), (0, .ref (x + 0)), (1, .int (nI k)), (2, .int (v)), (3, .int (nI w))]) (zfg_cons rfl (zfg_cons rfl (zfg_cons rfl (zfg_cons rfl (zfg_cons rfl (zfg_cons rfl (zfg_cons rfl zfg_nil))))))) ?_; exact l_me1 hM hk12 hn20 m (i + 1) (ec + 1) A1  hIA1 (by rw [← hA1, rcs_cg (zup_ne' (by omega))]; exact hn) (by omega) hkk

theorem me1L_I {T : zFn} {k w : Nat} {v : Int32} : ∀ (m i e : Nat) (A : zFn), zIN T A → zIN T (me1L T k v w m i e A)
  | 0, _, _, _, h => h
  | m + 1, i, e, A, h => by
    rw [me1L]
    dsimp only
    repeat' split
    all_goals first | exact me1L_I m _ _ _ h | exact me1L_I m _ _ _ (zIN_u h (by decide))

def me2L (T : zFn) (nl : Nat) (np : Nat) (nh : Nat) (nk : Nat) (k : Nat) (z : Int32) : Nat → Nat → zFn → Int32 × zFn
  | 0, i, A =>
    (0, A)
  | m + 1, i, A =>
    let A1 := rpa A T nl np nh nk
    if (A1 18 k) ≤ z then
      me2L T nl np nh nk k z m (i + 1) A1
    else
      (1, A1)

theorem l_me2 {d c sl : Nat} {x t s q : Nat} {X S T J : zFn} {μ : zM} (hM : zMC μ x t s q J T) {nl np nh nk : Nat} (hN : zTN T nl np nh nk) {k : Nat} (hk12 : k < 12) {v z : Int32} {w : Nat} : ∀ (m i : Nat) (A : zFn), zIN T A → i + m = 100 → zden1 (d + 8) (zden zcds (d + 8)) zc178 (94, [(6, .int (nI i)), (4, .int (z)), (0, .ref (x + 0)), (1, .int (nI k)), (2, .int (v)), (3, .int (nI w))], [], c, sl, zwi μ (zfl (zfl (zfl J x 6 X) s 22 S) q 22 A)) = some (0, some (.int ((me2L T nl np nh nk k z m i A).1)), c, sl, zwi μ (zfl (zfl (zfl J x 6 X) s 22 S) q 22 ((me2L T nl np nh nk k z m i A).2)))
  | 0, i, A, hIA, e => by
    refine (ys4 96 (v := .int (nI i)) rfl rfl rfl rfl).trans ?_
    refine (ys1 98 (x := nI 100) rfl rfl rfl).trans ?_
    refine ys18_3 101 rfl rfl (fun h98 => ?_) (fun h98 => absurd (nI_le (by omega) (by omega)) h98)
    refine (ys1 131 (x := 0) rfl rfl rfl).trans ?_
    refine (ys36 rfl (by decide)).trans ?_
    rw [show me2L T nl np nh nk k z 0 i A = (0, A) from by rw [me2L]; (try dsimp only); first | done | rfl]; (first | done | rfl)
  | m + 1, i, A, hIA, e => by
    refine (ys4 96 (v := .int (nI i)) rfl rfl rfl rfl).trans ?_
    refine (ys1 98 (x := nI 100) rfl rfl rfl).trans ?_
    refine ys18_3 101 rfl rfl (fun h98 => absurd h98 (nI_ge (by omega) (by omega))) (fun h98 => ?_)
    refine (ys4 102 (v := .ref (x + 0)) rfl rfl rfl rfl).trans ?_
    refine (ygr 105 rfl (zFS.tag hM.1.1 (j := 0) (by decide) rfl) rfl hM.2.2.2.1).trans ?_
    refine (yc1 108 rfl rfl (Nat.le_of_ble_eq_true rfl) (Or.inr (by show ztg (zwi _ _) _ = _; rw [ztg_wi]; exact (zFS.tag (hMq hM (X := X) (S := S)).1 (j := 0) (by decide) rfl))) rfl rfl (c_rpa (hMq hM) hN hIA)).trans ?_
    generalize hA1 : rpa A T nl np nh nk = A1
    have hIA1 : zIN T A1 := by rw [← hA1]; exact rpa_I hN hIA
    refine (ys4 109 (v := .ref (x + 0)) rfl rfl rfl rfl).trans ?_
    refine (ygr 112 rfl (zFS.tag hM.1.1 (j := 0) (by decide) rfl) rfl hM.2.2.2.1).trans ?_
    refine (ygr 115 rfl (zFS.tag (hMq hM (X := X) (S := S)).1 (j := 0) (by decide) rfl) rfl ((hMq hM (X := X) (S := S)).2.1 17 (by decide))).trans ?_
    refine (ys4 116 (v := .int (nI k)) rfl rfl rfl rfl).trans ?_
    refine (ylx 117 (N := 12) rfl (j := k) rfl (Or.inl (zFS.tag (hMq hM (X := X) (S := S)).1 (j := 18) (by decide) rfl)) (zFS.ni (hMq hM (X := X) (S := S)).1 (j := 18) (by decide) rfl) (by omega) (by decide) rfl (zfl_at (j := 18) (by decide))).trans ?_
    refine (ys4 119 (v := .int (z)) rfl rfl rfl rfl).trans ?_
    refine ys18_5 122 rfl rfl (fun h119 => ?_) (fun h119 => ?_)
    · refine (ys6 127 (y := nI (i + 1)) (L2 := [(6, .int (nI (i + 1))), (4, .int (z)), (0, .ref (x + 0)), (1, .int (nI k)), (2, .int (v)), (3, .int (nI w))]) rfl rfl (nI_1 _) rfl rfl).trans ?_
      refine (ys19 rfl).trans ?_
      rw [show me2L T nl np nh nk k z (m + 1) i A = me2L T nl np nh nk k z m (i + 1) A1 from by subst hA1; rw [me2L]; (try dsimp only); rw [if_pos h119]]; exact l_me2 hM hN hk12 m (i + 1)  A1  hIA1 (by omega)
    · refine (ys1 123 (x := 1) rfl rfl rfl).trans ?_
      refine (ys36 rfl (by decide)).trans ?_
      rw [show me2L T nl np nh nk k z (m + 1) i A = (1, A1) from by subst hA1; rw [me2L]; (try dsimp only); rw [if_neg h119]]; (first | done | rfl)

def men (A : zFn) (S : zFn) (T : zFn) (nl : Nat) (np : Nat) (nh : Nat) (nk : Nat) (k : Nat) (v : Int32) (w : Nat) : Int32 × zFn :=
  let A1 := rbc S
  let A2 := me1L T k v w (rN A1 T k) 0 0 A1
  me2L T nl np nh nk k (A1 18 k) 100 0 A2

theorem c_men {d : Nat} {x t s q : Nat} {X S A T J : zFn} {μ : zM} (hM : zMC μ x t s q J T) {nl np nh nk : Nat} (hN : zTN T nl np nh nk) (hI : zIN T S) {k : Nat} (hk12 : k < 12) {v : Int32} {w : Nat} : zden zcds (d + 9) 178 [.ref (x + 0), .int (nI k), .int (v), .int (nI w)] (zwi μ (zfl (zfl (zfl J x 6 X) s 22 S) q 22 A)) = some (0, some (.int ((men A S T nl np nh nk k v w).1)), 0, 0, zwi μ (zfl (zfl (zfl J x 6 X) s 22 S) q 22 ((men A S T nl np nh nk k v w).2))) := by
  refine (zd_in (d := d + 8) (cd := zc178) (nL := 8) (L := [(0, .ref (x + 0)), (1, .int (nI k)), (2, .int (v)), (3, .int (nI w))]) rfl (Nat.le_of_ble_eq_true rfl) rfl).trans ?_
  refine (ys4 1 (v := .ref (x + 0)) rfl rfl rfl rfl).trans ?_
  refine (ygr 4 rfl (zFS.tag hM.1.1 (j := 0) (by decide) rfl) rfl hM.2.2.2.1).trans ?_
  refine (ys4 5 (v := .ref (x + 0)) rfl rfl rfl rfl).trans ?_
  refine (ygr 8 rfl (zFS.tag hM.1.1 (j := 0) (by decide) rfl) rfl hM.2.2.1).trans ?_
  refine (yc2 11 rfl rfl (Nat.le_of_ble_eq_true rfl) (Or.inr (by show ztg (zwi _ _) _ = _; rw [ztg_wi]; exact (zFS.tag (hMq hM (X := X) (S := S)).1 (j := 0) (by decide) rfl))) rfl rfl (c_bec (hMq hM) (hMo hM))).trans ?_
  generalize hA1 : rbc S = A1
  have hIA1 : zIN T A1 := by rw [← hA1]; exact zIN_bc hI
  refine (ys4 12 (v := .ref (x + 0)) rfl rfl rfl rfl).trans ?_
  refine (ygr 15 rfl (zFS.tag hM.1.1 (j := 0) (by decide) rfl) rfl hM.2.2.2.1).trans ?_
  refine (ygr 18 rfl (zFS.tag (hMq hM (X := X) (S := S)).1 (j := 0) (by decide) rfl) rfl ((hMq hM (X := X) (S := S)).2.1 17 (by decide))).trans ?_
  refine (ys4 19 (v := .int (nI k)) rfl rfl rfl rfl).trans ?_
  refine (ylx 20 (N := 12) rfl (j := k) rfl (Or.inl (zFS.tag (hMq hM (X := X) (S := S)).1 (j := 18) (by decide) rfl)) (zFS.ni (hMq hM (X := X) (S := S)).1 (j := 18) (by decide) rfl) (by omega) (by decide) rfl (zfl_at (j := 18) (by decide))).trans ?_
  refine (ys5 22 (L2 := [(4, .int ((A1 18 k))), (0, .ref (x + 0)), (1, .int (nI k)), (2, .int (v)), (3, .int (nI w))]) rfl rfl rfl rfl).trans ?_
  refine (ys1 23 (x := nI 0) rfl rfl rfl).trans ?_
  refine (ys5 25 (L2 := [(5, .int (nI 0)), (4, .int ((A1 18 k))), (0, .ref (x + 0)), (1, .int (nI k)), (2, .int (v)), (3, .int (nI w))]) rfl rfl rfl rfl).trans ?_
  refine (ys1 26 (x := nI 0) rfl rfl rfl).trans ?_
  refine (ys5 28 (L2 := [(6, .int (nI 0)), (5, .int (nI 0)), (4, .int ((A1 18 k))), (0, .ref (x + 0)), (1, .int (nI k)), (2, .int (v)), (3, .int (nI w))]) rfl rfl rfl rfl).trans ?_
  refine l_me1 hM hk12 (rcs_le hk12 hIA1).2.1 (rN A1 T k) 0 0 A1 hIA1 (rcs_le hk12 hIA1).1 (by omega) ?_
  generalize hA2 : me1L T k v w (rN A1 T k) 0 0 A1 = A2
  have hIA2 : zIN T A2 := by rw [← hA2]; exact me1L_I _ _ _ _ hIA1
  refine (ys1 92 (x := nI 0) rfl rfl rfl).trans ?_
  refine (ys5 94 (L2 := [(6, .int (nI 0)), (4, .int ((A1 18 k))), (0, .ref (x + 0)), (1, .int (nI k)), (2, .int (v)), (3, .int (nI w))]) rfl rfl rfl rfl).trans ?_
  rw [show men A S T nl np nh nk k v w = me2L T nl np nh nk k (A1 18 k) 100 0 A2 from by subst hA2 hA1; unfold men; rfl]; exact l_me2 hM hN hk12 100 0 _ hIA2 (by omega)

def mdoL (S : zFn) (T : zFn) (nl : Nat) (np : Nat) (nh : Nat) (nk : Nat) (k : Nat) (y : Int32) : Nat → Nat → zFn → Int32 × zFn
  | 0, i, A =>
    ((-1), A)
  | m + 1, i, A =>
    let r1 := men A S T nl np nh nk k y i
    if r1.1 = 0 then
      mdoL S T nl np nh nk k y m (i + 1) r1.2
    else
      (nI i, r1.2)

theorem l_mdo {d c sl : Nat} {x t s q : Nat} {X S T J : zFn} {μ : zM} (hM : zMC μ x t s q J T) {nl np nh nk : Nat} (hN : zTN T nl np nh nk) (hI : zIN T S) {k : Nat} (hk12 : k < 12) {y u : Int32} {z : Nat} (hz : vbc y = nI z) (hz64 : z < 64) : ∀ (m i : Nat) (A : zFn), i + m = z + 1 → zden1 (d + 10) (zden zcds (d + 10)) zc179 (77, [(4, .int (nI i)), (3, .int (y)), (2, .int (u)), (0, .ref (x + 0)), (1, .int (nI k))], [], c, sl, zwi μ (zfl (zfl (zfl J x 6 X) s 22 S) q 22 A)) = some (0, some (.int ((mdoL S T nl np nh nk k y m i A).1)), c, sl, zwi μ (zfl (zfl (zfl J x 6 X) s 22 S) q 22 ((mdoL S T nl np nh nk k y m i A).2)))
  | 0, i, A, e => by
    refine (ys4 79 (v := .int (nI i)) rfl rfl rfl rfl).trans ?_
    refine (ys4 80 (v := .int (y)) rfl rfl rfl rfl).trans ?_
    refine (yc1 83 rfl rfl (Nat.le_of_ble_eq_true rfl) (Or.inl rfl) rfl rfl c_bc).trans ?_
    rw [show (vbc y) = nI z from hz]
    refine ys18_4 86 rfl rfl (fun h83 => ?_) (fun h83 => absurd (nI_lt (by omega) (by omega)) h83)
    refine (ys1 107 (x := (-1)) rfl rfl rfl).trans ?_
    refine (ys36 rfl rfl).trans ?_
    rw [show mdoL S T nl np nh nk k y 0 i A = ((-1), A) from by rw [mdoL]; (try dsimp only); first | done | rfl]; (first | done | rfl)
  | m + 1, i, A, e => by
    refine (ys4 79 (v := .int (nI i)) rfl rfl rfl rfl).trans ?_
    refine (ys4 80 (v := .int (y)) rfl rfl rfl rfl).trans ?_
    refine (yc1 83 rfl rfl (Nat.le_of_ble_eq_true rfl) (Or.inl rfl) rfl rfl c_bc).trans ?_
    rw [show (vbc y) = nI z from hz]
    refine ys18_4 86 rfl rfl (fun h83 => absurd h83 (nI_nlt (by omega) (by omega))) (fun h83 => ?_)
    refine (ys4 87 (v := .ref (x + 0)) rfl rfl rfl rfl).trans ?_
    refine (ys4 88 (v := .int (nI k)) rfl rfl rfl rfl).trans ?_
    refine (ys4 89 (v := .int (y)) rfl rfl rfl rfl).trans ?_
    refine (ys4 91 (v := .int (nI i)) rfl rfl rfl rfl).trans ?_
    refine (yc4 94 rfl rfl (Nat.le_of_ble_eq_true rfl) (Or.inr (by show ztg (zwi _ _) _ = _; rw [ztg_wi]; exact (zFS.tag hM.1.1 (j := 0) (by decide) rfl))) rfl rfl (c_men hM hN hI hk12)).trans ?_
    generalize hr1 : men A S T nl np nh nk k y i = r1
    refine ys17_0 97 rfl rfl (fun h94 => ?_) (fun h94 => ?_)
    · refine (ys6 103 (y := nI (i + 1)) (L2 := [(4, .int (nI (i + 1))), (3, .int (y)), (2, .int (u)), (0, .ref (x + 0)), (1, .int (nI k))]) rfl rfl (nI_1 _) rfl rfl).trans ?_
      refine (ys19 rfl).trans ?_
      rw [show mdoL S T nl np nh nk k y (m + 1) i A = mdoL S T nl np nh nk k y m (i + 1) r1.2 from by subst hr1; rw [mdoL]; (try dsimp only); rw [if_pos h94]]; exact l_mdo hM hN hI hk12 hz hz64 m (i + 1)  r1.2  (by omega)
    · refine (ys4 99 (v := .int (nI i)) rfl rfl rfl rfl).trans ?_
      refine (ys36 rfl rfl).trans ?_
      rw [show mdoL S T nl np nh nk k y (m + 1) i A = (nI i, r1.2) from by subst hr1; rw [mdoL]; (try dsimp only); rw [if_neg h94]]; (first | done | rfl)

def mdo (X : zFn) (A : zFn) (S : zFn) (T : zFn) (nl : Nat) (np : Nat) (nh : Nat) (nk : Nat) (k : Nat) : Int32 × zFn × zFn :=
  let X1 := zup X 0 0 (0)
  if (ria S T k) = 0 then
    let A2 := rbc S
    let A3 := rso T nk 0 A2
    ((mdoL S T nl np nh nk k ((A3 21 k) &&& ((A2 21 k) ^^^ (-1))) (vbc ((A3 21 k) &&& ((A2 21 k) ^^^ (-1)))).toNatClampNeg 1 A3).1, X1, (mdoL S T nl np nh nk k ((A3 21 k) &&& ((A2 21 k) ^^^ (-1))) (vbc ((A3 21 k) &&& ((A2 21 k) ^^^ (-1)))).toNatClampNeg 1 A3).2)
  else
    (0, X1, A)

theorem c_mdo {d : Nat} {x t s q : Nat} {X S A T J : zFn} {μ : zM} (hM : zMC μ x t s q J T) {nl np nh nk : Nat} (hN : zTN T nl np nh nk) (hI : zIN T S) {k : Nat} (hk : k < nk) (hk12 : k < 12) : zden zcds (d + 11) 179 [.ref (x + 0), .int (nI k)] (zwi μ (zfl (zfl (zfl J x 6 X) s 22 S) q 22 A)) = some (0, some (.int ((mdo X A S T nl np nh nk k).1)), 0, 0, zwi μ (zfl (zfl (zfl J x 6 ((mdo X A S T nl np nh nk k).2.1)) s 22 S) q 22 ((mdo X A S T nl np nh nk k).2.2))) := by
  refine (zd_in (d := d + 10) (cd := zc179) (nL := 5) (L := [(0, .ref (x + 0)), (1, .int (nI k))]) rfl (Nat.le_of_ble_eq_true rfl) rfl).trans ?_
  refine (ys4 1 (v := .ref (x + 0)) rfl rfl rfl rfl).trans ?_
  refine (ys1 2 (x := 0) rfl rfl rfl).trans ?_
  refine (yq 5 rfl (zFS.tag hM.1.1 (j := 0) (by decide) rfl) (zFS.k0 hM.1.1 (j := 0)) (zFS.ni hM.1.1 (j := 0) (by decide) rfl) (by decide) rfl (zx3_up hM (j := 0) (by decide))).trans ?_
  generalize hX1 : zup X 0 0 (0) = X1
  refine (ys4 6 (v := .ref (x + 0)) rfl rfl rfl rfl).trans ?_
  refine (ys4 7 (v := .int (nI k)) rfl rfl rfl rfl).trans ?_
  refine (yc2 10 rfl rfl (Nat.le_of_ble_eq_true rfl) (Or.inr (by show ztg (zwi _ _) _ = _; rw [ztg_wi]; exact (zFS.tag hM.1.1 (j := 0) (by decide) rfl))) rfl rfl (c_isK hM)).trans ?_
  rw [show (rin (nI k) 0 (T 0 3 - 1)) = 1 from (by rw [hN.2.2.2.2.2.2.1]; exact rin_1 (by have := hN.2.2.2.2.2.2.2; omega) rfl hk)]
  refine ys17_1 13 rfl rfl (fun h10 => absurd h10 (by decide)) (fun h10 => ?_)
  refine (ys4 20 (v := .ref (x + 0)) rfl rfl rfl rfl).trans ?_
  refine (ygr 23 rfl (zFS.tag hM.1.1 (j := 0) (by decide) rfl) rfl hM.2.2.1).trans ?_
  refine (ys4 24 (v := .int (nI k)) rfl rfl rfl rfl).trans ?_
  refine (yc2 27 rfl rfl (Nat.le_of_ble_eq_true rfl) (Or.inr (by show ztg (zwi _ _) _ = _; rw [ztg_wi]; exact (zFS.tag (hMs hM).1 (j := 0) (by decide) rfl))) rfl rfl (lsm hM (fun K hC => c_ia hC hk12))).trans ?_
  refine ys17_0 30 rfl rfl (fun h27 => ?_) (fun h27 => ?_)
  · refine (ys4 33 (v := .ref (x + 0)) rfl rfl rfl rfl).trans ?_
    refine (ygr 36 rfl (zFS.tag hM.1.1 (j := 0) (by decide) rfl) rfl hM.2.2.2.1).trans ?_
    refine (ys4 37 (v := .ref (x + 0)) rfl rfl rfl rfl).trans ?_
    refine (ygr 40 rfl (zFS.tag hM.1.1 (j := 0) (by decide) rfl) rfl hM.2.2.1).trans ?_
    refine (yc2 43 rfl rfl (Nat.le_of_ble_eq_true rfl) (Or.inr (by show ztg (zwi _ _) _ = _; rw [ztg_wi]; exact (zFS.tag (hMq hM (X := X) (S := S)).1 (j := 0) (by decide) rfl))) rfl rfl (c_bec (hMq hM) (hMo hM))).trans ?_
    generalize hA2 : rbc S = A2
    have hIA2 : zIN T A2 := by rw [← hA2]; exact zIN_bc hI
    refine (ys4 44 (v := .ref (x + 0)) rfl rfl rfl rfl).trans ?_
    refine (ygr 47 rfl (zFS.tag hM.1.1 (j := 0) (by decide) rfl) rfl hM.2.2.2.1).trans ?_
    refine (ygr 50 rfl (zFS.tag (hMq hM (X := X) (S := S)).1 (j := 0) (by decide) rfl) rfl ((hMq hM (X := X) (S := S)).2.1 20 (by decide))).trans ?_
    refine (ys4 51 (v := .int (nI k)) rfl rfl rfl rfl).trans ?_
    refine (ylx 52 (N := 12) rfl (j := k) rfl (Or.inl (zFS.tag (hMq hM (X := X) (S := S)).1 (j := 21) (by decide) rfl)) (zFS.ni (hMq hM (X := X) (S := S)).1 (j := 21) (by decide) rfl) (by omega) (by decide) rfl (zfl_at (j := 21) (by decide))).trans ?_
    refine (ys5 53 (L2 := [(2, .int ((A2 21 k))), (0, .ref (x + 0)), (1, .int (nI k))]) rfl rfl rfl rfl).trans ?_
    refine (ys4 54 (v := .ref (x + 0)) rfl rfl rfl rfl).trans ?_
    refine (ygr 57 rfl (zFS.tag hM.1.1 (j := 0) (by decide) rfl) rfl hM.2.2.2.1).trans ?_
    refine (yc1 60 rfl rfl (Nat.le_of_ble_eq_true rfl) (Or.inr (by show ztg (zwi _ _) _ = _; rw [ztg_wi]; exact (zFS.tag (hMq hM (X := X) (S := S)).1 (j := 0) (by decide) rfl))) rfl rfl (c_so (hMq hM) hN hIA2)).trans ?_
    generalize hA3 : rso T nk 0 A2 = A3
    have hIA3 : zIN T A3 := by rw [← hA3]; exact rso_I _ _ _ (by have := hN.2.2.2.2.2.2.2; omega) hIA2
    refine (ys4 61 (v := .ref (x + 0)) rfl rfl rfl rfl).trans ?_
    refine (ygr 64 rfl (zFS.tag hM.1.1 (j := 0) (by decide) rfl) rfl hM.2.2.2.1).trans ?_
    refine (ygr 67 rfl (zFS.tag (hMq hM (X := X) (S := S)).1 (j := 0) (by decide) rfl) rfl ((hMq hM (X := X) (S := S)).2.1 20 (by decide))).trans ?_
    refine (ys4 68 (v := .int (nI k)) rfl rfl rfl rfl).trans ?_
    refine (ylx 69 (N := 12) rfl (j := k) rfl (Or.inl (zFS.tag (hMq hM (X := X) (S := S)).1 (j := 21) (by decide) rfl)) (zFS.ni (hMq hM (X := X) (S := S)).1 (j := 21) (by decide) rfl) (by omega) (by decide) rfl (zfl_at (j := 21) (by decide))).trans ?_
    refine (ys4 70 (v := .int ((A2 21 k))) rfl rfl rfl rfl).trans ?_
    refine (ys1 71 (x := (-1)) rfl rfl rfl).trans ?_
    refine (ys7_5 72 rfl rfl).trans ?_
    refine (ys7_3 73 rfl rfl).trans ?_
    refine (ys5 74 (L2 := [(3, .int (((A3 21 k) &&& ((A2 21 k) ^^^ (-1))))), (2, .int ((A2 21 k))), (0, .ref (x + 0)), (1, .int (nI k))]) rfl rfl rfl rfl).trans ?_
    refine (ys1 75 (x := nI 1) rfl rfl rfl).trans ?_
    refine (ys5 77 (L2 := [(4, .int (nI 1)), (3, .int (((A3 21 k) &&& ((A2 21 k) ^^^ (-1))))), (2, .int ((A2 21 k))), (0, .ref (x + 0)), (1, .int (nI k))]) rfl rfl rfl rfl).trans ?_
    obtain ⟨zz, hzz, ez⟩ := vbc_le ((A3 21 k) &&& ((A2 21 k) ^^^ (-1))); have ez2 : (vbc ((A3 21 k) &&& ((A2 21 k) ^^^ (-1)))).toNatClampNeg = zz := (by rw [ez, nI_clamp (by omega)]); rw [show mdo X A S T nl np nh nk k = ((mdoL S T nl np nh nk k ((A3 21 k) &&& ((A2 21 k) ^^^ (-1))) (vbc ((A3 21 k) &&& ((A2 21 k) ^^^ (-1)))).toNatClampNeg 1 A3).1, X1, (mdoL S T nl np nh nk k ((A3 21 k) &&& ((A2 21 k) ^^^ (-1))) (vbc ((A3 21 k) &&& ((A2 21 k) ^^^ (-1)))).toNatClampNeg 1 A3).2) from by subst hA3 hA2 hX1; unfold mdo; (try dsimp only); rw [if_pos h27]]; rw [ez2]; exact l_mdo hM hN hI hk12 ez hzz zz 1 _ (by omega)
  · refine (ys1 31 (x := 0) rfl rfl rfl).trans ?_
    refine (ys36 rfl rfl).trans ?_
    rw [show mdo X A S T nl np nh nk k = (0, X1, A) from by subst hX1; unfold mdo; (try dsimp only); rw [if_neg h27]]; (first | done | rfl)

