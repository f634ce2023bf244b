/-! FEED OF THE REFERENCE -/
def zR5 : zE := (20, List.replicate 5 0, [], [])
def zR50 : zRw := fun k => (List.replicate 5 (0 : Int32)).getD k 0
theorem zg_shape5 (μ : zM) : ztg (μ ++ [zR5]) μ.length = 20 ∧ zni (μ ++ [zR5]) μ.length = 5 := by
  unfold ztg zni
  rw [zen_app_eq]
  exact ⟨rfl, rfl⟩
theorem zqb_of (y : Int32) : zqb (y.toInt8.toInt32.toInt8.toInt32) (y &&& 255) := by
  obtain ⟨c, hc, e⟩ := pk_andE y (m := 255) 8 (by decide)
  refine ⟨c, hc, e, ?_⟩
  rw [← e]
  have h1 : (y &&& 255).toInt8 = y.toInt8 := by
    apply Int8.toBitVec_inj.1
    apply BitVec.eq_of_getLsbD_eq
    intro i hi
    have h2 : (255 : Int32).toBitVec.getLsbD i = true := (by decide +kernel : ∀ j, j < 8 → (255 : Int32).toBitVec.getLsbD j = true) i hi
    rw [Int32.toBitVec_toInt8, Int32.toBitVec_toInt8, BitVec.getLsbD_signExtend, BitVec.getLsbD_signExtend, Int32.toBitVec_and, BitVec.getLsbD_and, h2, Bool.and_true, if_pos (show i < 32 by omega), if_pos (show i < 32 by omega)]
  rw [h1, Int8.toInt8_toInt32]

def mfeL (R : zRw) (n : Nat) : Nat → Nat → zFn → zFn
  | 0, i, X =>
    X
  | m + 1, i, X =>
    let X1 := zup X 1 (n + i) (((zbin 7 ((R (i / 4))) ((24 - (8 * (nI (i % 4)))))) &&& 255))
    mfeL R n m (i + 1) X1

theorem l_mfe {d c sl : Nat} {rz : zR} {x t s q : Nat} {S A T J : zFn} {μ : zM} (hM : zMC μ x t s q J T) {g : Nat} {R : zRw} (hg1 : ztg μ g = 20) (hg2 : zni μ g = 5) (hRr : ∀ (X : zFn) (k : Nat), zfl (zfl (zfl J x 6 X) s 22 S) q 22 A g k = R k) {n : Nat} (hn20 : n ≤ 1980) : ∀ (m i : Nat) (X : zFn), X 0 1 = nI n → i + m = 20 → zden1 (d + 4) (zden zcds (d + 4)) zc156 (98, [(0, .ref (x + 0))], [], c, sl, zwi μ (zfl (zfl (zfl J x 6 ((mfeL R n m i X))) s 22 S) q 22 A)) = some rz → zden1 (d + 4) (zden zcds (d + 4)) zc156 (51, [(7, .int (nI i)), (6, .ref (g)), (0, .ref (x + 0))], [], c, sl, zwi μ (zfl (zfl (zfl J x 6 X) s 22 S) q 22 A)) = some rz
  | 0, i, X, hn, e, hkk => by
    have ei : i = 20 := by omega
    subst ei
    refine (ys4 53 (v := .int (nI 20)) rfl rfl rfl rfl).trans ?_
    refine (ys1 55 (x := nI 20) rfl rfl rfl).trans ?_
    refine ys18_3 58 rfl rfl (fun h55 => ?_) (fun h55 => absurd (nI_le (by omega) (by omega)) h55)
    rw [show mfeL R n 0 20 X = X from by rw [mfeL]; (try dsimp only); first | done | rfl] at hkk; refine zden1_fg (L := [(0, .ref (x + 0))]) (zfg_cons rfl zfg_nil) ?_; exact hkk
  | m + 1, i, X, hn, e, hkk => by
    refine (ys4 53 (v := .int (nI i)) rfl rfl rfl rfl).trans ?_
    refine (ys1 55 (x := nI 20) rfl rfl rfl).trans ?_
    refine ys18_3 58 rfl rfl (fun h55 => absurd h55 (nI_ge (by omega) (by omega))) (fun h55 => ?_)
    refine (ys4 59 (v := .ref (x + 0)) rfl rfl rfl rfl).trans ?_
    refine (ygr 62 rfl (zFS.tag hM.1.1 (j := 0) (by decide) rfl) rfl (hM.1.2 0 (by decide))).trans ?_
    refine (ys4 63 (v := .ref (x + 0)) rfl rfl rfl rfl).trans ?_
    refine (yg 66 rfl (zFS.tag hM.1.1 (j := 0) (by decide) rfl) (zFS.ni hM.1.1 (j := 0) (by decide) rfl) (by decide) rfl (Eq.trans (zx3_at hM (j := 0) (by decide)) (show (X 0 1) = (nI n) from hn))).trans ?_
    refine (ys4 68 (v := .int (nI i)) rfl rfl rfl rfl).trans ?_
    refine (ys7_0 69 rfl rfl).trans ?_
    rw [show ((nI n) + (nI i)) = (nI (n + i)) from (nI_add _ _)]
    refine (ys4 71 (v := .ref (g)) rfl rfl rfl rfl).trans ?_
    refine (ys4 73 (v := .int (nI i)) rfl rfl rfl rfl).trans ?_
    refine (ys1 74 (x := 4) rfl rfl rfl).trans ?_
    refine (ys8 75 rfl (by decide) rfl).trans ?_
    rw [show ((nI i) / 4) = (nI (i / 4)) from (pk_div (d := 4) (by omega) (by decide) (by decide))]
    refine (ylx 76 (N := 5) rfl (j := (i / 4)) rfl (Or.inl hg1) hg2 (by omega) (by decide) rfl (hRr _ _)).trans ?_
    refine (ys1 78 (x := 24) rfl rfl rfl).trans ?_
    refine (ys1 80 (x := 8) rfl rfl rfl).trans ?_
    refine (ys4 82 (v := .int (nI i)) rfl rfl rfl rfl).trans ?_
    refine (ys1 83 (x := 4) rfl rfl rfl).trans ?_
    refine (ys9 84 rfl (by decide) rfl).trans ?_
    rw [show ((nI i) - (nI i) / 4 * 4) = (nI (i % 4)) from (pk_rem (d := 4) (by omega) (by decide) (by decide))]
    refine (ys7_2 85 rfl rfl).trans ?_
    refine (ys7_1 86 rfl rfl).trans ?_
    refine (ys7 87 (b := 7) rfl rfl).trans ?_
    refine (ys1 90 (x := 255) rfl rfl rfl).trans ?_
    refine (ys7_3 91 rfl rfl).trans ?_
    refine (ywx 92 (N := 2000) rfl (j := (n + i)) rfl (zFS.tag hM.1.1 (j := 1) (by decide) rfl) (zFS.k0 hM.1.1 (j := 1)) (zFS.ni hM.1.1 (j := 1) (by decide) rfl) (show n + i < 2000 by omega) (by decide) rfl (zx3_up hM (j := 1) (by decide))).trans ?_
    generalize hX1 : zup X 1 (n + i) (((zbin 7 ((R (i / 4))) ((24 - (8 * (nI (i % 4)))))) &&& 255)) = X1
    refine (ys6 95 (y := nI (i + 1)) (L2 := [(7, .int (nI (i + 1))), (6, .ref (g)), (0, .ref (x + 0))]) rfl rfl (nI_1 _) rfl rfl).trans ?_
    refine (ys19 rfl).trans ?_
    rw [show mfeL R n (m + 1) i X = mfeL R n m (i + 1) X1 from by subst hX1; rw [mfeL]; (try dsimp only); first | done | rfl] at hkk; exact l_mfe hM hg1 hg2 hRr hn20 m (i + 1)  X1  (by rw [← hX1, zup_ne' (by omega)]; exact hn) (by omega) hkk

def mfR (a b e f i : Int32) : zRw := zur (zur (zur (zur (zur zR50 0 a) 1 b) 2 e) 3 f) 4 i
theorem mfeL_n {R : zRw} {n : Nat} : ∀ (m i : Nat) (X : zFn), mfeL R n m i X 0 1 = X 0 1
  | 0, _, _ => rfl
  | m + 1, i, X => by
    rw [mfeL]
    (try dsimp only)
    rw [mfeL_n m, zup_ne' (by omega)]

def mfeX (X : zFn) (R : zRw) (n : Nat) : zFn := zup (mfeL R n 20 0 (zup X 0 0 0)) 0 1 (nI (n + 20))
theorem c_mfe {d : Nat} {x t s q : Nat} {X S A T J : zFn} {μ : zM} (hM : zMC μ x t s q J T) {n : Nat} (hn : X 0 1 = nI n) (hn20 : n ≤ 1980) {a b e f i : Int32} : zden zcds (d + 6) 156 [.ref (x + 0), .int (a), .int (b), .int (e), .int (f), .int (i)] (zwi μ (zfl (zfl (zfl J x 6 X) s 22 S) q 22 A)) = some (0, some (.int (nI (n + 20))), 1, 5, zwi (μ ++ [zR5]) (zfl (zfl (zfl (zgb J μ.length (mfR a b e f i)) x 6 (mfeX X (mfR a b e f i) n)) s 22 S) q 22 A)) := by
  refine (zd_in (d := d + 5) (cd := zc156) (nL := 8) (L := [(0, .ref (x + 0)), (1, .int (a)), (2, .int (b)), (3, .int (e)), (4, .int (f)), (5, .int (i))]) rfl (Nat.le_of_ble_eq_true rfl) rfl).trans ?_
  refine (ys4 1 (v := .ref (x + 0)) rfl rfl rfl rfl).trans ?_
  refine (ys1 2 (x := 0) rfl rfl rfl).trans ?_
  refine (yq 5 rfl (zFS.tag hM.1.1 (j := 0) (by decide) rfl) (zFS.k0 hM.1.1 (j := 0)) (zFS.ni hM.1.1 (j := 0) (by decide) rfl) (by decide) rfl (zx3_up hM (j := 0) (by decide))).trans ?_
  generalize hX1 : zup X 0 0 (0) = X1
  refine (ys4 6 (v := .ref (x + 0)) rfl rfl rfl rfl).trans ?_
  refine (yg 9 rfl (zFS.tag hM.1.1 (j := 0) (by decide) rfl) (zFS.ni hM.1.1 (j := 0) (by decide) rfl) (by decide) rfl (Eq.trans (zx3_at hM (j := 0) (by decide)) (show (X1 0 1) = (nI n) from (by rw [← hX1, zup_ne' (by decide)]; exact hn)))).trans ?_
  refine (ys1 12 (x := nI 1980) rfl rfl rfl).trans ?_
  refine ys18_5 15 rfl rfl (fun h12 => ?_) (fun h12 => absurd (nI_le (by omega) (by omega)) h12)
  refine (ys1 22 (x := 5) rfl rfl rfl).trans ?_
  refine (ys30 (m := 5) 24 rfl (by decide) rfl (by decide) rfl).trans ?_
  have hg := zM_len hM
  rw [zg_nest ⟨hg.1, hg.2.1, hg.2.2.1⟩]
  have hMr : ∀ R : zRw, zMC (μ ++ [zR5]) x t s q (zgb J μ.length R) T := fun R => zMC_app [zR5] hM (fun a ha => by unfold zgb; rw [if_neg (by omega)])
  have hMz := hMr zR50
  change zden1 _ _ _ (_, _, _, _, _, zwi (μ ++ [zR5]) (zfl (zfl (zfl (zgb J μ.length zR50) x 6 X1) s 22 S) q 22 A)) = _
  refine (ys14 25 rfl (Nat.le_of_ble_eq_true rfl) rfl).trans ?_
  refine (ys1 26 (x := 0) rfl rfl rfl).trans ?_
  refine (ys4 27 (v := .int (a)) rfl rfl rfl rfl).trans ?_
  refine (ywx 28 (N := 5) rfl (j := 0) rfl (zg_shape5 _).1 hg.2.2.2 (zg_shape5 _).2 (by omega) (by decide) rfl (zg_up ⟨hg.1, hg.2.1, hg.2.2.1⟩)).trans ?_
  generalize hR2 : zur zR50 0 (a) = R2
  refine (ys14 29 rfl (Nat.le_of_ble_eq_true rfl) rfl).trans ?_
  refine (ys1 30 (x := 1) rfl rfl rfl).trans ?_
  refine (ys4 31 (v := .int (b)) rfl rfl rfl rfl).trans ?_
  refine (ywx 32 (N := 5) rfl (j := 1) rfl (zg_shape5 _).1 hg.2.2.2 (zg_shape5 _).2 (by omega) (by decide) rfl (zg_up ⟨hg.1, hg.2.1, hg.2.2.1⟩)).trans ?_
  generalize hR3 : zur R2 1 (b) = R3
  refine (ys14 33 rfl (Nat.le_of_ble_eq_true rfl) rfl).trans ?_
  refine (ys1 34 (x := 2) rfl rfl rfl).trans ?_
  refine (ys4 35 (v := .int (e)) rfl rfl rfl rfl).trans ?_
  refine (ywx 36 (N := 5) rfl (j := 2) rfl (zg_shape5 _).1 hg.2.2.2 (zg_shape5 _).2 (by omega) (by decide) rfl (zg_up ⟨hg.1, hg.2.1, hg.2.2.1⟩)).trans ?_
  generalize hR4 : zur R3 2 (e) = R4
  refine (ys14 37 rfl (Nat.le_of_ble_eq_true rfl) rfl).trans ?_
  refine (ys1 38 (x := 3) rfl rfl rfl).trans ?_
  refine (ys4 40 (v := .int (f)) rfl rfl rfl rfl).trans ?_
  refine (ywx 41 (N := 5) rfl (j := 3) rfl (zg_shape5 _).1 hg.2.2.2 (zg_shape5 _).2 (by omega) (by decide) rfl (zg_up ⟨hg.1, hg.2.1, hg.2.2.1⟩)).trans ?_
  generalize hR5 : zur R4 3 (f) = R5
  refine (ys14 42 rfl (Nat.le_of_ble_eq_true rfl) rfl).trans ?_
  refine (ys1 43 (x := 4) rfl rfl rfl).trans ?_
  refine (ys4 45 (v := .int (i)) rfl rfl rfl rfl).trans ?_
  refine (ywx 46 (N := 5) rfl (j := 4) rfl (zg_shape5 _).1 hg.2.2.2 (zg_shape5 _).2 (by omega) (by decide) rfl (zg_up ⟨hg.1, hg.2.1, hg.2.2.1⟩)).trans ?_
  generalize hR6 : zur R5 4 (i) = R6
  refine (ys5 48 (L2 := [(6, .ref (μ.length)), (0, .ref (x + 0)), (1, .int (a)), (2, .int (b)), (3, .int (e)), (4, .int (f)), (5, .int (i))]) rfl rfl rfl rfl).trans ?_
  refine (ys1 49 (x := nI 0) rfl rfl rfl).trans ?_
  refine (ys5 51 (L2 := [(7, .int (nI 0)), (6, .ref (μ.length)), (0, .ref (x + 0)), (1, .int (a)), (2, .int (b)), (3, .int (e)), (4, .int (f)), (5, .int (i))]) rfl rfl rfl rfl).trans ?_
  have hn1 : X1 0 1 = nI n := by rw [← hX1, zup_ne' (by decide)]; exact hn
  refine zden1_fg (L := [(7, .int (nI 0)), (6, .ref (μ.length)), (0, .ref (x + 0))]) (zfg_cons rfl (zfg_cons rfl (zfg_cons rfl zfg_nil))) ?_
  refine l_mfe (hMr _) (zg_shape5 _).1 (zg_shape5 _).2 (fun X k => zg_at ⟨hg.1, hg.2.1, hg.2.2.1⟩) hn20 20 0 X1 hn1 (by omega) ?_
  generalize hX7 : mfeL R6 n 20 0 X1 = X7
  refine (ys4 99 (v := .ref (x + 0)) rfl rfl rfl rfl).trans ?_
  refine (ys14 100 rfl (Nat.le_of_ble_eq_true rfl) rfl).trans ?_
  refine (yg 103 rfl (zFS.tag hMz.1.1 (j := 0) (by decide) rfl) (zFS.ni hMz.1.1 (j := 0) (by decide) rfl) (by decide) rfl (Eq.trans (zx3_at (hMr R6) (j := 0) (by decide)) (show (X7 0 1) = (nI n) from (by rw [← hX7, mfeL_n]; exact hn1)))).trans ?_
  refine (ys1 105 (x := 20) rfl rfl rfl).trans ?_
  refine (ys7_0 106 rfl rfl).trans ?_
  rw [show ((nI n) + 20) = (nI (n + 20)) from (nI_add n 20)]
  refine (yq 109 rfl (zFS.tag hMz.1.1 (j := 0) (by decide) rfl) (zFS.k0 hMz.1.1 (j := 0)) (zFS.ni hMz.1.1 (j := 0) (by decide) rfl) (by decide) rfl (zx3_up (hMr R6) (j := 0) (by decide))).trans ?_
  generalize hX8 : zup X7 0 1 ((nI (n + 20))) = X8
  refine (ys4 110 (v := .ref (x + 0)) rfl rfl rfl rfl).trans ?_
  refine (yg 113 rfl (zFS.tag hMz.1.1 (j := 0) (by decide) rfl) (zFS.ni hMz.1.1 (j := 0) (by decide) rfl) (by decide) rfl (Eq.trans (zx3_at (hMr R6) (j := 0) (by decide)) (show (X8 0 1) = (nI (n + 20)) from (by rw [← hX8]; exact zup_same _ _ _ _)))).trans ?_
  refine (ys36 rfl rfl).trans ?_
  subst hX8 hX7 hR6 hR5 hR4 hR3 hR2 hX1; rfl

theorem c_mfe_r {d : Nat} {x t s q : Nat} {X S A T J : zFn} {μ : zM} (hM : zMC μ x t s q J T) {n : Nat} (hn : X 0 1 = nI n) (hn20 : n ≤ 2000) (h : 1980 < n) {a b e f i : Int32} : zden zcds (d + 3) 156 [.ref (x + 0), .int (a), .int (b), .int (e), .int (f), .int (i)] (zwi μ (zfl (zfl (zfl J x 6 X) s 22 S) q 22 A)) = some (0, some (.int 0), 0, 0, zwi μ (zfl (zfl (zfl J x 6 (zup (zup X 0 0 0) 0 0 1)) s 22 S) q 22 A)) := by
  refine (zd_in (d := d + 2) (cd := zc156) (nL := 8) (L := [(0, .ref (x + 0)), (1, .int (a)), (2, .int (b)), (3, .int (e)), (4, .int (f)), (5, .int (i))]) rfl (Nat.le_of_ble_eq_true rfl) rfl).trans ?_
  refine (ys4 1 (v := .ref (x + 0)) rfl rfl rfl rfl).trans ?_
  refine (ys1 2 (x := 0) rfl rfl rfl).trans ?_
  refine (yq 5 rfl (zFS.tag hM.1.1 (j := 0) (by decide) rfl) (zFS.k0 hM.1.1 (j := 0)) (zFS.ni hM.1.1 (j := 0) (by decide) rfl) (by decide) rfl (zx3_up hM (j := 0) (by decide))).trans ?_
  generalize hX1 : zup X 0 0 (0) = X1
  refine (ys4 6 (v := .ref (x + 0)) rfl rfl rfl rfl).trans ?_
  refine (yg 9 rfl (zFS.tag hM.1.1 (j := 0) (by decide) rfl) (zFS.ni hM.1.1 (j := 0) (by decide) rfl) (by decide) rfl (Eq.trans (zx3_at hM (j := 0) (by decide)) (show (X1 0 1) = (nI n) from (by rw [← hX1, zup_ne' (by decide)]; exact hn)))).trans ?_
  refine (ys1 12 (x := nI 1980) rfl rfl rfl).trans ?_
  refine ys18_5 15 rfl rfl (fun h12 => absurd h12 (nI_ge (by omega) (by omega))) (fun h12 => ?_)
  refine (ys4 16 (v := .ref (x + 0)) rfl rfl rfl rfl).trans ?_
  refine (ys1 17 (x := 1) rfl rfl rfl).trans ?_
  refine (yc2 20 rfl rfl (Nat.le_of_ble_eq_true rfl) (Or.inr (by show ztg (zwi _ _) _ = _; rw [ztg_wi]; exact (zFS.tag hM.1.1 (j := 0) (by decide) rfl))) rfl rfl (c_nox hM)).trans ?_
  generalize hX2 : zup X1 0 0 (1) = X2
  refine (ys36 rfl rfl).trans ?_
  subst hX2 hX1; rfl

theorem vapp_lo {Q : zFn} {n k : Nat} {x : Int32} (h : k < n ∨ n + 4 ≤ k) : vapp Q n x 1 k = Q 1 k := by
  unfold vapp
  (try dsimp only)
  rw [zup_ne' (by omega), zup_ne' (by omega), zup_ne' (by omega), zup_ne' (by omega), zup_ne' (by omega), zup_ne' (by omega), zup_ne' (by omega), zup_ne' (by omega)]
theorem vapp_hi {Q : zFn} {n j : Nat} {x : Int32} (hj : j < 4) : vapp Q n x 1 (n + j) = (zbin 7 x (24 - 8 * nI j)).toInt8.toInt32.toInt8.toInt32 := by
  unfold vapp
  (try dsimp only)
  have hc : j = 0 ∨ j = 1 ∨ j = 2 ∨ j = 3 := by omega
  rcases hc with rfl | rfl | rfl | rfl
  · rw [show (24 - 8 * nI 0 : Int32) = 24 from by decide, zup_ne' (by omega), zup_ne' (by omega), zup_ne' (by omega), zup_ne' (by omega), zup_ne' (by omega), zup_ne' (by omega), zup_ne' (by omega)]
    exact zup_same _ _ _ _
  · rw [show (24 - 8 * nI 1 : Int32) = 16 from by decide, zup_ne' (by omega), zup_ne' (by omega), zup_ne' (by omega), zup_ne' (by omega), zup_ne' (by omega), zup_same]
  · rw [show (24 - 8 * nI 2 : Int32) = 8 from by decide, show n + 2 = n + 1 + 1 from rfl, zup_ne' (by omega), zup_ne' (by omega), zup_ne' (by omega), zup_same]
  · rw [show (24 - 8 * nI 3 : Int32) = 0 from by decide, show n + 3 = n + 1 + 1 + 1 from rfl, zup_ne' (by omega), zup_same]
theorem vapp_out {Q : zFn} {n j k : Nat} {x : Int32} (h : ¬ (j = 0 ∧ k = 0)) (h1 : j ≠ 1) : vapp Q n x j k = Q j k := by
  unfold vapp
  (try dsimp only)
  rw [zup_ne' (by omega), zup_ne' (by omega), zup_ne' (by omega), zup_ne' (by omega), zup_ne' (by omega), zup_ne' (by omega), zup_ne' (by omega), zup_ne' (by omega)]
theorem mfeL_lo {R : zRw} {n k : Nat} : ∀ (m i : Nat) (X : zFn), k < n + i → mfeL R n m i X 1 k = X 1 k
  | 0, _, _, _ => rfl
  | m + 1, i, X, h => by
    rw [mfeL]
    (try dsimp only)
    rw [mfeL_lo m (i + 1) _ (by omega), zup_ne' (by omega)]
theorem mfeL_out {R : zRw} {n j k : Nat} (hj : j ≠ 1) : ∀ (m i : Nat) (X : zFn), mfeL R n m i X j k = X j k
  | 0, _, _ => rfl
  | m + 1, i, X => by
    rw [mfeL]
    (try dsimp only)
    rw [mfeL_out hj m, zup_ne' (by omega)]
theorem mfeL_hi {R : zRw} {n j : Nat} : ∀ (m i : Nat) (X : zFn), i ≤ j → j < i + m → mfeL R n m i X 1 (n + j) = (zbin 7 (R (j / 4)) (24 - (8 * nI (j % 4)))) &&& 255
  | 0, i, _, h1, h2 => by omega
  | m + 1, i, X, h1, h2 => by
    rw [mfeL]
    (try dsimp only)
    by_cases e : j = i
    · subst e
      rw [mfeL_lo m (j + 1) _ (by omega), zup_same]
    · exact mfeL_hi m (i + 1) _ (by omega) (by omega)
theorem afee_out {Q : zFn} {n j k : Nat} {a b c e f : Int32} (h : ¬ (j = 0 ∧ k = 0)) (h1 : j ≠ 1) : (afee Q n a b c e f).2 j k = Q j k := by
  unfold afee
  dsimp only
  rw [vapp_out h h1, vapp_out h h1, vapp_out h h1, vapp_out h h1, vapp_out h h1]
theorem afee_lo {Q : zFn} {n k : Nat} {a b c e f : Int32} (h : k < n) : (afee Q n a b c e f).2 1 k = Q 1 k := by
  unfold afee
  dsimp only
  rw [vapp_lo (by omega), vapp_lo (by omega), vapp_lo (by omega), vapp_lo (by omega), vapp_lo (by omega)]
theorem afee_hi {Q : zFn} {n j : Nat} {a b c e f : Int32} (h : j < 20) : (afee Q n a b c e f).2 1 (n + j) = (zbin 7 (mfR a b c e f (j / 4)) (24 - 8 * nI (j % 4))).toInt8.toInt32.toInt8.toInt32 := by
  unfold afee
  dsimp only
  have hr : j % 4 < 4 := Nat.mod_lt _ (by decide)
  have hq : j / 4 = 0 ∨ j / 4 = 1 ∨ j / 4 = 2 ∨ j / 4 = 3 ∨ j / 4 = 4 := by omega
  rcases hq with hq | hq | hq | hq | hq
  · rw [vapp_lo (by omega), vapp_lo (by omega), vapp_lo (by omega), vapp_lo (by omega), hq, show n + j = n + j % 4 from by omega, vapp_hi hr]
    rfl
  · rw [vapp_lo (by omega), vapp_lo (by omega), vapp_lo (by omega), hq, show n + j = n + 4 + j % 4 from by omega, vapp_hi hr]
    rfl
  · rw [vapp_lo (by omega), vapp_lo (by omega), hq, show n + j = n + 4 + 4 + j % 4 from by omega, vapp_hi hr]
    rfl
  · rw [vapp_lo (by omega), hq, show n + j = n + 4 + 4 + 4 + j % 4 from by omega, vapp_hi hr]
    rfl
  · rw [hq, show n + j = n + 4 + 4 + 4 + 4 + j % 4 from by omega, vapp_hi hr]
    rfl
theorem mfeX_out {X : zFn} {R : zRw} {n j k : Nat} (h : ¬ (j = 0 ∧ k ≤ 1)) (h1 : j ≠ 1) : mfeX X R n j k = X j k := by
  unfold mfeX
  rw [zup_ne' (by omega), mfeL_out h1, zup_ne' (by omega)]
theorem mfeX_0 {X : zFn} {R : zRw} {n : Nat} : mfeX X R n 0 0 = 0 ∧ mfeX X R n 0 1 = nI (n + 20) := by
  unfold mfeX
  refine ⟨?_, zup_same _ _ _ _⟩
  rw [zup_ne' (by omega), mfeL_out (by decide), zup_same]
theorem zq_fee {Q X : zFn} {n : Nat} (h : zqTp Q X n) (hn : n ≤ 1980) {a b c e f : Int32} : zqTp (afee Q n a b c e f).2 (mfeX X (mfR a b c e f) n) (n + 20) ∧ (afee Q n a b c e f).1 = nI (n + 20) := by
  obtain ⟨h1, h2, h3, h4⟩ := h
  refine ⟨⟨?_, mfeX_0.2, by omega, fun k hk => ?_⟩, rfl⟩
  · unfold afee
    dsimp only
    exact vapp_len
  · by_cases hl : k < n
    · rw [afee_lo hl]
      have e : mfeX X (mfR a b c e f) n 1 k = X 1 k := by
        unfold mfeX
        rw [zup_ne' (by omega), mfeL_lo _ _ _ (by omega), zup_ne' (by omega)]
      rw [e]
      exact h4 k hl
    · obtain ⟨j, rfl⟩ : ∃ j, k = n + j := ⟨k - n, by omega⟩
      rw [afee_hi (by omega)]
      have e : mfeX X (mfR a b c e f) n 1 (n + j) = (zbin 7 (mfR a b c e f (j / 4)) (24 - (8 * nI (j % 4)))) &&& 255 := by
        unfold mfeX
        rw [zup_ne' (by omega), mfeL_hi _ _ _ (by omega) (by omega)]
      rw [e]
      exact zqb_of _

