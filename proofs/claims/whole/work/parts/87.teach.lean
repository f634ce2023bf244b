/-! TEACH -/
section ZTC
variable {J P Q E : zFn} {p r s : Nat} {U : zV}
/-- the post's own number at p, the tape, the reader, the spare world -/
def zm4 (J : zFn) (p r s : Nat) (E Q P : zFn) (U : zV) : zFn := zpc (zrl (zfl (zfl J p 1 E) (r + 1) 5 Q) r P) s U
theorem zm4_q {k : Nat} {x : Int32} (h1 : p < r) (h2 : r + 9 ≤ s) : zup (zm4 J p r s E Q P U) (r + 1 + 0) k x = zm4 J p r s E (zup Q 0 k x) P U := by
  unfold zm4
  rw [zrd_sw (by omega), zfl_up (j := 0) (by decide), ← zrd_sw (by omega)]
theorem zm4_e {k : Nat} {x : Int32} (h1 : p < r) (h2 : r + 9 ≤ s) : zup (zm4 J p r s E Q P U) (p + 0) k x = zm4 J p r s (zup E 0 k x) Q P U := by
  funext a i
  unfold zm4 zup zpc zrl zfl
  dsimp only
  by_cases ha : a = p
  · subst ha
    rw [if_neg (show ¬ (s ≤ a ∧ a < s + 85) by omega), if_neg (show ¬ (s ≤ a ∧ a < s + 85) by omega), if_neg (show ¬ a = r by omega), if_neg (show ¬ a = r by omega), if_neg (show ¬ (r + 6 ≤ a ∧ a < r + 9) by omega), if_neg (show ¬ (r + 6 ≤ a ∧ a < r + 9) by omega), if_neg (show ¬ (r + 1 ≤ a ∧ a < r + 1 + 5) by omega), if_neg (show ¬ (r + 1 ≤ a ∧ a < r + 1 + 5) by omega), if_pos (show a ≤ a ∧ a < a + 1 by omega), if_pos (show a ≤ a ∧ a < a + 1 by omega), Nat.sub_self]
    by_cases hk : i = k
    · rw [if_pos ⟨rfl, hk⟩, if_pos ⟨rfl, hk⟩]
    · rw [if_neg (fun h => hk h.2), if_neg (fun h => hk h.2)]
  · rw [if_neg (fun h => ha h.1)]
    split
    · rfl
    · split
      · rfl
      · split
        · rfl
        · split
          · rfl
          · rw [if_neg (by omega), if_neg (by omega)]
theorem zm4_n {n k o : Nat} (h1 : p < r) (h2 : r + 9 ≤ s) (h3 : r + 9 ≤ n) (h4 : n + 85 ≤ s ∨ s + 85 ≤ n) (ho : o < 85) : zm4 J p r s E Q P U (n + o) k = J (n + o) k := by
  unfold zm4
  rw [zpc_out (by omega), zrl_out (by omega), zfl_out (by omega), zfl_out (by omega)]
end ZTC
/-- behind reading: the stores, and whether the worlds change their places -/
def ateR (P : zFn) (U : zV) (Q : zFn) (K : zKn) (m : Nat) : Int32 × zFn × zV := vrd P U (vsc Q K m).1 (vsc Q K m).2
theorem zen_ge {μ : zM} {b : Nat} (h : μ.length ≤ b) : zen μ b = zd := by
  unfold zen
  rw [List.getD_eq_getElem?_getD, List.getElem?_eq_none h]
  rfl
theorem ztg_sr (μ : zM) (a k b : Nat) (x : Option Nat) : ztg (zsr μ a k x) b = ztg μ b := by
  unfold zsr
  by_cases hb : b < μ.length
  · unfold ztg
    rw [zen_set hb]
    by_cases h : a = b
    · rw [if_pos h, h]
    · rw [if_neg h]
  · unfold ztg
    rw [zen_ge (by simpa using hb), zen_ge (by omega)]
theorem znr_sr (μ : zM) (a k b : Nat) (x : Option Nat) : znr (zsr μ a k x) b = znr μ b := by
  unfold zsr
  by_cases hb : b < μ.length
  · unfold znr
    rw [zen_set hb]
    by_cases h : a = b
    · rw [if_pos h, h]; simp
    · rw [if_neg h]
  · unfold znr
    rw [zen_ge (by simpa using hb), zen_ge (by omega)]
theorem c_tea {d p r n s : Nat} {J P Q E : zFn} {U : zV} {K : zKn} {μ : zM} (hL : zLC μ p r n s) (hnr : znr μ (p + 0) = 3) (hR : zRR μ r) (hS : zKS μ J) {m : Nat} (hl : Q 0 0 = nI m) (hm : m ≤ 2000) (hSZ : zSZ U) (hs : zSQ Q) :
    zden zcds (d + 11) 3 [.ref (p + 0)] (zwi (zkm μ (r + 1) K) (zm4 J p r s E Q P U)) = some (0, some (.int (ateR P U Q K m).1), 0, 0,
      if (ateR P U Q K m).1 = 0 then zwi (zsr (zsr (zkm μ (r + 1) (vsc Q K m).2) (p + 0) 2 (some n)) (p + 0) 1 (some s)) (zm4 J p r s (zup E 0 0 ((ateR P U Q K m).2.1 0 2)) (zup (vsc Q K m).1 0 0 0) (ateR P U Q K m).2.1 (zvu (zvu (ateR P U Q K m).2.2 0 0 4 (J (n + 0) 4)) 0 0 5 (J (n + 0) 5)))
      else zwi (zkm μ (r + 1) (vsc Q K m).2) (zm4 J p r s (zup E 0 0 ((ateR P U Q K m).2.1 0 2)) (zup (vsc Q K m).1 0 0 0) (ateR P U Q K m).2.1 (ateR P U Q K m).2.2)) := by
  obtain ⟨k0, t0, n0, r0, r1, r2, w1, w2, hD, t1, r3, t2, n2, hpr, hrn, hrs⟩ := hL
  have hb := hR.2.2.2.2.2
  have hz : zK0 = 82 := rfl
  have hz0 : zK0 ≤ r := hR.1.1
  have kw : ∀ (K' : zKn) a, a ≠ r + 1 + 2 → zen (zkm μ (r + 1) K') a = zen μ a := fun K' a ha => zen_kw ha
  have T0 : ∀ K' : zKn, ztg (zkm μ (r + 1) K') (p + 0) = 0 := fun K' => by unfold ztg; rw [kw _ _ (by omega)]; exact t0
  have N0 : ∀ K' : zKn, zni (zkm μ (r + 1) K') (p + 0) = 1 := fun K' => by unfold zni; rw [kw _ _ (by omega)]; exact n0
  have R0 : ∀ K' : zKn, zgr (zkm μ (r + 1) K') (p + 0) 0 = some (r + 0) := fun K' => by unfold zgr; rw [kw _ _ (by omega)]; exact r0
  have R1 : ∀ K' : zKn, zgr (zkm μ (r + 1) K') (p + 0) 1 = some n := fun K' => by unfold zgr; rw [kw _ _ (by omega)]; exact r1
  have R2 : ∀ K' : zKn, zgr (zkm μ (r + 1) K') (p + 0) 2 = some s := fun K' => by unfold zgr; rw [kw _ _ (by omega)]; exact r2
  have NR : ∀ K' : zKn, znr (zkm μ (r + 1) K') (p + 0) = 3 := fun K' => by unfold znr; rw [kw _ _ (by omega)]; exact hnr
  have HR : ∀ K' : zKn, zRR (zkm μ (r + 1) K') r := fun K' => zRR_kw hR
  have W1 : ∀ K' : zKn, zWS (zkm μ (r + 1) K') n := fun K' => zWS_kw w1 (by omega)
  have W2 : ∀ K' : zKn, zWS (zkm μ (r + 1) K') s := fun K' => zWS_kw w2 (by omega)
  have TT : ∀ K' : zKn, ztg (zkm μ (r + 1) K') (r + 1 + 0) = 2 ∧ zni (zkm μ (r + 1) K') (r + 1 + 0) = 2 := fun K' => ⟨zFS.tag (HR K').2.2.2.2.2.1 (j := 0) (by decide) rfl, zFS.ni (HR K').2.2.2.2.2.1 (j := 0) (by decide) rfl⟩
  have hSJ : zKS μ (zfl J p 1 E) := zKS_cg hS (fun _ _ => rfl) (fun a k ha => zfl_out (by omega))
  have hrd := c_read (d := d) (P := P) (V := U) (K := K) hR w2 (Or.inl hrs) hSJ hl hm hSZ hs
  refine (zd_in (d := d + 10) (cd := zc3) (nL := 3) (L := [(0, .ref (p + 0))]) rfl (Nat.le_of_ble_eq_true rfl) rfl).trans ?_
  refine (ys4 1 (v := .ref (p + 0)) rfl rfl rfl rfl).trans ?_
  refine (ygr 4 rfl (T0 _) rfl (R0 _)).trans ?_
  refine (ys4 5 (v := .ref (p + 0)) rfl rfl rfl rfl).trans ?_
  refine (ygr 8 rfl (T0 _) rfl (R2 _)).trans ?_
  refine (yc2 11 rfl rfl (Nat.le_of_ble_eq_true rfl) (Or.inr (by show ztg (zwi _ _) _ = _; rw [ztg_wi]; exact zFS.tag (HR _).1 (j := 0) (by decide) rfl)) rfl rfl hrd).trans ?_
  unfold ateR
  generalize vsc Q K m = R
  generalize vrd P U R.1 R.2 = A
  show zden1 _ _ _ (11, _, _, _, _, zwi (zkm μ (r + 1) R.2) (zm4 J p r s E R.1 A.2.1 A.2.2)) = _
  refine (ys5 12 (L2 := [(1, .int A.1), (0, .ref (p + 0))]) rfl rfl rfl rfl).trans ?_
  refine (ys4 13 (v := .ref (p + 0)) rfl rfl rfl rfl).trans ?_
  refine (ygr 16 rfl (T0 _) rfl (R0 _)).trans ?_
  refine (ygr 19 rfl (zFS.tag (HR _).1 (j := 0) (by decide) rfl) rfl (HR _).2.1).trans ?_
  refine (ys1 20 (x := 0) rfl rfl rfl).trans ?_
  refine (yq 23 rfl (TT _).1 (zFS.k0 hb.1 (j := 0)) (TT _).2 (by decide) rfl (zm4_q hpr hrs)).trans ?_
  refine (ys4 24 (v := .ref (p + 0)) rfl rfl rfl rfl).trans ?_
  refine (ys4 25 (v := .ref (p + 0)) rfl rfl rfl rfl).trans ?_
  refine (ygr 28 rfl (T0 _) rfl (R0 _)).trans ?_
  refine (yg 31 rfl (zFS.tag (HR _).1 (j := 0) (by decide) rfl) (zFS.ni (HR _).1 (j := 0) (by decide) rfl) (by decide) rfl (zrw_at (o := 0) (j := 0) (by decide) (Or.inl hrs))).trans ?_
  refine (yq 34 rfl (T0 _) (by omega) (N0 _) (by decide) rfl (zm4_e hpr hrs)).trans ?_
  refine (ys4 35 (v := .int A.1) rfl rfl rfl rfl).trans ?_
  refine ys17_1 38 rfl rfl (fun h35 => ?_) (fun h35 => ?_)
  · rw [if_pos h35]
    refine (ys4 39 (v := .ref (p + 0)) rfl rfl rfl rfl).trans ?_
    refine (ygr 42 rfl (T0 _) rfl (R2 _)).trans ?_
    refine (ys5 43 (L2 := [(2, .ref s), (1, .int A.1), (0, .ref (p + 0))]) rfl rfl rfl rfl).trans ?_
    refine (ys4 44 (v := .ref s) rfl rfl rfl rfl).trans ?_
    refine (ys4 45 (v := .ref (p + 0)) rfl rfl rfl rfl).trans ?_
    refine (ygr 48 rfl (T0 _) rfl (R1 _)).trans ?_
    refine (yg (r := n) 51 rfl ((W1 _).tag (o := 0) (by decide) rfl) ((W1 _).ni (o := 0) (by decide) rfl) (by decide) rfl (zm4_n (o := 0) hpr hrs hrn hD (by decide))).trans ?_
    refine (yq (r := s) 54 rfl ((W2 _).tag (o := 0) (by decide) rfl) w2.1 ((W2 _).ni (o := 0) (by decide) rfl) (by decide) rfl (zpc_up (o := 0) (q := 0) (i := 0) rfl (by decide))).trans ?_
    show zden1 _ _ _ (54, _, _, _, _, zwi (zkm μ (r + 1) R.2) (zm4 J p r s (zup E 0 0 (A.2.1 0 2)) (zup R.1 0 0 0) A.2.1 (zvu A.2.2 0 0 4 (J (n + 0) 4)))) = _
    refine (ys4 55 (v := .ref s) rfl rfl rfl rfl).trans ?_
    refine (ys4 56 (v := .ref (p + 0)) rfl rfl rfl rfl).trans ?_
    refine (ygr 59 rfl (T0 _) rfl (R1 _)).trans ?_
    refine (yg (r := n) 62 rfl ((W1 _).tag (o := 0) (by decide) rfl) ((W1 _).ni (o := 0) (by decide) rfl) (by decide) rfl (zm4_n (o := 0) hpr hrs hrn hD (by decide))).trans ?_
    refine (yq (r := s) 65 rfl ((W2 _).tag (o := 0) (by decide) rfl) w2.1 ((W2 _).ni (o := 0) (by decide) rfl) (by decide) rfl (zpc_up (o := 0) (q := 0) (i := 0) rfl (by decide))).trans ?_
    show zden1 _ _ _ (65, _, _, _, _, zwi (zkm μ (r + 1) R.2) (zm4 J p r s (zup E 0 0 (A.2.1 0 2)) (zup R.1 0 0 0) A.2.1 (zvu (zvu A.2.2 0 0 4 (J (n + 0) 4)) 0 0 5 (J (n + 0) 5)))) = _
    refine (ys4 66 (v := .ref (p + 0)) rfl rfl rfl rfl).trans ?_
    refine (ys4 67 (v := .ref (p + 0)) rfl rfl rfl rfl).trans ?_
    refine (ygr 70 rfl (T0 _) rfl (R1 _)).trans ?_
    have hn22 : zmr (.ref n) = some (some n) := by
      have : zUK = 22 := rfl
      show (if n = zUK then none else some (some n)) = _
      rw [if_neg (by omega)]
    have hs22 : zmr (.ref s) = some (some s) := by
      have : zUK = 22 := rfl
      show (if s = zUK then none else some (some s)) = _
      rw [if_neg (by omega)]
    refine (ys24r 73 rfl (T0 _) (by omega) (by rw [NR]; decide) hn22 rfl).trans ?_
    refine (ys4 74 (v := .ref (p + 0)) rfl rfl rfl rfl).trans ?_
    refine (ys4 75 (v := .ref s) rfl rfl rfl rfl).trans ?_
    refine (ys24r 78 rfl (by rw [ztg_sr]; exact T0 _) (by omega) (by rw [znr_sr, NR]; decide) hs22 rfl).trans ?_
    refine (ys4 79 (v := .int A.1) rfl rfl rfl rfl).trans ?_
    exact ys36 rfl rfl
  · rw [if_neg h35]
    refine (ys4 79 (v := .int A.1) rfl rfl rfl rfl).trans ?_
    exact ys36 rfl rfl
