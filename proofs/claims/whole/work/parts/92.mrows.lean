/-! WHAT THE REFERENCE TELLS OF A LOFT, A PIGEON, A LETTER: each in a row of its own, made anew -/
abbrev zRw : Type := Nat → Int32
def zur (R : zRw) (k : Nat) (x : Int32) : zRw := fun i => if i = k then x else R i
def zR8 : zE := (20, List.replicate 8 0, [], [])
def zR80 : zRw := fun k => (List.replicate 8 (0 : Int32)).getD k 0
def zgb (J : zFn) (g : Nat) (R : zRw) : zFn := fun b => if b = g then R else J b
theorem zcg_tag {μ : zM} {e : zE} {a t : Nat} (h : ztg μ a = t) (ht : t ≠ 99) : a < μ.length := by
  refine Decidable.byContradiction fun hc => ?_
  unfold ztg at h
  rw [zen_ge (by omega)] at h
  exact ht h.symm
theorem zFS_len {μ : zM} {b : Nat} {T N : List Nat} (h : zFS μ b T N) (h0 : 0 < T.length) (h9 : ∀ j, j < T.length → T.getD j 0 ≠ 99) : b + T.length ≤ μ.length := by
  have h1 := (h.2 (T.length - 1) (by omega)).1
  have h2 := zcg_tag (e := zd) h1 (h9 _ (by omega))
  omega
theorem zen_appL {μ ν : zM} {a : Nat} (h : a < μ.length) : zen (μ ++ ν) a = zen μ a := by
  unfold zen
  rw [List.getD_eq_getElem?_getD, List.getElem?_append_left h, ← List.getD_eq_getElem?_getD]
theorem zFS_app {μ : zM} {b : Nat} {T N : List Nat} (ν : zM) (h : zFS μ b T N) (h9 : ∀ j, j < T.length → T.getD j 0 ≠ 99) : zFS (μ ++ ν) b T N := by
  refine ⟨h.1, fun j hj => ?_⟩
  have h1 := zcg_tag (e := zd) (h.2 j hj).1 (h9 j hj)
  have e : zen (μ ++ ν) (b + j) = zen μ (b + j) := zen_appL h1
  unfold ztg zni
  rw [e]
  exact h.2 j hj
theorem zgr_app {μ : zM} {a k q : Nat} (ν : zM) (h : zgr μ a k = some q) : zgr (μ ++ ν) a k = some q := by
  have h1 : a < μ.length := by
    refine Decidable.byContradiction fun hc => ?_
    unfold zgr at h
    rw [zen_ge (by omega)] at h
    cases h
  unfold zgr at *
  rw [zen_appL h1]
  exact h
theorem ztg_app {μ : zM} {a t : Nat} (ν : zM) (h : ztg μ a = t) (h9 : t ≠ 99) : ztg (μ ++ ν) a = t := by
  have h1 := zcg_tag (e := zd) h h9
  unfold ztg at *
  rw [zen_appL h1]
  exact h
theorem zMX_app {μ : zM} {x : Nat} (ν : zM) (h : zMX μ x) : zMX (μ ++ ν) x := ⟨zFS_app ν h.1 (by decide), fun k hk => zgr_app ν (h.2 k hk)⟩
theorem zSC_app {μ : zM} {x t s : Nat} {I I' T : zFn} (ν : zM) (h : zSC μ x t s I T) (hI : ∀ j k, j < 17 → I' (t + j) k = T j k) : zSC (μ ++ ν) x t s I' T := by
  obtain ⟨h1, h2, h3, h4, h5, h6, h7, h8, h9⟩ := h
  exact ⟨zFS_app ν h1 (by decide), fun k hk => zgr_app ν (h2 k hk), zgr_app ν h3, zFS_app ν h4 (by decide), fun k hk => zgr_app ν (h5 k hk), ztg_app ν h6 (by decide), zgr_app ν h7, h8, hI⟩
theorem zMC_app {μ : zM} {x t s q : Nat} {J J' T : zFn} (ν : zM) (h : zMC μ x t s q J T) (hJ : ∀ a, a < μ.length → J' a = J a) : zMC (μ ++ ν) x t s q J' T := by
  obtain ⟨h1, h2, h3, h4, h5, h6, h7, h8⟩ := h
  have ht := zFS_len (h5 J h7).2.2.2.1 (by decide) (by decide)
  have ht : t + 17 ≤ μ.length := ht
  exact ⟨zMX_app ν h1, zgr_app ν h2, zgr_app ν h3, zgr_app ν h4, fun I hI => zSC_app ν (h5 I hI) hI, fun I hI => zSC_app ν (h6 I hI) hI, fun j k hj => by rw [hJ _ (by omega)]; exact h7 j k hj, h8⟩
section ZG8
variable {x t s q : Nat} {X S A T J : zFn} {μ : zM}
theorem zM_len (hM : zMC μ x t s q J T) : x + 6 ≤ μ.length ∧ s + 22 ≤ μ.length ∧ q + 22 ≤ μ.length ∧ zK0 ≤ μ.length := by
  have h1 := zFS_len hM.1.1 (by decide) (by decide)
  have h2 := zFS_len (hMs hM).1 (by decide) (by decide)
  have h3 := zFS_len (hM.2.2.2.2.2.1 J hM.2.2.2.2.2.2.1).1 (by decide) (by decide)
  have h4 := hM.1.1.1
  have h1 : x + 6 ≤ μ.length := h1
  have h2 : s + 22 ≤ μ.length := h2
  have h3 : q + 22 ≤ μ.length := h3
  omega
theorem zg_nest {g : Nat} {R : zRw} (h : x + 6 ≤ g ∧ s + 22 ≤ g ∧ q + 22 ≤ g) : (fun b => if b = g then R else zfl (zfl (zfl J x 6 X) s 22 S) q 22 A b) = zfl (zfl (zfl (zgb J g R) x 6 X) s 22 S) q 22 A := by
  funext b k
  unfold zfl zgb
  by_cases hb : b = g
  · rw [if_pos hb, if_neg (by omega), if_neg (by omega), if_neg (by omega), if_pos hb]
  · rw [if_neg hb]
    (try dsimp only)
    (repeat' split) <;> first | rfl | contradiction
theorem zg_up {g k : Nat} {R : zRw} {v : Int32} (h : x + 6 ≤ g ∧ s + 22 ≤ g ∧ q + 22 ≤ g) : zup (zfl (zfl (zfl (zgb J g R) x 6 X) s 22 S) q 22 A) g k v = zfl (zfl (zfl (zgb J g (zur R k v)) x 6 X) s 22 S) q 22 A := by
  funext b i
  unfold zup zfl zgb zur
  (try dsimp only)
  by_cases hb : b = g
  · subst hb
    rw [if_neg (show ¬ (q ≤ b ∧ b < q + 22) by omega), if_neg (show ¬ (q ≤ b ∧ b < q + 22) by omega), if_neg (show ¬ (s ≤ b ∧ b < s + 22) by omega), if_neg (show ¬ (s ≤ b ∧ b < s + 22) by omega), if_neg (show ¬ (x ≤ b ∧ b < x + 6) by omega), if_neg (show ¬ (x ≤ b ∧ b < x + 6) by omega), if_pos rfl, if_pos rfl]
    by_cases hk : i = k
    · rw [if_pos ⟨rfl, hk⟩, if_pos hk]
    · rw [if_neg (fun h => hk h.2), if_neg hk]
  · rw [if_neg (fun h => hb h.1), if_neg hb, if_neg hb]
theorem zg_at {g k : Nat} {R : zRw} (h : x + 6 ≤ g ∧ s + 22 ≤ g ∧ q + 22 ≤ g) : zfl (zfl (zfl (zgb J g R) x 6 X) s 22 S) q 22 A g k = R k := by
  rw [zfl_out (by omega), zfl_out (by omega), zfl_out (by omega)]
  unfold zgb
  rw [if_pos rfl]
theorem zg_shape (μ : zM) : ztg (μ ++ [zR8]) μ.length = 20 ∧ zni (μ ++ [zR8]) μ.length = 8 := by
  unfold ztg zni
  rw [zen_app_eq]
  exact ⟨rfl, rfl⟩
end ZG8

def mpt (S : zFn) (T : zFn) (p : Nat) : zRw :=
  if (S 4 p) = 1 then
    let R1 := zur zR80 0 ((S 4 p))
    let R2 := zur R1 1 ((rxo S p))
    let R3 := zur R2 2 ((ryo S p))
    let R4 := zur R3 3 ((T 5 p))
    if (S 4 p) = 0 then
      let R5 := zur R4 4 ((S 5 p))
      let R6 := zur R5 5 ((S 11 p))
      let R7 := zur R6 6 ((S 10 p))
      let R8 := zur R7 7 ((rfh S T p))
      R8
    else
      let R9 := zur R4 4 ((-1))
      let R10 := zur R9 5 ((S 11 p))
      let R11 := zur R10 6 ((S 10 p))
      let R12 := zur R11 7 ((rfh S T p))
      R12
  else
    let R13 := zur zR80 0 ((S 4 p))
    let R14 := zur R13 1 ((rxo S p))
    let R15 := zur R14 2 ((ryo S p))
    let R16 := zur R15 3 ((T 5 p))
    if (S 4 p) = 0 then
      let R17 := zur R16 4 ((S 5 p))
      let R18 := zur R17 5 ((-1))
      let R19 := zur R18 6 (0)
      let R20 := zur R19 7 ((rfh S T p))
      R20
    else
      let R21 := zur R16 4 ((-1))
      let R22 := zur R21 5 ((-1))
      let R23 := zur R22 6 (0)
      let R24 := zur R23 7 ((rfh S T p))
      R24

theorem c_mpt {d : Nat} {x t s q : Nat} {X S A T J : zFn} {μ : zM} (hM : zMC μ x t s q J T) (hI : zIN T S) {p : Nat} (hp20 : p < 20) {v : Nat} (hv : v < 8) : zden zcds (d + 5) 164 [.ref (x + 0), .int (nI p), .int (nI v)] (zwi μ (zfl (zfl (zfl J x 6 X) s 22 S) q 22 A)) = some (0, some (.int ((mpt S T p) v)), 1, 8, zwi (μ ++ [zR8]) (zfl (zfl (zfl (zgb J μ.length (mpt S T p)) x 6 X) s 22 S) q 22 A)) := by
  refine (zd_in (d := d + 4) (cd := zc164) (nL := 5) (L := [(0, .ref (x + 0)), (1, .int (nI p)), (2, .int (nI v))]) rfl (Nat.le_of_ble_eq_true rfl) rfl).trans ?_
  refine (ys4 1 (v := .ref (x + 0)) rfl rfl rfl rfl).trans ?_
  refine (ygr 4 rfl (zFS.tag hM.1.1 (j := 0) (by decide) rfl) rfl hM.2.2.1).trans ?_
  refine (ygr 7 rfl (zFS.tag (hMs hM).1 (j := 0) (by decide) rfl) rfl ((hMs hM).2.1 3 (by decide))).trans ?_
  refine (ys4 8 (v := .int (nI p)) rfl rfl rfl rfl).trans ?_
  refine (ylx 9 (N := 20) rfl (j := p) rfl (Or.inl (zFS.tag (hMs hM).1 (j := 4) (by decide) rfl)) (zFS.ni (hMs hM).1 (j := 4) (by decide) rfl) (by omega) (by decide) rfl (zs3_at hM (j := 4) (by decide))).trans ?_
  refine (ys1 10 (x := 1) rfl rfl rfl).trans ?_
  refine ys18_1 13 rfl rfl (fun h10 => ?_) (fun h10 => ?_)
  · refine (ys1 14 (x := 1) rfl rfl rfl).trans ?_
    refine (ys19 rfl).trans ?_
    refine (ys5 19 (L2 := [(3, .int (1)), (0, .ref (x + 0)), (1, .int (nI p)), (2, .int (nI v))]) rfl rfl rfl rfl).trans ?_
    refine (ys1 21 (x := 8) rfl rfl rfl).trans ?_
    refine (ys30 (m := 8) 23 rfl (by decide) rfl (by decide) rfl).trans ?_
    have hg := zM_len hM
    rw [zg_nest ⟨hg.1, hg.2.1, hg.2.2.1⟩]
    have hMr : ∀ R : zRw, zMC (μ ++ [zR8]) x t s q (zgb J μ.length R) T := fun R => zMC_app [zR8] hM (fun a ha => by unfold zgb; rw [if_neg (by omega)])
    have hMz := hMr zR80
    change zden1 _ _ _ (_, _, _, _, _, zwi (μ ++ [zR8]) (zfl (zfl (zfl (zgb J μ.length zR80) x 6 X) s 22 S) q 22 A)) = _
    refine (ys14 24 rfl (Nat.le_of_ble_eq_true rfl) rfl).trans ?_
    refine (ys1 25 (x := 0) rfl rfl rfl).trans ?_
    refine (ys4 26 (v := .ref (x + 0)) rfl rfl rfl rfl).trans ?_
    refine (ygr 29 rfl (zFS.tag hMz.1.1 (j := 0) (by decide) rfl) rfl hMz.2.2.1).trans ?_
    refine (ygr 32 rfl (zFS.tag (hMs hMz).1 (j := 0) (by decide) rfl) rfl ((hMs hMz).2.1 3 (by decide))).trans ?_
    refine (ys4 33 (v := .int (nI p)) rfl rfl rfl rfl).trans ?_
    refine (ylx 34 (N := 20) rfl (j := p) rfl (Or.inl (zFS.tag (hMs hMz).1 (j := 4) (by decide) rfl)) (zFS.ni (hMs hMz).1 (j := 4) (by decide) rfl) (by omega) (by decide) rfl (zs3_at (hMr _) (j := 4) (by decide))).trans ?_
    refine (ywx 35 (N := 8) rfl (j := 0) rfl (zg_shape _).1 hg.2.2.2 (zg_shape _).2 (by omega) (by decide) rfl (zg_up ⟨hg.1, hg.2.1, hg.2.2.1⟩)).trans ?_
    generalize hR1 : zur zR80 0 ((S 4 p)) = R1
    refine (ys14 36 rfl (Nat.le_of_ble_eq_true rfl) rfl).trans ?_
    refine (ys1 37 (x := 1) rfl rfl rfl).trans ?_
    refine (ys4 38 (v := .ref (x + 0)) rfl rfl rfl rfl).trans ?_
    refine (ygr 41 rfl (zFS.tag hMz.1.1 (j := 0) (by decide) rfl) rfl hMz.2.2.1).trans ?_
    refine (ys4 42 (v := .int (nI p)) rfl rfl rfl rfl).trans ?_
    refine (yc2 45 rfl rfl (Nat.le_of_ble_eq_true rfl) (Or.inr (by show ztg (zwi _ _) _ = _; rw [ztg_wi]; exact (zFS.tag (hMs hMz).1 (j := 0) (by decide) rfl))) rfl rfl (lsm (hMr _) (fun K hC => c_rx hC hp20 hI))).trans ?_
    refine (ywx 46 (N := 8) rfl (j := 1) rfl (zg_shape _).1 hg.2.2.2 (zg_shape _).2 (by omega) (by decide) rfl (zg_up ⟨hg.1, hg.2.1, hg.2.2.1⟩)).trans ?_
    generalize hR2 : zur R1 1 ((rxo S p)) = R2
    refine (ys14 47 rfl (Nat.le_of_ble_eq_true rfl) rfl).trans ?_
    refine (ys1 48 (x := 2) rfl rfl rfl).trans ?_
    refine (ys4 49 (v := .ref (x + 0)) rfl rfl rfl rfl).trans ?_
    refine (ygr 52 rfl (zFS.tag hMz.1.1 (j := 0) (by decide) rfl) rfl hMz.2.2.1).trans ?_
    refine (ys4 53 (v := .int (nI p)) rfl rfl rfl rfl).trans ?_
    refine (yc2 56 rfl rfl (Nat.le_of_ble_eq_true rfl) (Or.inr (by show ztg (zwi _ _) _ = _; rw [ztg_wi]; exact (zFS.tag (hMs hMz).1 (j := 0) (by decide) rfl))) rfl rfl (lsm (hMr _) (fun K hC => c_ry hC hp20 hI))).trans ?_
    refine (ywx 57 (N := 8) rfl (j := 2) rfl (zg_shape _).1 hg.2.2.2 (zg_shape _).2 (by omega) (by decide) rfl (zg_up ⟨hg.1, hg.2.1, hg.2.2.1⟩)).trans ?_
    generalize hR3 : zur R2 2 ((ryo S p)) = R3
    refine (ys14 58 rfl (Nat.le_of_ble_eq_true rfl) rfl).trans ?_
    refine (ys1 59 (x := 3) rfl rfl rfl).trans ?_
    refine (ys4 60 (v := .ref (x + 0)) rfl rfl rfl rfl).trans ?_
    refine (ygr 63 rfl (zFS.tag hMz.1.1 (j := 0) (by decide) rfl) rfl hMz.2.1).trans ?_
    refine (ygr 66 rfl (zFS.tag (hMq hMz (X := X) (S := S)).2.2.2.1 (j := 0) (by decide) rfl) rfl ((hMq hMz (X := X) (S := S)).2.2.2.2.1 4 (by decide))).trans ?_
    refine (ys4 67 (v := .int (nI p)) rfl rfl rfl rfl).trans ?_
    refine (ylx 68 (N := 20) rfl (j := p) rfl (Or.inl (zFS.tag (hMq hMz (X := X) (S := S)).2.2.2.1 (j := 5) (by decide) rfl)) (zFS.ni (hMq hMz (X := X) (S := S)).2.2.2.1 (j := 5) (by decide) rfl) (by omega) (by decide) rfl (zt3_at (hMr _) (j := 5) (by decide))).trans ?_
    refine (ywx 69 (N := 8) rfl (j := 3) rfl (zg_shape _).1 hg.2.2.2 (zg_shape _).2 (by omega) (by decide) rfl (zg_up ⟨hg.1, hg.2.1, hg.2.2.1⟩)).trans ?_
    generalize hR4 : zur R3 3 ((T 5 p)) = R4
    refine (ys14 70 rfl (Nat.le_of_ble_eq_true rfl) rfl).trans ?_
    refine (ys1 71 (x := 4) rfl rfl rfl).trans ?_
    refine (ys4 72 (v := .ref (x + 0)) rfl rfl rfl rfl).trans ?_
    refine (ygr 75 rfl (zFS.tag hMz.1.1 (j := 0) (by decide) rfl) rfl hMz.2.2.1).trans ?_
    refine (ygr 78 rfl (zFS.tag (hMs hMz).1 (j := 0) (by decide) rfl) rfl ((hMs hMz).2.1 3 (by decide))).trans ?_
    refine (ys4 79 (v := .int (nI p)) rfl rfl rfl rfl).trans ?_
    refine (ylx 80 (N := 20) rfl (j := p) rfl (Or.inl (zFS.tag (hMs hMz).1 (j := 4) (by decide) rfl)) (zFS.ni (hMs hMz).1 (j := 4) (by decide) rfl) (by omega) (by decide) rfl (zs3_at (hMr _) (j := 4) (by decide))).trans ?_
    refine ys17_1 83 rfl rfl (fun h80 => ?_) (fun h80 => ?_)
    · refine (ys4 84 (v := .ref (x + 0)) rfl rfl rfl rfl).trans ?_
      refine (ygr 87 rfl (zFS.tag hMz.1.1 (j := 0) (by decide) rfl) rfl hMz.2.2.1).trans ?_
      refine (ygr 90 rfl (zFS.tag (hMs hMz).1 (j := 0) (by decide) rfl) rfl ((hMs hMz).2.1 4 (by decide))).trans ?_
      refine (ys4 91 (v := .int (nI p)) rfl rfl rfl rfl).trans ?_
      refine (ylx 92 (N := 20) rfl (j := p) rfl (Or.inl (zFS.tag (hMs hMz).1 (j := 5) (by decide) rfl)) (zFS.ni (hMs hMz).1 (j := 5) (by decide) rfl) (by omega) (by decide) rfl (zs3_at (hMr _) (j := 5) (by decide))).trans ?_
      refine (ys19 rfl).trans ?_
      refine (ywx 97 (N := 8) rfl (j := 4) rfl (zg_shape _).1 hg.2.2.2 (zg_shape _).2 (by omega) (by decide) rfl (zg_up ⟨hg.1, hg.2.1, hg.2.2.1⟩)).trans ?_
      generalize hR5 : zur R4 4 ((S 5 p)) = R5
      refine (ys14 98 rfl (Nat.le_of_ble_eq_true rfl) rfl).trans ?_
      refine (ys1 99 (x := 5) rfl rfl rfl).trans ?_
      refine (ys4 100 (v := .int (1)) rfl rfl rfl rfl).trans ?_
      refine ys17_0 103 rfl rfl (fun h100 => absurd h100 (by decide)) (fun h100 => ?_)
      refine (ys4 104 (v := .ref (x + 0)) rfl rfl rfl rfl).trans ?_
      refine (ygr 107 rfl (zFS.tag hMz.1.1 (j := 0) (by decide) rfl) rfl hMz.2.2.1).trans ?_
      refine (ygr 110 rfl (zFS.tag (hMs hMz).1 (j := 0) (by decide) rfl) rfl ((hMs hMz).2.1 10 (by decide))).trans ?_
      refine (ys4 111 (v := .int (nI p)) rfl rfl rfl rfl).trans ?_
      refine (ylx 112 (N := 20) rfl (j := p) rfl (Or.inl (zFS.tag (hMs hMz).1 (j := 11) (by decide) rfl)) (zFS.ni (hMs hMz).1 (j := 11) (by decide) rfl) (by omega) (by decide) rfl (zs3_at (hMr _) (j := 11) (by decide))).trans ?_
      refine (ys19 rfl).trans ?_
      refine (ywx 117 (N := 8) rfl (j := 5) rfl (zg_shape _).1 hg.2.2.2 (zg_shape _).2 (by omega) (by decide) rfl (zg_up ⟨hg.1, hg.2.1, hg.2.2.1⟩)).trans ?_
      generalize hR6 : zur R5 5 ((S 11 p)) = R6
      refine (ys14 118 rfl (Nat.le_of_ble_eq_true rfl) rfl).trans ?_
      refine (ys1 120 (x := 6) rfl rfl rfl).trans ?_
      refine (ys4 121 (v := .int (1)) rfl rfl rfl rfl).trans ?_
      refine ys17_0 124 rfl rfl (fun h121 => absurd h121 (by decide)) (fun h121 => ?_)
      refine (ys4 125 (v := .ref (x + 0)) rfl rfl rfl rfl).trans ?_
      refine (ygr 128 rfl (zFS.tag hMz.1.1 (j := 0) (by decide) rfl) rfl hMz.2.2.1).trans ?_
      refine (ygr 131 rfl (zFS.tag (hMs hMz).1 (j := 0) (by decide) rfl) rfl ((hMs hMz).2.1 9 (by decide))).trans ?_
      refine (ys4 132 (v := .int (nI p)) rfl rfl rfl rfl).trans ?_
      refine (ylx 133 (N := 20) rfl (j := p) rfl (Or.inl (zFS.tag (hMs hMz).1 (j := 10) (by decide) rfl)) (zFS.ni (hMs hMz).1 (j := 10) (by decide) rfl) (by omega) (by decide) rfl (zs3_at (hMr _) (j := 10) (by decide))).trans ?_
      refine (ys19 rfl).trans ?_
      refine (ywx 138 (N := 8) rfl (j := 6) rfl (zg_shape _).1 hg.2.2.2 (zg_shape _).2 (by omega) (by decide) rfl (zg_up ⟨hg.1, hg.2.1, hg.2.2.1⟩)).trans ?_
      generalize hR7 : zur R6 6 ((S 10 p)) = R7
      refine (ys14 139 rfl (Nat.le_of_ble_eq_true rfl) rfl).trans ?_
      refine (ys1 141 (x := 7) rfl rfl rfl).trans ?_
      refine (ys4 142 (v := .ref (x + 0)) rfl rfl rfl rfl).trans ?_
      refine (ygr 145 rfl (zFS.tag hMz.1.1 (j := 0) (by decide) rfl) rfl hMz.2.2.1).trans ?_
      refine (ys4 146 (v := .int (nI p)) rfl rfl rfl rfl).trans ?_
      refine (yc2 149 rfl rfl (Nat.le_of_ble_eq_true rfl) (Or.inr (by show ztg (zwi _ _) _ = _; rw [ztg_wi]; exact (zFS.tag (hMs hMz).1 (j := 0) (by decide) rfl))) rfl rfl (lsm (hMr _) (fun K hC => c_fh hC hp20 hI))).trans ?_
      refine (ywx 150 (N := 8) rfl (j := 7) rfl (zg_shape _).1 hg.2.2.2 (zg_shape _).2 (by omega) (by decide) rfl (zg_up ⟨hg.1, hg.2.1, hg.2.2.1⟩)).trans ?_
      generalize hR8 : zur R7 7 ((rfh S T p)) = R8
      refine (ys5 152 (L2 := [(4, .ref (μ.length)), (3, .int (1)), (0, .ref (x + 0)), (1, .int (nI p)), (2, .int (nI v))]) rfl rfl rfl rfl).trans ?_
      refine (ys4 154 (v := .ref (μ.length)) rfl rfl rfl rfl).trans ?_
      refine (ys4 155 (v := .int (nI v)) rfl rfl rfl rfl).trans ?_
      refine (ylx 156 (N := 8) rfl (j := v) rfl (Or.inl (zg_shape _).1) (zg_shape _).2 (by omega) (by decide) rfl (zg_at ⟨hg.1, hg.2.1, hg.2.2.1⟩)).trans ?_
      refine (ys36 rfl rfl).trans ?_
      rw [show mpt S T p = R8 from by subst hR8 hR7 hR6 hR5 hR4 hR3 hR2 hR1; unfold mpt; (try dsimp only); rw [if_pos h10, if_pos h80]]; (first | done | rfl)
    · refine (ys1 96 (x := (-1)) rfl rfl rfl).trans ?_
      refine (ywx 97 (N := 8) rfl (j := 4) rfl (zg_shape _).1 hg.2.2.2 (zg_shape _).2 (by omega) (by decide) rfl (zg_up ⟨hg.1, hg.2.1, hg.2.2.1⟩)).trans ?_
      generalize hR9 : zur R4 4 ((-1)) = R9
      refine (ys14 98 rfl (Nat.le_of_ble_eq_true rfl) rfl).trans ?_
      refine (ys1 99 (x := 5) rfl rfl rfl).trans ?_
      refine (ys4 100 (v := .int (1)) rfl rfl rfl rfl).trans ?_
      refine ys17_0 103 rfl rfl (fun h100 => absurd h100 (by decide)) (fun h100 => ?_)
      refine (ys4 104 (v := .ref (x + 0)) rfl rfl rfl rfl).trans ?_
      refine (ygr 107 rfl (zFS.tag hMz.1.1 (j := 0) (by decide) rfl) rfl hMz.2.2.1).trans ?_
      refine (ygr 110 rfl (zFS.tag (hMs hMz).1 (j := 0) (by decide) rfl) rfl ((hMs hMz).2.1 10 (by decide))).trans ?_
      refine (ys4 111 (v := .int (nI p)) rfl rfl rfl rfl).trans ?_
      refine (ylx 112 (N := 20) rfl (j := p) rfl (Or.inl (zFS.tag (hMs hMz).1 (j := 11) (by decide) rfl)) (zFS.ni (hMs hMz).1 (j := 11) (by decide) rfl) (by omega) (by decide) rfl (zs3_at (hMr _) (j := 11) (by decide))).trans ?_
      refine (ys19 rfl).trans ?_
      refine (ywx 117 (N := 8) rfl (j := 5) rfl (zg_shape _).1 hg.2.2.2 (zg_shape _).2 (by omega) (by decide) rfl (zg_up ⟨hg.1, hg.2.1, hg.2.2.1⟩)).trans ?_
      generalize hR10 : zur R9 5 ((S 11 p)) = R10
      refine (ys14 118 rfl (Nat.le_of_ble_eq_true rfl) rfl).trans ?_
      refine (ys1 120 (x := 6) rfl rfl rfl).trans ?_
      refine (ys4 121 (v := .int (1)) rfl rfl rfl rfl).trans ?_
      refine ys17_0 124 rfl rfl (fun h121 => absurd h121 (by decide)) (fun h121 => ?_)
      refine (ys4 125 (v := .ref (x + 0)) rfl rfl rfl rfl).trans ?_
      refine (ygr 128 rfl (zFS.tag hMz.1.1 (j := 0) (by decide) rfl) rfl hMz.2.2.1).trans ?_
      refine (ygr 131 rfl (zFS.tag (hMs hMz).1 (j := 0) (by decide) rfl) rfl ((hMs hMz).2.1 9 (by decide))).trans ?_
      refine (ys4 132 (v := .int (nI p)) rfl rfl rfl rfl).trans ?_
      refine (ylx 133 (N := 20) rfl (j := p) rfl (Or.inl (zFS.tag (hMs hMz).1 (j := 10) (by decide) rfl)) (zFS.ni (hMs hMz).1 (j := 10) (by decide) rfl) (by omega) (by decide) rfl (zs3_at (hMr _) (j := 10) (by decide))).trans ?_
      refine (ys19 rfl).trans ?_
      refine (ywx 138 (N := 8) rfl (j := 6) rfl (zg_shape _).1 hg.2.2.2 (zg_shape _).2 (by omega) (by decide) rfl (zg_up ⟨hg.1, hg.2.1, hg.2.2.1⟩)).trans ?_
      generalize hR11 : zur R10 6 ((S 10 p)) = R11
      refine (ys14 139 rfl (Nat.le_of_ble_eq_true rfl) rfl).trans ?_
      refine (ys1 141 (x := 7) rfl rfl rfl).trans ?_
      refine (ys4 142 (v := .ref (x + 0)) rfl rfl rfl rfl).trans ?_
      refine (ygr 145 rfl (zFS.tag hMz.1.1 (j := 0) (by decide) rfl) rfl hMz.2.2.1).trans ?_
      refine (ys4 146 (v := .int (nI p)) rfl rfl rfl rfl).trans ?_
      refine (yc2 149 rfl rfl (Nat.le_of_ble_eq_true rfl) (Or.inr (by show ztg (zwi _ _) _ = _; rw [ztg_wi]; exact (zFS.tag (hMs hMz).1 (j := 0) (by decide) rfl))) rfl rfl (lsm (hMr _) (fun K hC => c_fh hC hp20 hI))).trans ?_
      refine (ywx 150 (N := 8) rfl (j := 7) rfl (zg_shape _).1 hg.2.2.2 (zg_shape _).2 (by omega) (by decide) rfl (zg_up ⟨hg.1, hg.2.1, hg.2.2.1⟩)).trans ?_
      generalize hR12 : zur R11 7 ((rfh S T p)) = R12
      refine (ys5 152 (L2 := [(4, .ref (μ.length)), (3, .int (1)), (0, .ref (x + 0)), (1, .int (nI p)), (2, .int (nI v))]) rfl rfl rfl rfl).trans ?_
      refine (ys4 154 (v := .ref (μ.length)) rfl rfl rfl rfl).trans ?_
      refine (ys4 155 (v := .int (nI v)) rfl rfl rfl rfl).trans ?_
      refine (ylx 156 (N := 8) rfl (j := v) rfl (Or.inl (zg_shape _).1) (zg_shape _).2 (by omega) (by decide) rfl (zg_at ⟨hg.1, hg.2.1, hg.2.2.1⟩)).trans ?_
      refine (ys36 rfl rfl).trans ?_
      rw [show mpt S T p = R12 from by subst hR12 hR11 hR10 hR9 hR4 hR3 hR2 hR1; unfold mpt; (try dsimp only); rw [if_pos h10, if_neg h80]]; (first | done | rfl)
  · refine (ys1 18 (x := 0) rfl rfl rfl).trans ?_
    refine (ys5 19 (L2 := [(3, .int (0)), (0, .ref (x + 0)), (1, .int (nI p)), (2, .int (nI v))]) rfl rfl rfl rfl).trans ?_
    refine (ys1 21 (x := 8) rfl rfl rfl).trans ?_
    refine (ys30 (m := 8) 23 rfl (by decide) rfl (by decide) rfl).trans ?_
    have hg := zM_len hM
    rw [zg_nest ⟨hg.1, hg.2.1, hg.2.2.1⟩]
    have hMr : ∀ R : zRw, zMC (μ ++ [zR8]) x t s q (zgb J μ.length R) T := fun R => zMC_app [zR8] hM (fun a ha => by unfold zgb; rw [if_neg (by omega)])
    have hMz := hMr zR80
    change zden1 _ _ _ (_, _, _, _, _, zwi (μ ++ [zR8]) (zfl (zfl (zfl (zgb J μ.length zR80) x 6 X) s 22 S) q 22 A)) = _
    refine (ys14 24 rfl (Nat.le_of_ble_eq_true rfl) rfl).trans ?_
    refine (ys1 25 (x := 0) rfl rfl rfl).trans ?_
    refine (ys4 26 (v := .ref (x + 0)) rfl rfl rfl rfl).trans ?_
    refine (ygr 29 rfl (zFS.tag hMz.1.1 (j := 0) (by decide) rfl) rfl hMz.2.2.1).trans ?_
    refine (ygr 32 rfl (zFS.tag (hMs hMz).1 (j := 0) (by decide) rfl) rfl ((hMs hMz).2.1 3 (by decide))).trans ?_
    refine (ys4 33 (v := .int (nI p)) rfl rfl rfl rfl).trans ?_
    refine (ylx 34 (N := 20) rfl (j := p) rfl (Or.inl (zFS.tag (hMs hMz).1 (j := 4) (by decide) rfl)) (zFS.ni (hMs hMz).1 (j := 4) (by decide) rfl) (by omega) (by decide) rfl (zs3_at (hMr _) (j := 4) (by decide))).trans ?_
    refine (ywx 35 (N := 8) rfl (j := 0) rfl (zg_shape _).1 hg.2.2.2 (zg_shape _).2 (by omega) (by decide) rfl (zg_up ⟨hg.1, hg.2.1, hg.2.2.1⟩)).trans ?_
    generalize hR13 : zur zR80 0 ((S 4 p)) = R13
    refine (ys14 36 rfl (Nat.le_of_ble_eq_true rfl) rfl).trans ?_
    refine (ys1 37 (x := 1) rfl rfl rfl).trans ?_
    refine (ys4 38 (v := .ref (x + 0)) rfl rfl rfl rfl).trans ?_
    refine (ygr 41 rfl (zFS.tag hMz.1.1 (j := 0) (by decide) rfl) rfl hMz.2.2.1).trans ?_
    refine (ys4 42 (v := .int (nI p)) rfl rfl rfl rfl).trans ?_
    refine (yc2 45 rfl rfl (Nat.le_of_ble_eq_true rfl) (Or.inr (by show ztg (zwi _ _) _ = _; rw [ztg_wi]; exact (zFS.tag (hMs hMz).1 (j := 0) (by decide) rfl))) rfl rfl (lsm (hMr _) (fun K hC => c_rx hC hp20 hI))).trans ?_
    refine (ywx 46 (N := 8) rfl (j := 1) rfl (zg_shape _).1 hg.2.2.2 (zg_shape _).2 (by omega) (by decide) rfl (zg_up ⟨hg.1, hg.2.1, hg.2.2.1⟩)).trans ?_
    generalize hR14 : zur R13 1 ((rxo S p)) = R14
    refine (ys14 47 rfl (Nat.le_of_ble_eq_true rfl) rfl).trans ?_
    refine (ys1 48 (x := 2) rfl rfl rfl).trans ?_
    refine (ys4 49 (v := .ref (x + 0)) rfl rfl rfl rfl).trans ?_
    refine (ygr 52 rfl (zFS.tag hMz.1.1 (j := 0) (by decide) rfl) rfl hMz.2.2.1).trans ?_
    refine (ys4 53 (v := .int (nI p)) rfl rfl rfl rfl).trans ?_
    refine (yc2 56 rfl rfl (Nat.le_of_ble_eq_true rfl) (Or.inr (by show ztg (zwi _ _) _ = _; rw [ztg_wi]; exact (zFS.tag (hMs hMz).1 (j := 0) (by decide) rfl))) rfl rfl (lsm (hMr _) (fun K hC => c_ry hC hp20 hI))).trans ?_
    refine (ywx 57 (N := 8) rfl (j := 2) rfl (zg_shape _).1 hg.2.2.2 (zg_shape _).2 (by omega) (by decide) rfl (zg_up ⟨hg.1, hg.2.1, hg.2.2.1⟩)).trans ?_
    generalize hR15 : zur R14 2 ((ryo S p)) = R15
    refine (ys14 58 rfl (Nat.le_of_ble_eq_true rfl) rfl).trans ?_
    refine (ys1 59 (x := 3) rfl rfl rfl).trans ?_
    refine (ys4 60 (v := .ref (x + 0)) rfl rfl rfl rfl).trans ?_
    refine (ygr 63 rfl (zFS.tag hMz.1.1 (j := 0) (by decide) rfl) rfl hMz.2.1).trans ?_
    refine (ygr 66 rfl (zFS.tag (hMq hMz (X := X) (S := S)).2.2.2.1 (j := 0) (by decide) rfl) rfl ((hMq hMz (X := X) (S := S)).2.2.2.2.1 4 (by decide))).trans ?_
    refine (ys4 67 (v := .int (nI p)) rfl rfl rfl rfl).trans ?_
    refine (ylx 68 (N := 20) rfl (j := p) rfl (Or.inl (zFS.tag (hMq hMz (X := X) (S := S)).2.2.2.1 (j := 5) (by decide) rfl)) (zFS.ni (hMq hMz (X := X) (S := S)).2.2.2.1 (j := 5) (by decide) rfl) (by omega) (by decide) rfl (zt3_at (hMr _) (j := 5) (by decide))).trans ?_
    refine (ywx 69 (N := 8) rfl (j := 3) rfl (zg_shape _).1 hg.2.2.2 (zg_shape _).2 (by omega) (by decide) rfl (zg_up ⟨hg.1, hg.2.1, hg.2.2.1⟩)).trans ?_
    generalize hR16 : zur R15 3 ((T 5 p)) = R16
    refine (ys14 70 rfl (Nat.le_of_ble_eq_true rfl) rfl).trans ?_
    refine (ys1 71 (x := 4) rfl rfl rfl).trans ?_
    refine (ys4 72 (v := .ref (x + 0)) rfl rfl rfl rfl).trans ?_
    refine (ygr 75 rfl (zFS.tag hMz.1.1 (j := 0) (by decide) rfl) rfl hMz.2.2.1).trans ?_
    refine (ygr 78 rfl (zFS.tag (hMs hMz).1 (j := 0) (by decide) rfl) rfl ((hMs hMz).2.1 3 (by decide))).trans ?_
    refine (ys4 79 (v := .int (nI p)) rfl rfl rfl rfl).trans ?_
    refine (ylx 80 (N := 20) rfl (j := p) rfl (Or.inl (zFS.tag (hMs hMz).1 (j := 4) (by decide) rfl)) (zFS.ni (hMs hMz).1 (j := 4) (by decide) rfl) (by omega) (by decide) rfl (zs3_at (hMr _) (j := 4) (by decide))).trans ?_
    refine ys17_1 83 rfl rfl (fun h80 => ?_) (fun h80 => ?_)
    · refine (ys4 84 (v := .ref (x + 0)) rfl rfl rfl rfl).trans ?_
      refine (ygr 87 rfl (zFS.tag hMz.1.1 (j := 0) (by decide) rfl) rfl hMz.2.2.1).trans ?_
      refine (ygr 90 rfl (zFS.tag (hMs hMz).1 (j := 0) (by decide) rfl) rfl ((hMs hMz).2.1 4 (by decide))).trans ?_
      refine (ys4 91 (v := .int (nI p)) rfl rfl rfl rfl).trans ?_
      refine (ylx 92 (N := 20) rfl (j := p) rfl (Or.inl (zFS.tag (hMs hMz).1 (j := 5) (by decide) rfl)) (zFS.ni (hMs hMz).1 (j := 5) (by decide) rfl) (by omega) (by decide) rfl (zs3_at (hMr _) (j := 5) (by decide))).trans ?_
      refine (ys19 rfl).trans ?_
      refine (ywx 97 (N := 8) rfl (j := 4) rfl (zg_shape _).1 hg.2.2.2 (zg_shape _).2 (by omega) (by decide) rfl (zg_up ⟨hg.1, hg.2.1, hg.2.2.1⟩)).trans ?_
      generalize hR17 : zur R16 4 ((S 5 p)) = R17
      refine (ys14 98 rfl (Nat.le_of_ble_eq_true rfl) rfl).trans ?_
      refine (ys1 99 (x := 5) rfl rfl rfl).trans ?_
      refine (ys4 100 (v := .int (0)) rfl rfl rfl rfl).trans ?_
      refine ys17_0 103 rfl rfl (fun h100 => ?_) (fun h100 => absurd (by decide) h100)
      refine (ys1 116 (x := (-1)) rfl rfl rfl).trans ?_
      refine (ywx 117 (N := 8) rfl (j := 5) rfl (zg_shape _).1 hg.2.2.2 (zg_shape _).2 (by omega) (by decide) rfl (zg_up ⟨hg.1, hg.2.1, hg.2.2.1⟩)).trans ?_
      generalize hR18 : zur R17 5 ((-1)) = R18
      refine (ys14 118 rfl (Nat.le_of_ble_eq_true rfl) rfl).trans ?_
      refine (ys1 120 (x := 6) rfl rfl rfl).trans ?_
      refine (ys4 121 (v := .int (0)) rfl rfl rfl rfl).trans ?_
      refine ys17_0 124 rfl rfl (fun h121 => ?_) (fun h121 => absurd (by decide) h121)
      refine (ys1 137 (x := 0) rfl rfl rfl).trans ?_
      refine (ywx 138 (N := 8) rfl (j := 6) rfl (zg_shape _).1 hg.2.2.2 (zg_shape _).2 (by omega) (by decide) rfl (zg_up ⟨hg.1, hg.2.1, hg.2.2.1⟩)).trans ?_
      generalize hR19 : zur R18 6 (0) = R19
      refine (ys14 139 rfl (Nat.le_of_ble_eq_true rfl) rfl).trans ?_
      refine (ys1 141 (x := 7) rfl rfl rfl).trans ?_
      refine (ys4 142 (v := .ref (x + 0)) rfl rfl rfl rfl).trans ?_
      refine (ygr 145 rfl (zFS.tag hMz.1.1 (j := 0) (by decide) rfl) rfl hMz.2.2.1).trans ?_
      refine (ys4 146 (v := .int (nI p)) rfl rfl rfl rfl).trans ?_
      refine (yc2 149 rfl rfl (Nat.le_of_ble_eq_true rfl) (Or.inr (by show ztg (zwi _ _) _ = _; rw [ztg_wi]; exact (zFS.tag (hMs hMz).1 (j := 0) (by decide) rfl))) rfl rfl (lsm (hMr _) (fun K hC => c_fh hC hp20 hI))).trans ?_
      refine (ywx 150 (N := 8) rfl (j := 7) rfl (zg_shape _).1 hg.2.2.2 (zg_shape _).2 (by omega) (by decide) rfl (zg_up ⟨hg.1, hg.2.1, hg.2.2.1⟩)).trans ?_
      generalize hR20 : zur R19 7 ((rfh S T p)) = R20
      refine (ys5 152 (L2 := [(4, .ref (μ.length)), (3, .int (0)), (0, .ref (x + 0)), (1, .int (nI p)), (2, .int (nI v))]) rfl rfl rfl rfl).trans ?_
      refine (ys4 154 (v := .ref (μ.length)) rfl rfl rfl rfl).trans ?_
      refine (ys4 155 (v := .int (nI v)) rfl rfl rfl rfl).trans ?_
      refine (ylx 156 (N := 8) rfl (j := v) rfl (Or.inl (zg_shape _).1) (zg_shape _).2 (by omega) (by decide) rfl (zg_at ⟨hg.1, hg.2.1, hg.2.2.1⟩)).trans ?_
      refine (ys36 rfl rfl).trans ?_
      rw [show mpt S T p = R20 from by subst hR20 hR19 hR18 hR17 hR16 hR15 hR14 hR13; unfold mpt; (try dsimp only); rw [if_neg h10, if_pos h80]]; (first | done | rfl)
    · refine (ys1 96 (x := (-1)) rfl rfl rfl).trans ?_
      refine (ywx 97 (N := 8) rfl (j := 4) rfl (zg_shape _).1 hg.2.2.2 (zg_shape _).2 (by omega) (by decide) rfl (zg_up ⟨hg.1, hg.2.1, hg.2.2.1⟩)).trans ?_
      generalize hR21 : zur R16 4 ((-1)) = R21
      refine (ys14 98 rfl (Nat.le_of_ble_eq_true rfl) rfl).trans ?_
      refine (ys1 99 (x := 5) rfl rfl rfl).trans ?_
      refine (ys4 100 (v := .int (0)) rfl rfl rfl rfl).trans ?_
      refine ys17_0 103 rfl rfl (fun h100 => ?_) (fun h100 => absurd (by decide) h100)
      refine (ys1 116 (x := (-1)) rfl rfl rfl).trans ?_
      refine (ywx 117 (N := 8) rfl (j := 5) rfl (zg_shape _).1 hg.2.2.2 (zg_shape _).2 (by omega) (by decide) rfl (zg_up ⟨hg.1, hg.2.1, hg.2.2.1⟩)).trans ?_
      generalize hR22 : zur R21 5 ((-1)) = R22
      refine (ys14 118 rfl (Nat.le_of_ble_eq_true rfl) rfl).trans ?_
      refine (ys1 120 (x := 6) rfl rfl rfl).trans ?_
      refine (ys4 121 (v := .int (0)) rfl rfl rfl rfl).trans ?_
      refine ys17_0 124 rfl rfl (fun h121 => ?_) (fun h121 => absurd (by decide) h121)
      refine (ys1 137 (x := 0) rfl rfl rfl).trans ?_
      refine (ywx 138 (N := 8) rfl (j := 6) rfl (zg_shape _).1 hg.2.2.2 (zg_shape _).2 (by omega) (by decide) rfl (zg_up ⟨hg.1, hg.2.1, hg.2.2.1⟩)).trans ?_
      generalize hR23 : zur R22 6 (0) = R23
      refine (ys14 139 rfl (Nat.le_of_ble_eq_true rfl) rfl).trans ?_
      refine (ys1 141 (x := 7) rfl rfl rfl).trans ?_
      refine (ys4 142 (v := .ref (x + 0)) rfl rfl rfl rfl).trans ?_
      refine (ygr 145 rfl (zFS.tag hMz.1.1 (j := 0) (by decide) rfl) rfl hMz.2.2.1).trans ?_
      refine (ys4 146 (v := .int (nI p)) rfl rfl rfl rfl).trans ?_
      refine (yc2 149 rfl rfl (Nat.le_of_ble_eq_true rfl) (Or.inr (by show ztg (zwi _ _) _ = _; rw [ztg_wi]; exact (zFS.tag (hMs hMz).1 (j := 0) (by decide) rfl))) rfl rfl (lsm (hMr _) (fun K hC => c_fh hC hp20 hI))).trans ?_
      refine (ywx 150 (N := 8) rfl (j := 7) rfl (zg_shape _).1 hg.2.2.2 (zg_shape _).2 (by omega) (by decide) rfl (zg_up ⟨hg.1, hg.2.1, hg.2.2.1⟩)).trans ?_
      generalize hR24 : zur R23 7 ((rfh S T p)) = R24
      refine (ys5 152 (L2 := [(4, .ref (μ.length)), (3, .int (0)), (0, .ref (x + 0)), (1, .int (nI p)), (2, .int (nI v))]) rfl rfl rfl rfl).trans ?_
      refine (ys4 154 (v := .ref (μ.length)) rfl rfl rfl rfl).trans ?_
      refine (ys4 155 (v := .int (nI v)) rfl rfl rfl rfl).trans ?_
      refine (ylx 156 (N := 8) rfl (j := v) rfl (Or.inl (zg_shape _).1) (zg_shape _).2 (by omega) (by decide) rfl (zg_at ⟨hg.1, hg.2.1, hg.2.2.1⟩)).trans ?_
      refine (ys36 rfl rfl).trans ?_
      rw [show mpt S T p = R24 from by subst hR24 hR23 hR22 hR21 hR16 hR15 hR14 hR13; unfold mpt; (try dsimp only); rw [if_neg h10, if_neg h80]]; (first | done | rfl)

def mlt (S : zFn) (T : zFn) (k : Nat) (np : Nat) : zRw :=
  let R1 := zur zR80 0 ((S 17 k))
  let R2 := zur R1 1 ((S 18 k))
  let R3 := zur R2 2 ((T 14 k))
  if (ria S T k) = 0 then
    let R4 := zur R3 3 (0)
    if (rlo S T k np) = 0 then
      let R5 := zur R4 4 (0)
      let R6 := zur R5 5 ((rfyL S T k 0 np 0 0))
      let R7 := zur R6 6 ((S 19 k))
      let R8 := zur R7 7 ((S 20 k))
      R8
    else
      let R9 := zur R4 4 (1)
      let R10 := zur R9 5 ((rfyL S T k 0 np 0 0))
      let R11 := zur R10 6 ((S 19 k))
      let R12 := zur R11 7 ((S 20 k))
      R12
  else
    let R13 := zur R3 3 (1)
    if (rlo S T k np) = 0 then
      let R14 := zur R13 4 (0)
      let R15 := zur R14 5 ((rfyL S T k 0 np 0 0))
      let R16 := zur R15 6 ((S 19 k))
      let R17 := zur R16 7 ((S 20 k))
      R17
    else
      let R18 := zur R13 4 (1)
      let R19 := zur R18 5 ((rfyL S T k 0 np 0 0))
      let R20 := zur R19 6 ((S 19 k))
      let R21 := zur R20 7 ((S 20 k))
      R21

theorem c_mlt {d : Nat} {x t s q : Nat} {X S A T J : zFn} {μ : zM} (hM : zMC μ x t s q J T) {nl np nh nk : Nat} (hN : zTN T nl np nh nk) (hI : zIN T S) {k : Nat} (hk12 : k < 12) {v : Nat} (hv : v < 8) : zden zcds (d + 7) 168 [.ref (x + 0), .int (nI k), .int (nI v)] (zwi μ (zfl (zfl (zfl J x 6 X) s 22 S) q 22 A)) = some (0, some (.int ((mlt S T k np) v)), 1, 8, zwi (μ ++ [zR8]) (zfl (zfl (zfl (zgb J μ.length (mlt S T k np)) x 6 X) s 22 S) q 22 A)) := by
  refine (zd_in (d := d + 6) (cd := zc168) (nL := 4) (L := [(0, .ref (x + 0)), (1, .int (nI k)), (2, .int (nI v))]) rfl (Nat.le_of_ble_eq_true rfl) rfl).trans ?_
  refine (ys1 2 (x := 8) rfl rfl rfl).trans ?_
  refine (ys30 (m := 8) 4 rfl (by decide) rfl (by decide) rfl).trans ?_
  have hg := zM_len hM
  rw [zg_nest ⟨hg.1, hg.2.1, hg.2.2.1⟩]
  have hMr : ∀ R : zRw, zMC (μ ++ [zR8]) x t s q (zgb J μ.length R) T := fun R => zMC_app [zR8] hM (fun a ha => by unfold zgb; rw [if_neg (by omega)])
  have hMz := hMr zR80
  change zden1 _ _ _ (_, _, _, _, _, zwi (μ ++ [zR8]) (zfl (zfl (zfl (zgb J μ.length zR80) x 6 X) s 22 S) q 22 A)) = _
  refine (ys14 5 rfl (Nat.le_of_ble_eq_true rfl) rfl).trans ?_
  refine (ys1 6 (x := 0) rfl rfl rfl).trans ?_
  refine (ys4 7 (v := .ref (x + 0)) rfl rfl rfl rfl).trans ?_
  refine (ygr 10 rfl (zFS.tag hMz.1.1 (j := 0) (by decide) rfl) rfl hMz.2.2.1).trans ?_
  refine (ygr 13 rfl (zFS.tag (hMs hMz).1 (j := 0) (by decide) rfl) rfl ((hMs hMz).2.1 16 (by decide))).trans ?_
  refine (ys4 14 (v := .int (nI k)) rfl rfl rfl rfl).trans ?_
  refine (ylx 15 (N := 12) rfl (j := k) rfl (Or.inl (zFS.tag (hMs hMz).1 (j := 17) (by decide) rfl)) (zFS.ni (hMs hMz).1 (j := 17) (by decide) rfl) (by omega) (by decide) rfl (zs3_at (hMr _) (j := 17) (by decide))).trans ?_
  refine (ywx 16 (N := 8) rfl (j := 0) rfl (zg_shape _).1 hg.2.2.2 (zg_shape _).2 (by omega) (by decide) rfl (zg_up ⟨hg.1, hg.2.1, hg.2.2.1⟩)).trans ?_
  generalize hR1 : zur zR80 0 ((S 17 k)) = R1
  refine (ys14 17 rfl (Nat.le_of_ble_eq_true rfl) rfl).trans ?_
  refine (ys1 18 (x := 1) rfl rfl rfl).trans ?_
  refine (ys4 19 (v := .ref (x + 0)) rfl rfl rfl rfl).trans ?_
  refine (ygr 22 rfl (zFS.tag hMz.1.1 (j := 0) (by decide) rfl) rfl hMz.2.2.1).trans ?_
  refine (ygr 25 rfl (zFS.tag (hMs hMz).1 (j := 0) (by decide) rfl) rfl ((hMs hMz).2.1 17 (by decide))).trans ?_
  refine (ys4 26 (v := .int (nI k)) rfl rfl rfl rfl).trans ?_
  refine (ylx 27 (N := 12) rfl (j := k) rfl (Or.inl (zFS.tag (hMs hMz).1 (j := 18) (by decide) rfl)) (zFS.ni (hMs hMz).1 (j := 18) (by decide) rfl) (by omega) (by decide) rfl (zs3_at (hMr _) (j := 18) (by decide))).trans ?_
  refine (ywx 28 (N := 8) rfl (j := 1) rfl (zg_shape _).1 hg.2.2.2 (zg_shape _).2 (by omega) (by decide) rfl (zg_up ⟨hg.1, hg.2.1, hg.2.2.1⟩)).trans ?_
  generalize hR2 : zur R1 1 ((S 18 k)) = R2
  refine (ys14 29 rfl (Nat.le_of_ble_eq_true rfl) rfl).trans ?_
  refine (ys1 30 (x := 2) rfl rfl rfl).trans ?_
  refine (ys4 31 (v := .ref (x + 0)) rfl rfl rfl rfl).trans ?_
  refine (ygr 34 rfl (zFS.tag hMz.1.1 (j := 0) (by decide) rfl) rfl hMz.2.1).trans ?_
  refine (ygr 37 rfl (zFS.tag (hMq hMz (X := X) (S := S)).2.2.2.1 (j := 0) (by decide) rfl) rfl ((hMq hMz (X := X) (S := S)).2.2.2.2.1 13 (by decide))).trans ?_
  refine (ys4 38 (v := .int (nI k)) rfl rfl rfl rfl).trans ?_
  refine (ylx 39 (N := 12) rfl (j := k) rfl (Or.inl (zFS.tag (hMq hMz (X := X) (S := S)).2.2.2.1 (j := 14) (by decide) rfl)) (zFS.ni (hMq hMz (X := X) (S := S)).2.2.2.1 (j := 14) (by decide) rfl) (by omega) (by decide) rfl (zt3_at (hMr _) (j := 14) (by decide))).trans ?_
  refine (ywx 40 (N := 8) rfl (j := 2) rfl (zg_shape _).1 hg.2.2.2 (zg_shape _).2 (by omega) (by decide) rfl (zg_up ⟨hg.1, hg.2.1, hg.2.2.1⟩)).trans ?_
  generalize hR3 : zur R2 2 ((T 14 k)) = R3
  refine (ys14 41 rfl (Nat.le_of_ble_eq_true rfl) rfl).trans ?_
  refine (ys1 42 (x := 3) rfl rfl rfl).trans ?_
  refine (ys4 43 (v := .ref (x + 0)) rfl rfl rfl rfl).trans ?_
  refine (ygr 46 rfl (zFS.tag hMz.1.1 (j := 0) (by decide) rfl) rfl hMz.2.2.1).trans ?_
  refine (ys4 47 (v := .int (nI k)) rfl rfl rfl rfl).trans ?_
  refine (yc2 50 rfl rfl (Nat.le_of_ble_eq_true rfl) (Or.inr (by show ztg (zwi _ _) _ = _; rw [ztg_wi]; exact (zFS.tag (hMs hMz).1 (j := 0) (by decide) rfl))) rfl rfl (lsm (hMr _) (fun K hC => c_ia hC hk12))).trans ?_
  refine ys17_0 53 rfl rfl (fun h50 => ?_) (fun h50 => ?_)
  · refine (ys1 58 (x := 0) rfl rfl rfl).trans ?_
    refine (ywx 59 (N := 8) rfl (j := 3) rfl (zg_shape _).1 hg.2.2.2 (zg_shape _).2 (by omega) (by decide) rfl (zg_up ⟨hg.1, hg.2.1, hg.2.2.1⟩)).trans ?_
    generalize hR4 : zur R3 3 (0) = R4
    refine (ys14 60 rfl (Nat.le_of_ble_eq_true rfl) rfl).trans ?_
    refine (ys1 61 (x := 4) rfl rfl rfl).trans ?_
    refine (ys4 62 (v := .ref (x + 0)) rfl rfl rfl rfl).trans ?_
    refine (ygr 65 rfl (zFS.tag hMz.1.1 (j := 0) (by decide) rfl) rfl hMz.2.2.1).trans ?_
    refine (ys4 66 (v := .int (nI k)) rfl rfl rfl rfl).trans ?_
    refine (yc2 69 rfl rfl (Nat.le_of_ble_eq_true rfl) (Or.inr (by show ztg (zwi _ _) _ = _; rw [ztg_wi]; exact (zFS.tag (hMs hMz).1 (j := 0) (by decide) rfl))) rfl rfl (lsm (hMr _) (fun K hC => c_rlo hC hk12 hN hI))).trans ?_
    refine ys17_0 72 rfl rfl (fun h69 => ?_) (fun h69 => ?_)
    · refine (ys1 77 (x := 0) rfl rfl rfl).trans ?_
      refine (ywx 78 (N := 8) rfl (j := 4) rfl (zg_shape _).1 hg.2.2.2 (zg_shape _).2 (by omega) (by decide) rfl (zg_up ⟨hg.1, hg.2.1, hg.2.2.1⟩)).trans ?_
      generalize hR5 : zur R4 4 (0) = R5
      refine (ys14 79 rfl (Nat.le_of_ble_eq_true rfl) rfl).trans ?_
      refine (ys1 80 (x := 5) rfl rfl rfl).trans ?_
      refine (ys4 81 (v := .ref (x + 0)) rfl rfl rfl rfl).trans ?_
      refine (ygr 84 rfl (zFS.tag hMz.1.1 (j := 0) (by decide) rfl) rfl hMz.2.2.1).trans ?_
      refine (ys4 85 (v := .int (nI k)) rfl rfl rfl rfl).trans ?_
      refine (ys1 86 (x := 0) rfl rfl rfl).trans ?_
      refine (yc3 89 rfl rfl (Nat.le_of_ble_eq_true rfl) (Or.inr (by show ztg (zwi _ _) _ = _; rw [ztg_wi]; exact (zFS.tag (hMs hMz).1 (j := 0) (by decide) rfl))) rfl rfl (lsm (hMr _) (fun K hC => c_rfy hC hk12 hN))).trans ?_
      refine (ywx 90 (N := 8) rfl (j := 5) rfl (zg_shape _).1 hg.2.2.2 (zg_shape _).2 (by omega) (by decide) rfl (zg_up ⟨hg.1, hg.2.1, hg.2.2.1⟩)).trans ?_
      generalize hR6 : zur R5 5 ((rfyL S T k 0 np 0 0)) = R6
      refine (ys14 91 rfl (Nat.le_of_ble_eq_true rfl) rfl).trans ?_
      refine (ys1 93 (x := 6) rfl rfl rfl).trans ?_
      refine (ys4 94 (v := .ref (x + 0)) rfl rfl rfl rfl).trans ?_
      refine (ygr 97 rfl (zFS.tag hMz.1.1 (j := 0) (by decide) rfl) rfl hMz.2.2.1).trans ?_
      refine (ygr 100 rfl (zFS.tag (hMs hMz).1 (j := 0) (by decide) rfl) rfl ((hMs hMz).2.1 18 (by decide))).trans ?_
      refine (ys4 101 (v := .int (nI k)) rfl rfl rfl rfl).trans ?_
      refine (ylx 102 (N := 12) rfl (j := k) rfl (Or.inl (zFS.tag (hMs hMz).1 (j := 19) (by decide) rfl)) (zFS.ni (hMs hMz).1 (j := 19) (by decide) rfl) (by omega) (by decide) rfl (zs3_at (hMr _) (j := 19) (by decide))).trans ?_
      refine (ywx 103 (N := 8) rfl (j := 6) rfl (zg_shape _).1 hg.2.2.2 (zg_shape _).2 (by omega) (by decide) rfl (zg_up ⟨hg.1, hg.2.1, hg.2.2.1⟩)).trans ?_
      generalize hR7 : zur R6 6 ((S 19 k)) = R7
      refine (ys14 104 rfl (Nat.le_of_ble_eq_true rfl) rfl).trans ?_
      refine (ys1 106 (x := 7) rfl rfl rfl).trans ?_
      refine (ys4 107 (v := .ref (x + 0)) rfl rfl rfl rfl).trans ?_
      refine (ygr 110 rfl (zFS.tag hMz.1.1 (j := 0) (by decide) rfl) rfl hMz.2.2.1).trans ?_
      refine (ygr 113 rfl (zFS.tag (hMs hMz).1 (j := 0) (by decide) rfl) rfl ((hMs hMz).2.1 19 (by decide))).trans ?_
      refine (ys4 114 (v := .int (nI k)) rfl rfl rfl rfl).trans ?_
      refine (ylx 115 (N := 12) rfl (j := k) rfl (Or.inl (zFS.tag (hMs hMz).1 (j := 20) (by decide) rfl)) (zFS.ni (hMs hMz).1 (j := 20) (by decide) rfl) (by omega) (by decide) rfl (zs3_at (hMr _) (j := 20) (by decide))).trans ?_
      refine (ywx 116 (N := 8) rfl (j := 7) rfl (zg_shape _).1 hg.2.2.2 (zg_shape _).2 (by omega) (by decide) rfl (zg_up ⟨hg.1, hg.2.1, hg.2.2.1⟩)).trans ?_
      generalize hR8 : zur R7 7 ((S 20 k)) = R8
      refine (ys5 117 (L2 := [(3, .ref (μ.length)), (0, .ref (x + 0)), (1, .int (nI k)), (2, .int (nI v))]) rfl rfl rfl rfl).trans ?_
      refine (ys4 118 (v := .ref (μ.length)) rfl rfl rfl rfl).trans ?_
      refine (ys4 119 (v := .int (nI v)) rfl rfl rfl rfl).trans ?_
      refine (ylx 120 (N := 8) rfl (j := v) rfl (Or.inl (zg_shape _).1) (zg_shape _).2 (by omega) (by decide) rfl (zg_at ⟨hg.1, hg.2.1, hg.2.2.1⟩)).trans ?_
      refine (ys36 rfl rfl).trans ?_
      rw [show mlt S T k np = R8 from by subst hR8 hR7 hR6 hR5 hR4 hR3 hR2 hR1; unfold mlt; (try dsimp only); rw [if_pos h50, if_pos h69]]; (first | done | rfl)
    · refine (ys1 73 (x := 1) rfl rfl rfl).trans ?_
      refine (ys19 rfl).trans ?_
      refine (ywx 78 (N := 8) rfl (j := 4) rfl (zg_shape _).1 hg.2.2.2 (zg_shape _).2 (by omega) (by decide) rfl (zg_up ⟨hg.1, hg.2.1, hg.2.2.1⟩)).trans ?_
      generalize hR9 : zur R4 4 (1) = R9
      refine (ys14 79 rfl (Nat.le_of_ble_eq_true rfl) rfl).trans ?_
      refine (ys1 80 (x := 5) rfl rfl rfl).trans ?_
      refine (ys4 81 (v := .ref (x + 0)) rfl rfl rfl rfl).trans ?_
      refine (ygr 84 rfl (zFS.tag hMz.1.1 (j := 0) (by decide) rfl) rfl hMz.2.2.1).trans ?_
      refine (ys4 85 (v := .int (nI k)) rfl rfl rfl rfl).trans ?_
      refine (ys1 86 (x := 0) rfl rfl rfl).trans ?_
      refine (yc3 89 rfl rfl (Nat.le_of_ble_eq_true rfl) (Or.inr (by show ztg (zwi _ _) _ = _; rw [ztg_wi]; exact (zFS.tag (hMs hMz).1 (j := 0) (by decide) rfl))) rfl rfl (lsm (hMr _) (fun K hC => c_rfy hC hk12 hN))).trans ?_
      refine (ywx 90 (N := 8) rfl (j := 5) rfl (zg_shape _).1 hg.2.2.2 (zg_shape _).2 (by omega) (by decide) rfl (zg_up ⟨hg.1, hg.2.1, hg.2.2.1⟩)).trans ?_
      generalize hR10 : zur R9 5 ((rfyL S T k 0 np 0 0)) = R10
      refine (ys14 91 rfl (Nat.le_of_ble_eq_true rfl) rfl).trans ?_
      refine (ys1 93 (x := 6) rfl rfl rfl).trans ?_
      refine (ys4 94 (v := .ref (x + 0)) rfl rfl rfl rfl).trans ?_
      refine (ygr 97 rfl (zFS.tag hMz.1.1 (j := 0) (by decide) rfl) rfl hMz.2.2.1).trans ?_
      refine (ygr 100 rfl (zFS.tag (hMs hMz).1 (j := 0) (by decide) rfl) rfl ((hMs hMz).2.1 18 (by decide))).trans ?_
      refine (ys4 101 (v := .int (nI k)) rfl rfl rfl rfl).trans ?_
      refine (ylx 102 (N := 12) rfl (j := k) rfl (Or.inl (zFS.tag (hMs hMz).1 (j := 19) (by decide) rfl)) (zFS.ni (hMs hMz).1 (j := 19) (by decide) rfl) (by omega) (by decide) rfl (zs3_at (hMr _) (j := 19) (by decide))).trans ?_
      refine (ywx 103 (N := 8) rfl (j := 6) rfl (zg_shape _).1 hg.2.2.2 (zg_shape _).2 (by omega) (by decide) rfl (zg_up ⟨hg.1, hg.2.1, hg.2.2.1⟩)).trans ?_
      generalize hR11 : zur R10 6 ((S 19 k)) = R11
      refine (ys14 104 rfl (Nat.le_of_ble_eq_true rfl) rfl).trans ?_
      refine (ys1 106 (x := 7) rfl rfl rfl).trans ?_
      refine (ys4 107 (v := .ref (x + 0)) rfl rfl rfl rfl).trans ?_
      refine (ygr 110 rfl (zFS.tag hMz.1.1 (j := 0) (by decide) rfl) rfl hMz.2.2.1).trans ?_
      refine (ygr 113 rfl (zFS.tag (hMs hMz).1 (j := 0) (by decide) rfl) rfl ((hMs hMz).2.1 19 (by decide))).trans ?_
      refine (ys4 114 (v := .int (nI k)) rfl rfl rfl rfl).trans ?_
      refine (ylx 115 (N := 12) rfl (j := k) rfl (Or.inl (zFS.tag (hMs hMz).1 (j := 20) (by decide) rfl)) (zFS.ni (hMs hMz).1 (j := 20) (by decide) rfl) (by omega) (by decide) rfl (zs3_at (hMr _) (j := 20) (by decide))).trans ?_
      refine (ywx 116 (N := 8) rfl (j := 7) rfl (zg_shape _).1 hg.2.2.2 (zg_shape _).2 (by omega) (by decide) rfl (zg_up ⟨hg.1, hg.2.1, hg.2.2.1⟩)).trans ?_
      generalize hR12 : zur R11 7 ((S 20 k)) = R12
      refine (ys5 117 (L2 := [(3, .ref (μ.length)), (0, .ref (x + 0)), (1, .int (nI k)), (2, .int (nI v))]) rfl rfl rfl rfl).trans ?_
      refine (ys4 118 (v := .ref (μ.length)) rfl rfl rfl rfl).trans ?_
      refine (ys4 119 (v := .int (nI v)) rfl rfl rfl rfl).trans ?_
      refine (ylx 120 (N := 8) rfl (j := v) rfl (Or.inl (zg_shape _).1) (zg_shape _).2 (by omega) (by decide) rfl (zg_at ⟨hg.1, hg.2.1, hg.2.2.1⟩)).trans ?_
      refine (ys36 rfl rfl).trans ?_
      rw [show mlt S T k np = R12 from by subst hR12 hR11 hR10 hR9 hR4 hR3 hR2 hR1; unfold mlt; (try dsimp only); rw [if_pos h50, if_neg h69]]; (first | done | rfl)
  · refine (ys1 54 (x := 1) rfl rfl rfl).trans ?_
    refine (ys19 rfl).trans ?_
    refine (ywx 59 (N := 8) rfl (j := 3) rfl (zg_shape _).1 hg.2.2.2 (zg_shape _).2 (by omega) (by decide) rfl (zg_up ⟨hg.1, hg.2.1, hg.2.2.1⟩)).trans ?_
    generalize hR13 : zur R3 3 (1) = R13
    refine (ys14 60 rfl (Nat.le_of_ble_eq_true rfl) rfl).trans ?_
    refine (ys1 61 (x := 4) rfl rfl rfl).trans ?_
    refine (ys4 62 (v := .ref (x + 0)) rfl rfl rfl rfl).trans ?_
    refine (ygr 65 rfl (zFS.tag hMz.1.1 (j := 0) (by decide) rfl) rfl hMz.2.2.1).trans ?_
    refine (ys4 66 (v := .int (nI k)) rfl rfl rfl rfl).trans ?_
    refine (yc2 69 rfl rfl (Nat.le_of_ble_eq_true rfl) (Or.inr (by show ztg (zwi _ _) _ = _; rw [ztg_wi]; exact (zFS.tag (hMs hMz).1 (j := 0) (by decide) rfl))) rfl rfl (lsm (hMr _) (fun K hC => c_rlo hC hk12 hN hI))).trans ?_
    refine ys17_0 72 rfl rfl (fun h69 => ?_) (fun h69 => ?_)
    · refine (ys1 77 (x := 0) rfl rfl rfl).trans ?_
      refine (ywx 78 (N := 8) rfl (j := 4) rfl (zg_shape _).1 hg.2.2.2 (zg_shape _).2 (by omega) (by decide) rfl (zg_up ⟨hg.1, hg.2.1, hg.2.2.1⟩)).trans ?_
      generalize hR14 : zur R13 4 (0) = R14
      refine (ys14 79 rfl (Nat.le_of_ble_eq_true rfl) rfl).trans ?_
      refine (ys1 80 (x := 5) rfl rfl rfl).trans ?_
      refine (ys4 81 (v := .ref (x + 0)) rfl rfl rfl rfl).trans ?_
      refine (ygr 84 rfl (zFS.tag hMz.1.1 (j := 0) (by decide) rfl) rfl hMz.2.2.1).trans ?_
      refine (ys4 85 (v := .int (nI k)) rfl rfl rfl rfl).trans ?_
      refine (ys1 86 (x := 0) rfl rfl rfl).trans ?_
      refine (yc3 89 rfl rfl (Nat.le_of_ble_eq_true rfl) (Or.inr (by show ztg (zwi _ _) _ = _; rw [ztg_wi]; exact (zFS.tag (hMs hMz).1 (j := 0) (by decide) rfl))) rfl rfl (lsm (hMr _) (fun K hC => c_rfy hC hk12 hN))).trans ?_
      refine (ywx 90 (N := 8) rfl (j := 5) rfl (zg_shape _).1 hg.2.2.2 (zg_shape _).2 (by omega) (by decide) rfl (zg_up ⟨hg.1, hg.2.1, hg.2.2.1⟩)).trans ?_
      generalize hR15 : zur R14 5 ((rfyL S T k 0 np 0 0)) = R15
      refine (ys14 91 rfl (Nat.le_of_ble_eq_true rfl) rfl).trans ?_
      refine (ys1 93 (x := 6) rfl rfl rfl).trans ?_
      refine (ys4 94 (v := .ref (x + 0)) rfl rfl rfl rfl).trans ?_
      refine (ygr 97 rfl (zFS.tag hMz.1.1 (j := 0) (by decide) rfl) rfl hMz.2.2.1).trans ?_
      refine (ygr 100 rfl (zFS.tag (hMs hMz).1 (j := 0) (by decide) rfl) rfl ((hMs hMz).2.1 18 (by decide))).trans ?_
      refine (ys4 101 (v := .int (nI k)) rfl rfl rfl rfl).trans ?_
      refine (ylx 102 (N := 12) rfl (j := k) rfl (Or.inl (zFS.tag (hMs hMz).1 (j := 19) (by decide) rfl)) (zFS.ni (hMs hMz).1 (j := 19) (by decide) rfl) (by omega) (by decide) rfl (zs3_at (hMr _) (j := 19) (by decide))).trans ?_
      refine (ywx 103 (N := 8) rfl (j := 6) rfl (zg_shape _).1 hg.2.2.2 (zg_shape _).2 (by omega) (by decide) rfl (zg_up ⟨hg.1, hg.2.1, hg.2.2.1⟩)).trans ?_
      generalize hR16 : zur R15 6 ((S 19 k)) = R16
      refine (ys14 104 rfl (Nat.le_of_ble_eq_true rfl) rfl).trans ?_
      refine (ys1 106 (x := 7) rfl rfl rfl).trans ?_
      refine (ys4 107 (v := .ref (x + 0)) rfl rfl rfl rfl).trans ?_
      refine (ygr 110 rfl (zFS.tag hMz.1.1 (j := 0) (by decide) rfl) rfl hMz.2.2.1).trans ?_
      refine (ygr 113 rfl (zFS.tag (hMs hMz).1 (j := 0) (by decide) rfl) rfl ((hMs hMz).2.1 19 (by decide))).trans ?_
      refine (ys4 114 (v := .int (nI k)) rfl rfl rfl rfl).trans ?_
      refine (ylx 115 (N := 12) rfl (j := k) rfl (Or.inl (zFS.tag (hMs hMz).1 (j := 20) (by decide) rfl)) (zFS.ni (hMs hMz).1 (j := 20) (by decide) rfl) (by omega) (by decide) rfl (zs3_at (hMr _) (j := 20) (by decide))).trans ?_
      refine (ywx 116 (N := 8) rfl (j := 7) rfl (zg_shape _).1 hg.2.2.2 (zg_shape _).2 (by omega) (by decide) rfl (zg_up ⟨hg.1, hg.2.1, hg.2.2.1⟩)).trans ?_
      generalize hR17 : zur R16 7 ((S 20 k)) = R17
      refine (ys5 117 (L2 := [(3, .ref (μ.length)), (0, .ref (x + 0)), (1, .int (nI k)), (2, .int (nI v))]) rfl rfl rfl rfl).trans ?_
      refine (ys4 118 (v := .ref (μ.length)) rfl rfl rfl rfl).trans ?_
      refine (ys4 119 (v := .int (nI v)) rfl rfl rfl rfl).trans ?_
      refine (ylx 120 (N := 8) rfl (j := v) rfl (Or.inl (zg_shape _).1) (zg_shape _).2 (by omega) (by decide) rfl (zg_at ⟨hg.1, hg.2.1, hg.2.2.1⟩)).trans ?_
      refine (ys36 rfl rfl).trans ?_
      rw [show mlt S T k np = R17 from by subst hR17 hR16 hR15 hR14 hR13 hR3 hR2 hR1; unfold mlt; (try dsimp only); rw [if_neg h50, if_pos h69]]; (first | done | rfl)
    · refine (ys1 73 (x := 1) rfl rfl rfl).trans ?_
      refine (ys19 rfl).trans ?_
      refine (ywx 78 (N := 8) rfl (j := 4) rfl (zg_shape _).1 hg.2.2.2 (zg_shape _).2 (by omega) (by decide) rfl (zg_up ⟨hg.1, hg.2.1, hg.2.2.1⟩)).trans ?_
      generalize hR18 : zur R13 4 (1) = R18
      refine (ys14 79 rfl (Nat.le_of_ble_eq_true rfl) rfl).trans ?_
      refine (ys1 80 (x := 5) rfl rfl rfl).trans ?_
      refine (ys4 81 (v := .ref (x + 0)) rfl rfl rfl rfl).trans ?_
      refine (ygr 84 rfl (zFS.tag hMz.1.1 (j := 0) (by decide) rfl) rfl hMz.2.2.1).trans ?_
      refine (ys4 85 (v := .int (nI k)) rfl rfl rfl rfl).trans ?_
      refine (ys1 86 (x := 0) rfl rfl rfl).trans ?_
      refine (yc3 89 rfl rfl (Nat.le_of_ble_eq_true rfl) (Or.inr (by show ztg (zwi _ _) _ = _; rw [ztg_wi]; exact (zFS.tag (hMs hMz).1 (j := 0) (by decide) rfl))) rfl rfl (lsm (hMr _) (fun K hC => c_rfy hC hk12 hN))).trans ?_
      refine (ywx 90 (N := 8) rfl (j := 5) rfl (zg_shape _).1 hg.2.2.2 (zg_shape _).2 (by omega) (by decide) rfl (zg_up ⟨hg.1, hg.2.1, hg.2.2.1⟩)).trans ?_
      generalize hR19 : zur R18 5 ((rfyL S T k 0 np 0 0)) = R19
      refine (ys14 91 rfl (Nat.le_of_ble_eq_true rfl) rfl).trans ?_
      refine (ys1 93 (x := 6) rfl rfl rfl).trans ?_
      refine (ys4 94 (v := .ref (x + 0)) rfl rfl rfl rfl).trans ?_
      refine (ygr 97 rfl (zFS.tag hMz.1.1 (j := 0) (by decide) rfl) rfl hMz.2.2.1).trans ?_
      refine (ygr 100 rfl (zFS.tag (hMs hMz).1 (j := 0) (by decide) rfl) rfl ((hMs hMz).2.1 18 (by decide))).trans ?_
      refine (ys4 101 (v := .int (nI k)) rfl rfl rfl rfl).trans ?_
      refine (ylx 102 (N := 12) rfl (j := k) rfl (Or.inl (zFS.tag (hMs hMz).1 (j := 19) (by decide) rfl)) (zFS.ni (hMs hMz).1 (j := 19) (by decide) rfl) (by omega) (by decide) rfl (zs3_at (hMr _) (j := 19) (by decide))).trans ?_
      refine (ywx 103 (N := 8) rfl (j := 6) rfl (zg_shape _).1 hg.2.2.2 (zg_shape _).2 (by omega) (by decide) rfl (zg_up ⟨hg.1, hg.2.1, hg.2.2.1⟩)).trans ?_
      generalize hR20 : zur R19 6 ((S 19 k)) = R20
      refine (ys14 104 rfl (Nat.le_of_ble_eq_true rfl) rfl).trans ?_
      refine (ys1 106 (x := 7) rfl rfl rfl).trans ?_
      refine (ys4 107 (v := .ref (x + 0)) rfl rfl rfl rfl).trans ?_
      refine (ygr 110 rfl (zFS.tag hMz.1.1 (j := 0) (by decide) rfl) rfl hMz.2.2.1).trans ?_
      refine (ygr 113 rfl (zFS.tag (hMs hMz).1 (j := 0) (by decide) rfl) rfl ((hMs hMz).2.1 19 (by decide))).trans ?_
      refine (ys4 114 (v := .int (nI k)) rfl rfl rfl rfl).trans ?_
      refine (ylx 115 (N := 12) rfl (j := k) rfl (Or.inl (zFS.tag (hMs hMz).1 (j := 20) (by decide) rfl)) (zFS.ni (hMs hMz).1 (j := 20) (by decide) rfl) (by omega) (by decide) rfl (zs3_at (hMr _) (j := 20) (by decide))).trans ?_
      refine (ywx 116 (N := 8) rfl (j := 7) rfl (zg_shape _).1 hg.2.2.2 (zg_shape _).2 (by omega) (by decide) rfl (zg_up ⟨hg.1, hg.2.1, hg.2.2.1⟩)).trans ?_
      generalize hR21 : zur R20 7 ((S 20 k)) = R21
      refine (ys5 117 (L2 := [(3, .ref (μ.length)), (0, .ref (x + 0)), (1, .int (nI k)), (2, .int (nI v))]) rfl rfl rfl rfl).trans ?_
      refine (ys4 118 (v := .ref (μ.length)) rfl rfl rfl rfl).trans ?_
      refine (ys4 119 (v := .int (nI v)) rfl rfl rfl rfl).trans ?_
      refine (ylx 120 (N := 8) rfl (j := v) rfl (Or.inl (zg_shape _).1) (zg_shape _).2 (by omega) (by decide) rfl (zg_at ⟨hg.1, hg.2.1, hg.2.2.1⟩)).trans ?_
      refine (ys36 rfl rfl).trans ?_
      rw [show mlt S T k np = R21 from by subst hR21 hR20 hR19 hR18 hR13 hR3 hR2 hR1; unfold mlt; (try dsimp only); rw [if_neg h50, if_neg h69]]; (first | done | rfl)

def ml1L (S : zFn) (T : zFn) (l : Nat) : Nat → Nat → Int32 → Int32 → Int32 × Int32
  | 0, i, a, b =>
    (a, b)
  | m + 1, i, a, b =>
    if (S 4 i) = 0 then
      if (S 5 i) = (nI l) then
        if (S 4 i) = 1 then
          if (T 5 i) = (nI l) then
            ml1L S T l m (i + 1) (a + 1) (b + 1)
          else
            ml1L S T l m (i + 1) (a + 1) (b + 0)
        else
          ml1L S T l m (i + 1) (a + 1) (b + 0)
      else
        if (S 4 i) = 1 then
          if (T 5 i) = (nI l) then
            ml1L S T l m (i + 1) (a + 0) (b + 1)
          else
            ml1L S T l m (i + 1) (a + 0) (b + 0)
        else
          ml1L S T l m (i + 1) (a + 0) (b + 0)
    else
      if (S 4 i) = 1 then
        if (T 5 i) = (nI l) then
          ml1L S T l m (i + 1) (a + 0) (b + 1)
        else
          ml1L S T l m (i + 1) (a + 0) (b + 0)
      else
        ml1L S T l m (i + 1) (a + 0) (b + 0)

theorem l_ml1 {d c sl : Nat} {rz : zR} {x t s q : Nat} {X S A T J : zFn} {μ : zM} (hM : zMC μ x t s q J T) {nl np nh nk : Nat} (hN : zTN T nl np nh nk) {l v : Nat} {cz : Int32} : ∀ (m i : Nat) (a : Int32) (b : Int32), i + m = np → zden1 (d + 4) (zden zcds (d + 4)) zc162 (102, [(5, .int (cz)), (4, .int ((ml1L S T l m i a b).2)), (3, .int ((ml1L S T l m i a b).1)), (0, .ref (x + 0)), (1, .int (nI l)), (2, .int (nI v))], [], c, sl, zwi μ (zfl (zfl (zfl J x 6 X) s 22 S) q 22 A)) = some rz → zden1 (d + 4) (zden zcds (d + 4)) zc162 (11, [(6, .int (nI i)), (5, .int (cz)), (4, .int (b)), (3, .int (a)), (0, .ref (x + 0)), (1, .int (nI l)), (2, .int (nI v))], [], c, sl, zwi μ (zfl (zfl (zfl J x 6 X) s 22 S) q 22 A)) = some rz
  | 0, i, a, b, e, hkk => by
    have ei : i = np := by omega
    subst ei
    refine (ys4 13 (v := .int (nI i)) rfl rfl rfl rfl).trans ?_
    refine (ys4 14 (v := .ref (x + 0)) rfl rfl rfl rfl).trans ?_
    refine (ygr 17 rfl (zFS.tag hM.1.1 (j := 0) (by decide) rfl) rfl hM.2.1).trans ?_
    refine (yg 20 rfl (zFS.tag (hMq hM (X := X) (S := S)).2.2.2.1 (j := 0) (by decide) rfl) (zFS.ni (hMq hM (X := X) (S := S)).2.2.2.1 (j := 0) (by decide) rfl) (by decide) rfl (zt3_at hM (j := 0) (by decide))).trans ?_
    refine ys18_3 23 rfl rfl (fun h20 => ?_) (fun h20 => absurd (by rw [hN.2.2.1]; exact nI_le (by omega) (by have := hN.2.2.2.1; omega)) h20)
    rw [show ml1L S T l 0 i a b = (a, b) from by rw [ml1L]; (try dsimp only); first | done | rfl] at hkk; refine zden1_fg (L := [(5, .int (cz)), (4, .int (b)), (3, .int (a)), (0, .ref (x + 0)), (1, .int (nI l)), (2, .int (nI v))]) (zfg_cons rfl (zfg_cons rfl (zfg_cons rfl (zfg_cons rfl (zfg_cons rfl (zfg_cons rfl zfg_nil)))))) ?_; exact hkk
  | m + 1, i, a, b, e, hkk => by
    have hi : i < 20 := by have := hN.2.2.2.1; omega
    refine (ys4 13 (v := .int (nI i)) rfl rfl rfl rfl).trans ?_
    refine (ys4 14 (v := .ref (x + 0)) rfl rfl rfl rfl).trans ?_
    refine (ygr 17 rfl (zFS.tag hM.1.1 (j := 0) (by decide) rfl) rfl hM.2.1).trans ?_
    refine (yg 20 rfl (zFS.tag (hMq hM (X := X) (S := S)).2.2.2.1 (j := 0) (by decide) rfl) (zFS.ni (hMq hM (X := X) (S := S)).2.2.2.1 (j := 0) (by decide) rfl) (by decide) rfl (zt3_at hM (j := 0) (by decide))).trans ?_
    refine ys18_3 23 rfl rfl (fun h20 => absurd h20 (by rw [hN.2.2.1]; exact nI_ge (by omega) (by have := hN.2.2.2.1; omega))) (fun h20 => ?_)
    refine (ys4 24 (v := .int (a)) rfl rfl rfl rfl).trans ?_
    refine (ys4 25 (v := .ref (x + 0)) rfl rfl rfl rfl).trans ?_
    refine (ygr 28 rfl (zFS.tag hM.1.1 (j := 0) (by decide) rfl) rfl hM.2.2.1).trans ?_
    refine (ygr 31 rfl (zFS.tag (hMs hM).1 (j := 0) (by decide) rfl) rfl ((hMs hM).2.1 3 (by decide))).trans ?_
    refine (ys4 33 (v := .int (nI i)) rfl rfl rfl rfl).trans ?_
    refine (ylx 34 (N := 20) rfl (j := i) rfl (Or.inl (zFS.tag (hMs hM).1 (j := 4) (by decide) rfl)) (zFS.ni (hMs hM).1 (j := 4) (by decide) rfl) (by omega) (by decide) rfl (zs3_at hM (j := 4) (by decide))).trans ?_
    refine ys17_1 37 rfl rfl (fun h34 => ?_) (fun h34 => ?_)
    · refine (ys4 38 (v := .ref (x + 0)) rfl rfl rfl rfl).trans ?_
      refine (ygr 41 rfl (zFS.tag hM.1.1 (j := 0) (by decide) rfl) rfl hM.2.2.1).trans ?_
      refine (ygr 44 rfl (zFS.tag (hMs hM).1 (j := 0) (by decide) rfl) rfl ((hMs hM).2.1 4 (by decide))).trans ?_
      refine (ys4 46 (v := .int (nI i)) rfl rfl rfl rfl).trans ?_
      refine (ylx 47 (N := 20) rfl (j := i) rfl (Or.inl (zFS.tag (hMs hM).1 (j := 5) (by decide) rfl)) (zFS.ni (hMs hM).1 (j := 5) (by decide) rfl) (by omega) (by decide) rfl (zs3_at hM (j := 5) (by decide))).trans ?_
      refine (ys4 48 (v := .int (nI l)) rfl rfl rfl rfl).trans ?_
      refine ys18_1 51 rfl rfl (fun h48 => ?_) (fun h48 => ?_)
      · refine (ys1 52 (x := 1) rfl rfl rfl).trans ?_
        refine (ys19 rfl).trans ?_
        refine (ys7_0 57 rfl rfl).trans ?_
        refine (ys5 58 (L2 := [(3, .int ((a + 1))), (6, .int (nI i)), (5, .int (cz)), (4, .int (b)), (0, .ref (x + 0)), (1, .int (nI l)), (2, .int (nI v))]) rfl rfl rfl rfl).trans ?_
        refine (ys4 60 (v := .int (b)) rfl rfl rfl rfl).trans ?_
        refine (ys4 61 (v := .ref (x + 0)) rfl rfl rfl rfl).trans ?_
        refine (ygr 64 rfl (zFS.tag hM.1.1 (j := 0) (by decide) rfl) rfl hM.2.2.1).trans ?_
        refine (ygr 67 rfl (zFS.tag (hMs hM).1 (j := 0) (by decide) rfl) rfl ((hMs hM).2.1 3 (by decide))).trans ?_
        refine (ys4 69 (v := .int (nI i)) rfl rfl rfl rfl).trans ?_
        refine (ylx 70 (N := 20) rfl (j := i) rfl (Or.inl (zFS.tag (hMs hM).1 (j := 4) (by decide) rfl)) (zFS.ni (hMs hM).1 (j := 4) (by decide) rfl) (by omega) (by decide) rfl (zs3_at hM (j := 4) (by decide))).trans ?_
        refine (ys1 71 (x := 1) rfl rfl rfl).trans ?_
        refine ys18_1 74 rfl rfl (fun h71 => ?_) (fun h71 => ?_)
        · refine (ys4 75 (v := .ref (x + 0)) rfl rfl rfl rfl).trans ?_
          refine (ygr 78 rfl (zFS.tag hM.1.1 (j := 0) (by decide) rfl) rfl hM.2.1).trans ?_
          refine (ygr 81 rfl (zFS.tag (hMq hM (X := X) (S := S)).2.2.2.1 (j := 0) (by decide) rfl) rfl ((hMq hM (X := X) (S := S)).2.2.2.2.1 4 (by decide))).trans ?_
          refine (ys4 83 (v := .int (nI i)) rfl rfl rfl rfl).trans ?_
          refine (ylx 84 (N := 20) rfl (j := i) rfl (Or.inl (zFS.tag (hMq hM (X := X) (S := S)).2.2.2.1 (j := 5) (by decide) rfl)) (zFS.ni (hMq hM (X := X) (S := S)).2.2.2.1 (j := 5) (by decide) rfl) (by omega) (by decide) rfl (zt3_at hM (j := 5) (by decide))).trans ?_
          refine (ys4 85 (v := .int (nI l)) rfl rfl rfl rfl).trans ?_
          refine ys18_1 88 rfl rfl (fun h85 => ?_) (fun h85 => ?_)
          · refine (ys1 89 (x := 1) rfl rfl rfl).trans ?_
            refine (ys19 rfl).trans ?_
            refine (ys7_0 94 rfl rfl).trans ?_
            refine (ys5 96 (L2 := [(4, .int ((b + 1))), (3, .int ((a + 1))), (6, .int (nI i)), (5, .int (cz)), (0, .ref (x + 0)), (1, .int (nI l)), (2, .int (nI v))]) rfl rfl rfl rfl).trans ?_
            refine (ys6 99 (y := nI (i + 1)) (L2 := [(6, .int (nI (i + 1))), (4, .int ((b + 1))), (3, .int ((a + 1))), (5, .int (cz)), (0, .ref (x + 0)), (1, .int (nI l)), (2, .int (nI v))]) rfl rfl (nI_1 _) rfl rfl).trans ?_
            refine (ys19 rfl).trans ?_
            rw [show ml1L S T l (m + 1) i a b = ml1L S T l m (i + 1) (a + 1) (b + 1) from by rw [ml1L]; (try dsimp only); rw [if_pos h34, if_pos h48, if_pos h71, if_pos h85]] at hkk; refine zden1_fg (L := [(6, .int (nI (i + 1))), (5, .int (cz)), (4, .int ((b + 1))), (3, .int ((a + 1))), (0, .ref (x + 0)), (1, .int (nI l)), (2, .int (nI v))]) (zfg_cons rfl (zfg_cons rfl (zfg_cons rfl (zfg_cons rfl (zfg_cons rfl (zfg_cons rfl (zfg_cons rfl zfg_nil))))))) ?_; exact l_ml1 hM hN m (i + 1) (a + 1) (b + 1)   (by omega) hkk
          · refine (ys1 93 (x := 0) rfl rfl rfl).trans ?_
            refine (ys7_0 94 rfl rfl).trans ?_
            refine (ys5 96 (L2 := [(4, .int ((b + 0))), (3, .int ((a + 1))), (6, .int (nI i)), (5, .int (cz)), (0, .ref (x + 0)), (1, .int (nI l)), (2, .int (nI v))]) rfl rfl rfl rfl).trans ?_
            refine (ys6 99 (y := nI (i + 1)) (L2 := [(6, .int (nI (i + 1))), (4, .int ((b + 0))), (3, .int ((a + 1))), (5, .int (cz)), (0, .ref (x + 0)), (1, .int (nI l)), (2, .int (nI v))]) rfl rfl (nI_1 _) rfl rfl).trans ?_
            refine (ys19 rfl).trans ?_
            rw [show ml1L S T l (m + 1) i a b = ml1L S T l m (i + 1) (a + 1) (b + 0) from by rw [ml1L]; (try dsimp only); rw [if_pos h34, if_pos h48, if_pos h71, if_neg h85]] at hkk; refine zden1_fg (L := [(6, .int (nI (i + 1))), (5, .int (cz)), (4, .int ((b + 0))), (3, .int ((a + 1))), (0, .ref (x + 0)), (1, .int (nI l)), (2, .int (nI v))]) (zfg_cons rfl (zfg_cons rfl (zfg_cons rfl (zfg_cons rfl (zfg_cons rfl (zfg_cons rfl (zfg_cons rfl zfg_nil))))))) ?_; exact l_ml1 hM hN m (i + 1) (a + 1) (b + 0)   (by omega) hkk
        · refine (ys1 93 (x := 0) rfl rfl rfl).trans ?_
          refine (ys7_0 94 rfl rfl).trans ?_
          refine (ys5 96 (L2 := [(4, .int ((b + 0))), (3, .int ((a + 1))), (6, .int (nI i)), (5, .int (cz)), (0, .ref (x + 0)), (1, .int (nI l)), (2, .int (nI v))]) rfl rfl rfl rfl).trans ?_
          refine (ys6 99 (y := nI (i + 1)) (L2 := [(6, .int (nI (i + 1))), (4, .int ((b + 0))), (3, .int ((a + 1))), (5, .int (cz)), (0, .ref (x + 0)), (1, .int (nI l)), (2, .int (nI v))]) rfl rfl (nI_1 _) rfl rfl).trans ?_
          refine (ys19 rfl).trans ?_
          rw [show ml1L S T l (m + 1) i a b = ml1L S T l m (i + 1) (a + 1) (b + 0) from by rw [ml1L]; (try dsimp only); rw [if_pos h34, if_pos h48, if_neg h71]] at hkk; refine zden1_fg (L := [(6, .int (nI (i + 1))), (5, .int (cz)), (4, .int ((b + 0))), (3, .int ((a + 1))), (0, .ref (x + 0)), (1, .int (nI l)), (2, .int (nI v))]) (zfg_cons rfl (zfg_cons rfl (zfg_cons rfl (zfg_cons rfl (zfg_cons rfl (zfg_cons rfl (zfg_cons rfl zfg_nil))))))) ?_; exact l_ml1 hM hN m (i + 1) (a + 1) (b + 0)   (by omega) hkk
      · refine (ys1 56 (x := 0) rfl rfl rfl).trans ?_
        refine (ys7_0 57 rfl rfl).trans ?_
        refine (ys5 58 (L2 := [(3, .int ((a + 0))), (6, .int (nI i)), (5, .int (cz)), (4, .int (b)), (0, .ref (x + 0)), (1, .int (nI l)), (2, .int (nI v))]) rfl rfl rfl rfl).trans ?_
        refine (ys4 60 (v := .int (b)) rfl rfl rfl rfl).trans ?_
        refine (ys4 61 (v := .ref (x + 0)) rfl rfl rfl rfl).trans ?_
        refine (ygr 64 rfl (zFS.tag hM.1.1 (j := 0) (by decide) rfl) rfl hM.2.2.1).trans ?_
        refine (ygr 67 rfl (zFS.tag (hMs hM).1 (j := 0) (by decide) rfl) rfl ((hMs hM).2.1 3 (by decide))).trans ?_
        refine (ys4 69 (v := .int (nI i)) rfl rfl rfl rfl).trans ?_
        refine (ylx 70 (N := 20) rfl (j := i) rfl (Or.inl (zFS.tag (hMs hM).1 (j := 4) (by decide) rfl)) (zFS.ni (hMs hM).1 (j := 4) (by decide) rfl) (by omega) (by decide) rfl (zs3_at hM (j := 4) (by decide))).trans ?_
        refine (ys1 71 (x := 1) rfl rfl rfl).trans ?_
        refine ys18_1 74 rfl rfl (fun h71 => ?_) (fun h71 => ?_)
        · refine (ys4 75 (v := .ref (x + 0)) rfl rfl rfl rfl).trans ?_
          refine (ygr 78 rfl (zFS.tag hM.1.1 (j := 0) (by decide) rfl) rfl hM.2.1).trans ?_
          refine (ygr 81 rfl (zFS.tag (hMq hM (X := X) (S := S)).2.2.2.1 (j := 0) (by decide) rfl) rfl ((hMq hM (X := X) (S := S)).2.2.2.2.1 4 (by decide))).trans ?_
          refine (ys4 83 (v := .int (nI i)) rfl rfl rfl rfl).trans ?_
          refine (ylx 84 (N := 20) rfl (j := i) rfl (Or.inl (zFS.tag (hMq hM (X := X) (S := S)).2.2.2.1 (j := 5) (by decide) rfl)) (zFS.ni (hMq hM (X := X) (S := S)).2.2.2.1 (j := 5) (by decide) rfl) (by omega) (by decide) rfl (zt3_at hM (j := 5) (by decide))).trans ?_
          refine (ys4 85 (v := .int (nI l)) rfl rfl rfl rfl).trans ?_
          refine ys18_1 88 rfl rfl (fun h85 => ?_) (fun h85 => ?_)
          · refine (ys1 89 (x := 1) rfl rfl rfl).trans ?_
            refine (ys19 rfl).trans ?_
            refine (ys7_0 94 rfl rfl).trans ?_
            refine (ys5 96 (L2 := [(4, .int ((b + 1))), (3, .int ((a + 0))), (6, .int (nI i)), (5, .int (cz)), (0, .ref (x + 0)), (1, .int (nI l)), (2, .int (nI v))]) rfl rfl rfl rfl).trans ?_
            refine (ys6 99 (y := nI (i + 1)) (L2 := [(6, .int (nI (i + 1))), (4, .int ((b + 1))), (3, .int ((a + 0))), (5, .int (cz)), (0, .ref (x + 0)), (1, .int (nI l)), (2, .int (nI v))]) rfl rfl (nI_1 _) rfl rfl).trans ?_
            refine (ys19 rfl).trans ?_
            rw [show ml1L S T l (m + 1) i a b = ml1L S T l m (i + 1) (a + 0) (b + 1) from by rw [ml1L]; (try dsimp only); rw [if_pos h34, if_neg h48, if_pos h71, if_pos h85]] at hkk; refine zden1_fg (L := [(6, .int (nI (i + 1))), (5, .int (cz)), (4, .int ((b + 1))), (3, .int ((a + 0))), (0, .ref (x + 0)), (1, .int (nI l)), (2, .int (nI v))]) (zfg_cons rfl (zfg_cons rfl (zfg_cons rfl (zfg_cons rfl (zfg_cons rfl (zfg_cons rfl (zfg_cons rfl zfg_nil))))))) ?_; exact l_ml1 hM hN m (i + 1) (a + 0) (b + 1)   (by omega) hkk
          · refine (ys1 93 (x := 0) rfl rfl rfl).trans ?_
            refine (ys7_0 94 rfl rfl).trans ?_
            refine (ys5 96 (L2 := [(4, .int ((b + 0))), (3, .int ((a + 0))), (6, .int (nI i)), (5, .int (cz)), (0, .ref (x + 0)), (1, .int (nI l)), (2, .int (nI v))]) rfl rfl rfl rfl).trans ?_
            refine (ys6 99 (y := nI (i + 1)) (L2 := [(6, .int (nI (i + 1))), (4, .int ((b + 0))), (3, .int ((a + 0))), (5, .int (cz)), (0, .ref (x + 0)), (1, .int (nI l)), (2, .int (nI v))]) rfl rfl (nI_1 _) rfl rfl).trans ?_
            refine (ys19 rfl).trans ?_
            rw [show ml1L S T l (m + 1) i a b = ml1L S T l m (i + 1) (a + 0) (b + 0) from by rw [ml1L]; (try dsimp only); rw [if_pos h34, if_neg h48, if_pos h71, if_neg h85]] at hkk; refine zden1_fg (L := [(6, .int (nI (i + 1))), (5, .int (cz)), (4, .int ((b + 0))), (3, .int ((a + 0))), (0, .ref (x + 0)), (1, .int (nI l)), (2, .int (nI v))]) (zfg_cons rfl (zfg_cons rfl (zfg_cons rfl (zfg_cons rfl (zfg_cons rfl (zfg_cons rfl (zfg_cons rfl zfg_nil))))))) ?_; exact l_ml1 hM hN m (i + 1) (a + 0) (b + 0)   (by omega) hkk
        · refine (ys1 93 (x := 0) rfl rfl rfl).trans ?_
          refine (ys7_0 94 rfl rfl).trans ?_
          refine (ys5 96 (L2 := [(4, .int ((b + 0))), (3, .int ((a + 0))), (6, .int (nI i)), (5, .int (cz)), (0, .ref (x + 0)), (1, .int (nI l)), (2, .int (nI v))]) rfl rfl rfl rfl).trans ?_
          refine (ys6 99 (y := nI (i + 1)) (L2 := [(6, .int (nI (i + 1))), (4, .int ((b + 0))), (3, .int ((a + 0))), (5, .int (cz)), (0, .ref (x + 0)), (1, .int (nI l)), (2, .int (nI v))]) rfl rfl (nI_1 _) rfl rfl).trans ?_
          refine (ys19 rfl).trans ?_
          rw [show ml1L S T l (m + 1) i a b = ml1L S T l m (i + 1) (a + 0) (b + 0) from by rw [ml1L]; (try dsimp only); rw [if_pos h34, if_neg h48, if_neg h71]] at hkk; refine zden1_fg (L := [(6, .int (nI (i + 1))), (5, .int (cz)), (4, .int ((b + 0))), (3, .int ((a + 0))), (0, .ref (x + 0)), (1, .int (nI l)), (2, .int (nI v))]) (zfg_cons rfl (zfg_cons rfl (zfg_cons rfl (zfg_cons rfl (zfg_cons rfl (zfg_cons rfl (zfg_cons rfl zfg_nil))))))) ?_; exact l_ml1 hM hN m (i + 1) (a + 0) (b + 0)   (by omega) hkk
    · refine (ys1 56 (x := 0) rfl rfl rfl).trans ?_
      refine (ys7_0 57 rfl rfl).trans ?_
      refine (ys5 58 (L2 := [(3, .int ((a + 0))), (6, .int (nI i)), (5, .int (cz)), (4, .int (b)), (0, .ref (x + 0)), (1, .int (nI l)), (2, .int (nI v))]) rfl rfl rfl rfl).trans ?_
      refine (ys4 60 (v := .int (b)) rfl rfl rfl rfl).trans ?_
      refine (ys4 61 (v := .ref (x + 0)) rfl rfl rfl rfl).trans ?_
      refine (ygr 64 rfl (zFS.tag hM.1.1 (j := 0) (by decide) rfl) rfl hM.2.2.1).trans ?_
      refine (ygr 67 rfl (zFS.tag (hMs hM).1 (j := 0) (by decide) rfl) rfl ((hMs hM).2.1 3 (by decide))).trans ?_
      refine (ys4 69 (v := .int (nI i)) rfl rfl rfl rfl).trans ?_
      refine (ylx 70 (N := 20) rfl (j := i) rfl (Or.inl (zFS.tag (hMs hM).1 (j := 4) (by decide) rfl)) (zFS.ni (hMs hM).1 (j := 4) (by decide) rfl) (by omega) (by decide) rfl (zs3_at hM (j := 4) (by decide))).trans ?_
      refine (ys1 71 (x := 1) rfl rfl rfl).trans ?_
      refine ys18_1 74 rfl rfl (fun h71 => ?_) (fun h71 => ?_)
      · refine (ys4 75 (v := .ref (x + 0)) rfl rfl rfl rfl).trans ?_
        refine (ygr 78 rfl (zFS.tag hM.1.1 (j := 0) (by decide) rfl) rfl hM.2.1).trans ?_
        refine (ygr 81 rfl (zFS.tag (hMq hM (X := X) (S := S)).2.2.2.1 (j := 0) (by decide) rfl) rfl ((hMq hM (X := X) (S := S)).2.2.2.2.1 4 (by decide))).trans ?_
        refine (ys4 83 (v := .int (nI i)) rfl rfl rfl rfl).trans ?_
        refine (ylx 84 (N := 20) rfl (j := i) rfl (Or.inl (zFS.tag (hMq hM (X := X) (S := S)).2.2.2.1 (j := 5) (by decide) rfl)) (zFS.ni (hMq hM (X := X) (S := S)).2.2.2.1 (j := 5) (by decide) rfl) (by omega) (by decide) rfl (zt3_at hM (j := 5) (by decide))).trans ?_
        refine (ys4 85 (v := .int (nI l)) rfl rfl rfl rfl).trans ?_
        refine ys18_1 88 rfl rfl (fun h85 => ?_) (fun h85 => ?_)
        · refine (ys1 89 (x := 1) rfl rfl rfl).trans ?_
          refine (ys19 rfl).trans ?_
          refine (ys7_0 94 rfl rfl).trans ?_
          refine (ys5 96 (L2 := [(4, .int ((b + 1))), (3, .int ((a + 0))), (6, .int (nI i)), (5, .int (cz)), (0, .ref (x + 0)), (1, .int (nI l)), (2, .int (nI v))]) rfl rfl rfl rfl).trans ?_
          refine (ys6 99 (y := nI (i + 1)) (L2 := [(6, .int (nI (i + 1))), (4, .int ((b + 1))), (3, .int ((a + 0))), (5, .int (cz)), (0, .ref (x + 0)), (1, .int (nI l)), (2, .int (nI v))]) rfl rfl (nI_1 _) rfl rfl).trans ?_
          refine (ys19 rfl).trans ?_
          rw [show ml1L S T l (m + 1) i a b = ml1L S T l m (i + 1) (a + 0) (b + 1) from by rw [ml1L]; (try dsimp only); rw [if_neg h34, if_pos h71, if_pos h85]] at hkk; refine zden1_fg (L := [(6, .int (nI (i + 1))), (5, .int (cz)), (4, .int ((b + 1))), (3, .int ((a + 0))), (0, .ref (x + 0)), (1, .int (nI l)), (2, .int (nI v))]) (zfg_cons rfl (zfg_cons rfl (zfg_cons rfl (zfg_cons rfl (zfg_cons rfl (zfg_cons rfl (zfg_cons rfl zfg_nil))))))) ?_; exact l_ml1 hM hN m (i + 1) (a + 0) (b + 1)   (by omega) hkk
        · refine (ys1 93 (x := 0) rfl rfl rfl).trans ?_
          refine (ys7_0 94 rfl rfl).trans ?_
          refine (ys5 96 (L2 := [(4, .int ((b + 0))), (3, .int ((a + 0))), (6, .int (nI i)), (5, .int (cz)), (0, .ref (x + 0)), (1, .int (nI l)), (2, .int (nI v))]) rfl rfl rfl rfl).trans ?_
          refine (ys6 99 (y := nI (i + 1)) (L2 := [(6, .int (nI (i + 1))), (4, .int ((b + 0))), (3, .int ((a + 0))), (5, .int (cz)), (0, .ref (x + 0)), (1, .int (nI l)), (2, .int (nI v))]) rfl rfl (nI_1 _) rfl rfl).trans ?_
          refine (ys19 rfl).trans ?_
          rw [show ml1L S T l (m + 1) i a b = ml1L S T l m (i + 1) (a + 0) (b + 0) from by rw [ml1L]; (try dsimp only); rw [if_neg h34, if_pos h71, if_neg h85]] at hkk; refine zden1_fg (L := [(6, .int (nI (i + 1))), (5, .int (cz)), (4, .int ((b + 0))), (3, .int ((a + 0))), (0, .ref (x + 0)), (1, .int (nI l)), (2, .int (nI v))]) (zfg_cons rfl (zfg_cons rfl (zfg_cons rfl (zfg_cons rfl (zfg_cons rfl (zfg_cons rfl (zfg_cons rfl zfg_nil))))))) ?_; exact l_ml1 hM hN m (i + 1) (a + 0) (b + 0)   (by omega) hkk
      · refine (ys1 93 (x := 0) rfl rfl rfl).trans ?_
        refine (ys7_0 94 rfl rfl).trans ?_
        refine (ys5 96 (L2 := [(4, .int ((b + 0))), (3, .int ((a + 0))), (6, .int (nI i)), (5, .int (cz)), (0, .ref (x + 0)), (1, .int (nI l)), (2, .int (nI v))]) rfl rfl rfl rfl).trans ?_
        refine (ys6 99 (y := nI (i + 1)) (L2 := [(6, .int (nI (i + 1))), (4, .int ((b + 0))), (3, .int ((a + 0))), (5, .int (cz)), (0, .ref (x + 0)), (1, .int (nI l)), (2, .int (nI v))]) rfl rfl (nI_1 _) rfl rfl).trans ?_
        refine (ys19 rfl).trans ?_
        rw [show ml1L S T l (m + 1) i a b = ml1L S T l m (i + 1) (a + 0) (b + 0) from by rw [ml1L]; (try dsimp only); rw [if_neg h34, if_neg h71]] at hkk; refine zden1_fg (L := [(6, .int (nI (i + 1))), (5, .int (cz)), (4, .int ((b + 0))), (3, .int ((a + 0))), (0, .ref (x + 0)), (1, .int (nI l)), (2, .int (nI v))]) (zfg_cons rfl (zfg_cons rfl (zfg_cons rfl (zfg_cons rfl (zfg_cons rfl (zfg_cons rfl (zfg_cons rfl zfg_nil))))))) ?_; exact l_ml1 hM hN m (i + 1) (a + 0) (b + 0)   (by omega) hkk

def ml2L (S : zFn) (T : zFn) (l : Nat) : Nat → Nat → Int32 → Int32
  | 0, i, cz =>
    cz
  | m + 1, i, cz =>
    if (S 17 i) = (nI l) then
      ml2L S T l m (i + 1) (cz + 1)
    else
      ml2L S T l m (i + 1) (cz + 0)

theorem l_ml2 {d c sl : Nat} {rz : zR} {x t s q : Nat} {X S A T J : zFn} {μ : zM} (hM : zMC μ x t s q J T) {nl np nh nk : Nat} (hN : zTN T nl np nh nk) {l v : Nat} {a b : Int32} : ∀ (m i : Nat) (cz : Int32), i + m = nk → zden1 (d + 4) (zden zcds (d + 4)) zc162 (147, [(5, .int ((ml2L S T l m i cz))), (4, .int (b)), (3, .int (a)), (0, .ref (x + 0)), (1, .int (nI l)), (2, .int (nI v))], [], c, sl, zwi μ (zfl (zfl (zfl J x 6 X) s 22 S) q 22 A)) = some rz → zden1 (d + 4) (zden zcds (d + 4)) zc162 (105, [(6, .int (nI i)), (5, .int (cz)), (4, .int (b)), (3, .int (a)), (0, .ref (x + 0)), (1, .int (nI l)), (2, .int (nI v))], [], c, sl, zwi μ (zfl (zfl (zfl J x 6 X) s 22 S) q 22 A)) = some rz
  | 0, i, cz, e, hkk => by
    have ei : i = nk := by omega
    subst ei
    refine (ys4 107 (v := .int (nI i)) rfl rfl rfl rfl).trans ?_
    refine (ys4 108 (v := .ref (x + 0)) rfl rfl rfl rfl).trans ?_
    refine (ygr 111 rfl (zFS.tag hM.1.1 (j := 0) (by decide) rfl) rfl hM.2.1).trans ?_
    refine (yg 114 rfl (zFS.tag (hMq hM (X := X) (S := S)).2.2.2.1 (j := 0) (by decide) rfl) (zFS.ni (hMq hM (X := X) (S := S)).2.2.2.1 (j := 0) (by decide) rfl) (by decide) rfl (zt3_at hM (j := 0) (by decide))).trans ?_
    refine ys18_3 117 rfl rfl (fun h114 => ?_) (fun h114 => absurd (by rw [hN.2.2.2.2.2.2.1]; exact nI_le (by omega) (by have := hN.2.2.2.2.2.2.2; omega)) h114)
    rw [show ml2L S T l 0 i cz = cz from by rw [ml2L]; (try dsimp only); first | done | rfl] at hkk; refine zden1_fg (L := [(5, .int (cz)), (4, .int (b)), (3, .int (a)), (0, .ref (x + 0)), (1, .int (nI l)), (2, .int (nI v))]) (zfg_cons rfl (zfg_cons rfl (zfg_cons rfl (zfg_cons rfl (zfg_cons rfl (zfg_cons rfl zfg_nil)))))) ?_; exact hkk
  | m + 1, i, cz, e, hkk => by
    have hi : i < 12 := by have := hN.2.2.2.2.2.2.2; omega
    refine (ys4 107 (v := .int (nI i)) rfl rfl rfl rfl).trans ?_
    refine (ys4 108 (v := .ref (x + 0)) rfl rfl rfl rfl).trans ?_
    refine (ygr 111 rfl (zFS.tag hM.1.1 (j := 0) (by decide) rfl) rfl hM.2.1).trans ?_
    refine (yg 114 rfl (zFS.tag (hMq hM (X := X) (S := S)).2.2.2.1 (j := 0) (by decide) rfl) (zFS.ni (hMq hM (X := X) (S := S)).2.2.2.1 (j := 0) (by decide) rfl) (by decide) rfl (zt3_at hM (j := 0) (by decide))).trans ?_
    refine ys18_3 117 rfl rfl (fun h114 => absurd h114 (by rw [hN.2.2.2.2.2.2.1]; exact nI_ge (by omega) (by have := hN.2.2.2.2.2.2.2; omega))) (fun h114 => ?_)
    refine (ys4 119 (v := .int (cz)) rfl rfl rfl rfl).trans ?_
    refine (ys4 120 (v := .ref (x + 0)) rfl rfl rfl rfl).trans ?_
    refine (ygr 123 rfl (zFS.tag hM.1.1 (j := 0) (by decide) rfl) rfl hM.2.2.1).trans ?_
    refine (ygr 126 rfl (zFS.tag (hMs hM).1 (j := 0) (by decide) rfl) rfl ((hMs hM).2.1 16 (by decide))).trans ?_
    refine (ys4 128 (v := .int (nI i)) rfl rfl rfl rfl).trans ?_
    refine (ylx 129 (N := 12) rfl (j := i) rfl (Or.inl (zFS.tag (hMs hM).1 (j := 17) (by decide) rfl)) (zFS.ni (hMs hM).1 (j := 17) (by decide) rfl) (by omega) (by decide) rfl (zs3_at hM (j := 17) (by decide))).trans ?_
    refine (ys4 130 (v := .int (nI l)) rfl rfl rfl rfl).trans ?_
    refine ys18_1 133 rfl rfl (fun h130 => ?_) (fun h130 => ?_)
    · refine (ys1 134 (x := 1) rfl rfl rfl).trans ?_
      refine (ys19 rfl).trans ?_
      refine (ys7_0 139 rfl rfl).trans ?_
      refine (ys5 141 (L2 := [(5, .int ((cz + 1))), (6, .int (nI i)), (4, .int (b)), (3, .int (a)), (0, .ref (x + 0)), (1, .int (nI l)), (2, .int (nI v))]) rfl rfl rfl rfl).trans ?_
      refine (ys6 144 (y := nI (i + 1)) (L2 := [(6, .int (nI (i + 1))), (5, .int ((cz + 1))), (4, .int (b)), (3, .int (a)), (0, .ref (x + 0)), (1, .int (nI l)), (2, .int (nI v))]) rfl rfl (nI_1 _) rfl rfl).trans ?_
      refine (ys19 rfl).trans ?_
      rw [show ml2L S T l (m + 1) i cz = ml2L S T l m (i + 1) (cz + 1) from by rw [ml2L]; (try dsimp only); rw [if_pos h130]] at hkk; exact l_ml2 hM hN m (i + 1) (cz + 1)   (by omega) hkk
    · refine (ys1 138 (x := 0) rfl rfl rfl).trans ?_
      refine (ys7_0 139 rfl rfl).trans ?_
      refine (ys5 141 (L2 := [(5, .int ((cz + 0))), (6, .int (nI i)), (4, .int (b)), (3, .int (a)), (0, .ref (x + 0)), (1, .int (nI l)), (2, .int (nI v))]) rfl rfl rfl rfl).trans ?_
      refine (ys6 144 (y := nI (i + 1)) (L2 := [(6, .int (nI (i + 1))), (5, .int ((cz + 0))), (4, .int (b)), (3, .int (a)), (0, .ref (x + 0)), (1, .int (nI l)), (2, .int (nI v))]) rfl rfl (nI_1 _) rfl rfl).trans ?_
      refine (ys19 rfl).trans ?_
      rw [show ml2L S T l (m + 1) i cz = ml2L S T l m (i + 1) (cz + 0) from by rw [ml2L]; (try dsimp only); rw [if_neg h130]] at hkk; exact l_ml2 hM hN m (i + 1) (cz + 0)   (by omega) hkk

def mlo (S : zFn) (T : zFn) (l : Nat) (np : Nat) (nk : Nat) : zRw :=
  let R1 := zur zR80 0 ((S 1 l))
  let R2 := zur R1 1 ((S 2 l))
  let R3 := zur R2 2 ((T 4 l))
  let R4 := zur R3 3 ((T 1 l))
  let R5 := zur R4 4 ((S 3 l))
  let R6 := zur R5 5 ((ml1L S T l np 0 0 0).1)
  let R7 := zur R6 6 ((ml1L S T l np 0 0 0).2)
  let R8 := zur R7 7 ((ml2L S T l nk 0 0))
  R8

theorem c_mlt2 {d : Nat} {x t s q : Nat} {X S A T J : zFn} {μ : zM} (hM : zMC μ x t s q J T) {nl np nh nk : Nat} (hN : zTN T nl np nh nk) {l : Nat} (hl6 : l < 6) {v : Nat} (hv : v < 8) : zden zcds (d + 5) 162 [.ref (x + 0), .int (nI l), .int (nI v)] (zwi μ (zfl (zfl (zfl J x 6 X) s 22 S) q 22 A)) = some (0, some (.int ((mlo S T l np nk) v)), 1, 8, zwi (μ ++ [zR8]) (zfl (zfl (zfl (zgb J μ.length (mlo S T l np nk)) x 6 X) s 22 S) q 22 A)) := by
  refine (zd_in (d := d + 4) (cd := zc162) (nL := 7) (L := [(0, .ref (x + 0)), (1, .int (nI l)), (2, .int (nI v))]) rfl (Nat.le_of_ble_eq_true rfl) rfl).trans ?_
  refine (ys1 1 (x := 0) rfl rfl rfl).trans ?_
  refine (ys5 2 (L2 := [(3, .int (0)), (0, .ref (x + 0)), (1, .int (nI l)), (2, .int (nI v))]) rfl rfl rfl rfl).trans ?_
  refine (ys1 3 (x := 0) rfl rfl rfl).trans ?_
  refine (ys5 5 (L2 := [(4, .int (0)), (3, .int (0)), (0, .ref (x + 0)), (1, .int (nI l)), (2, .int (nI v))]) rfl rfl rfl rfl).trans ?_
  refine (ys1 6 (x := 0) rfl rfl rfl).trans ?_
  refine (ys5 8 (L2 := [(5, .int (0)), (4, .int (0)), (3, .int (0)), (0, .ref (x + 0)), (1, .int (nI l)), (2, .int (nI v))]) rfl rfl rfl rfl).trans ?_
  refine (ys1 9 (x := nI 0) rfl rfl rfl).trans ?_
  refine (ys5 11 (L2 := [(6, .int (nI 0)), (5, .int (0)), (4, .int (0)), (3, .int (0)), (0, .ref (x + 0)), (1, .int (nI l)), (2, .int (nI v))]) rfl rfl rfl rfl).trans ?_
  refine l_ml1 hM hN np 0 0 0 (by omega) ?_
  refine (ys1 103 (x := nI 0) rfl rfl rfl).trans ?_
  refine (ys5 105 (L2 := [(6, .int (nI 0)), (5, .int (0)), (4, .int ((ml1L S T l np 0 0 0).2)), (3, .int ((ml1L S T l np 0 0 0).1)), (0, .ref (x + 0)), (1, .int (nI l)), (2, .int (nI v))]) rfl rfl rfl rfl).trans ?_
  refine l_ml2 hM hN nk 0 0 (by omega) ?_
  refine (ys1 149 (x := 8) rfl rfl rfl).trans ?_
  refine (ys30 (m := 8) 151 rfl (by decide) rfl (by decide) rfl).trans ?_
  have hg := zM_len hM
  rw [zg_nest ⟨hg.1, hg.2.1, hg.2.2.1⟩]
  have hMr : ∀ R : zRw, zMC (μ ++ [zR8]) x t s q (zgb J μ.length R) T := fun R => zMC_app [zR8] hM (fun a ha => by unfold zgb; rw [if_neg (by omega)])
  have hMz := hMr zR80
  change zden1 _ _ _ (_, _, _, _, _, zwi (μ ++ [zR8]) (zfl (zfl (zfl (zgb J μ.length zR80) x 6 X) s 22 S) q 22 A)) = _
  refine (ys14 152 rfl (Nat.le_of_ble_eq_true rfl) rfl).trans ?_
  refine (ys1 153 (x := 0) rfl rfl rfl).trans ?_
  refine (ys4 154 (v := .ref (x + 0)) rfl rfl rfl rfl).trans ?_
  refine (ygr 157 rfl (zFS.tag hMz.1.1 (j := 0) (by decide) rfl) rfl hMz.2.2.1).trans ?_
  refine (ygr 160 rfl (zFS.tag (hMs hMz).1 (j := 0) (by decide) rfl) rfl ((hMs hMz).2.1 0 (by decide))).trans ?_
  refine (ys4 161 (v := .int (nI l)) rfl rfl rfl rfl).trans ?_
  refine (ylx 162 (N := 6) rfl (j := l) rfl (Or.inl (zFS.tag (hMs hMz).1 (j := 1) (by decide) rfl)) (zFS.ni (hMs hMz).1 (j := 1) (by decide) rfl) (by omega) (by decide) rfl (zs3_at (hMr _) (j := 1) (by decide))).trans ?_
  refine (ywx 163 (N := 8) rfl (j := 0) rfl (zg_shape _).1 hg.2.2.2 (zg_shape _).2 (by omega) (by decide) rfl (zg_up ⟨hg.1, hg.2.1, hg.2.2.1⟩)).trans ?_
  generalize hR1 : zur zR80 0 ((S 1 l)) = R1
  refine (ys14 164 rfl (Nat.le_of_ble_eq_true rfl) rfl).trans ?_
  refine (ys1 165 (x := 1) rfl rfl rfl).trans ?_
  refine (ys4 166 (v := .ref (x + 0)) rfl rfl rfl rfl).trans ?_
  refine (ygr 169 rfl (zFS.tag hMz.1.1 (j := 0) (by decide) rfl) rfl hMz.2.2.1).trans ?_
  refine (ygr 172 rfl (zFS.tag (hMs hMz).1 (j := 0) (by decide) rfl) rfl ((hMs hMz).2.1 1 (by decide))).trans ?_
  refine (ys4 173 (v := .int (nI l)) rfl rfl rfl rfl).trans ?_
  refine (ylx 174 (N := 6) rfl (j := l) rfl (Or.inl (zFS.tag (hMs hMz).1 (j := 2) (by decide) rfl)) (zFS.ni (hMs hMz).1 (j := 2) (by decide) rfl) (by omega) (by decide) rfl (zs3_at (hMr _) (j := 2) (by decide))).trans ?_
  refine (ywx 175 (N := 8) rfl (j := 1) rfl (zg_shape _).1 hg.2.2.2 (zg_shape _).2 (by omega) (by decide) rfl (zg_up ⟨hg.1, hg.2.1, hg.2.2.1⟩)).trans ?_
  generalize hR2 : zur R1 1 ((S 2 l)) = R2
  refine (ys14 176 rfl (Nat.le_of_ble_eq_true rfl) rfl).trans ?_
  refine (ys1 177 (x := 2) rfl rfl rfl).trans ?_
  refine (ys4 178 (v := .ref (x + 0)) rfl rfl rfl rfl).trans ?_
  refine (ygr 181 rfl (zFS.tag hMz.1.1 (j := 0) (by decide) rfl) rfl hMz.2.1).trans ?_
  refine (ygr 184 rfl (zFS.tag (hMq hMz (X := X) (S := S)).2.2.2.1 (j := 0) (by decide) rfl) rfl ((hMq hMz (X := X) (S := S)).2.2.2.2.1 3 (by decide))).trans ?_
  refine (ys4 185 (v := .int (nI l)) rfl rfl rfl rfl).trans ?_
  refine (ylx 186 (N := 6) rfl (j := l) rfl (Or.inl (zFS.tag (hMq hMz (X := X) (S := S)).2.2.2.1 (j := 4) (by decide) rfl)) (zFS.ni (hMq hMz (X := X) (S := S)).2.2.2.1 (j := 4) (by decide) rfl) (by omega) (by decide) rfl (zt3_at (hMr _) (j := 4) (by decide))).trans ?_
  refine (ywx 187 (N := 8) rfl (j := 2) rfl (zg_shape _).1 hg.2.2.2 (zg_shape _).2 (by omega) (by decide) rfl (zg_up ⟨hg.1, hg.2.1, hg.2.2.1⟩)).trans ?_
  generalize hR3 : zur R2 2 ((T 4 l)) = R3
  refine (ys14 188 rfl (Nat.le_of_ble_eq_true rfl) rfl).trans ?_
  refine (ys1 189 (x := 3) rfl rfl rfl).trans ?_
  refine (ys4 190 (v := .ref (x + 0)) rfl rfl rfl rfl).trans ?_
  refine (ygr 193 rfl (zFS.tag hMz.1.1 (j := 0) (by decide) rfl) rfl hMz.2.1).trans ?_
  refine (ygr 196 rfl (zFS.tag (hMq hMz (X := X) (S := S)).2.2.2.1 (j := 0) (by decide) rfl) rfl ((hMq hMz (X := X) (S := S)).2.2.2.2.1 0 (by decide))).trans ?_
  refine (ys4 197 (v := .int (nI l)) rfl rfl rfl rfl).trans ?_
  refine (ylx 198 (N := 6) rfl (j := l) rfl (Or.inl (zFS.tag (hMq hMz (X := X) (S := S)).2.2.2.1 (j := 1) (by decide) rfl)) (zFS.ni (hMq hMz (X := X) (S := S)).2.2.2.1 (j := 1) (by decide) rfl) (by omega) (by decide) rfl (zt3_at (hMr _) (j := 1) (by decide))).trans ?_
  refine (ywx 199 (N := 8) rfl (j := 3) rfl (zg_shape _).1 hg.2.2.2 (zg_shape _).2 (by omega) (by decide) rfl (zg_up ⟨hg.1, hg.2.1, hg.2.2.1⟩)).trans ?_
  generalize hR4 : zur R3 3 ((T 1 l)) = R4
  refine (ys14 200 rfl (Nat.le_of_ble_eq_true rfl) rfl).trans ?_
  refine (ys1 201 (x := 4) rfl rfl rfl).trans ?_
  refine (ys4 202 (v := .ref (x + 0)) rfl rfl rfl rfl).trans ?_
  refine (ygr 205 rfl (zFS.tag hMz.1.1 (j := 0) (by decide) rfl) rfl hMz.2.2.1).trans ?_
  refine (ygr 208 rfl (zFS.tag (hMs hMz).1 (j := 0) (by decide) rfl) rfl ((hMs hMz).2.1 2 (by decide))).trans ?_
  refine (ys4 209 (v := .int (nI l)) rfl rfl rfl rfl).trans ?_
  refine (ylx 210 (N := 6) rfl (j := l) rfl (Or.inl (zFS.tag (hMs hMz).1 (j := 3) (by decide) rfl)) (zFS.ni (hMs hMz).1 (j := 3) (by decide) rfl) (by omega) (by decide) rfl (zs3_at (hMr _) (j := 3) (by decide))).trans ?_
  refine (ywx 211 (N := 8) rfl (j := 4) rfl (zg_shape _).1 hg.2.2.2 (zg_shape _).2 (by omega) (by decide) rfl (zg_up ⟨hg.1, hg.2.1, hg.2.2.1⟩)).trans ?_
  generalize hR5 : zur R4 4 ((S 3 l)) = R5
  refine (ys14 212 rfl (Nat.le_of_ble_eq_true rfl) rfl).trans ?_
  refine (ys1 213 (x := 5) rfl rfl rfl).trans ?_
  refine (ys4 214 (v := .int ((ml1L S T l np 0 0 0).1)) rfl rfl rfl rfl).trans ?_
  refine (ywx 215 (N := 8) rfl (j := 5) rfl (zg_shape _).1 hg.2.2.2 (zg_shape _).2 (by omega) (by decide) rfl (zg_up ⟨hg.1, hg.2.1, hg.2.2.1⟩)).trans ?_
  generalize hR6 : zur R5 5 ((ml1L S T l np 0 0 0).1) = R6
  refine (ys14 216 rfl (Nat.le_of_ble_eq_true rfl) rfl).trans ?_
  refine (ys1 218 (x := 6) rfl rfl rfl).trans ?_
  refine (ys4 220 (v := .int ((ml1L S T l np 0 0 0).2)) rfl rfl rfl rfl).trans ?_
  refine (ywx 221 (N := 8) rfl (j := 6) rfl (zg_shape _).1 hg.2.2.2 (zg_shape _).2 (by omega) (by decide) rfl (zg_up ⟨hg.1, hg.2.1, hg.2.2.1⟩)).trans ?_
  generalize hR7 : zur R6 6 ((ml1L S T l np 0 0 0).2) = R7
  refine (ys14 222 rfl (Nat.le_of_ble_eq_true rfl) rfl).trans ?_
  refine (ys1 224 (x := 7) rfl rfl rfl).trans ?_
  refine (ys4 226 (v := .int ((ml2L S T l nk 0 0))) rfl rfl rfl rfl).trans ?_
  refine (ywx 227 (N := 8) rfl (j := 7) rfl (zg_shape _).1 hg.2.2.2 (zg_shape _).2 (by omega) (by decide) rfl (zg_up ⟨hg.1, hg.2.1, hg.2.2.1⟩)).trans ?_
  generalize hR8 : zur R7 7 ((ml2L S T l nk 0 0)) = R8
  refine (ys5 229 (L2 := [(6, .ref (μ.length)), (5, .int ((ml2L S T l nk 0 0))), (4, .int ((ml1L S T l np 0 0 0).2)), (3, .int ((ml1L S T l np 0 0 0).1)), (0, .ref (x + 0)), (1, .int (nI l)), (2, .int (nI v))]) rfl rfl rfl rfl).trans ?_
  refine (ys4 231 (v := .ref (μ.length)) rfl rfl rfl rfl).trans ?_
  refine (ys4 232 (v := .int (nI v)) rfl rfl rfl rfl).trans ?_
  refine (ylx 233 (N := 8) rfl (j := v) rfl (Or.inl (zg_shape _).1) (zg_shape _).2 (by omega) (by decide) rfl (zg_at ⟨hg.1, hg.2.1, hg.2.2.1⟩)).trans ?_
  refine (ys36 rfl rfl).trans ?_
  rw [show mlo S T l np nk = R8 from by subst hR8 hR7 hR6 hR5 hR4 hR3 hR2 hR1; unfold mlo; (try dsimp only); first | done | rfl]; (first | done | rfl)

