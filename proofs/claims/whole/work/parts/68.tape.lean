/-! THE TAPE at b: 0 its ints (length, tokens), 1 bytes, 2 kinds, 3 starts, 4 sizes. -/
def zTP (μ : zM) (b : Nat) : Prop := zFS μ b [2, 21, 23, 20, 20] [2, 2000, 0, 401, 401] ∧ zgr μ (b + 0) 0 = some (b + 1) ∧ zgr μ (b + 0) 1 = some (b + 2) ∧ zgr μ (b + 0) 2 = some (b + 3) ∧ zgr μ (b + 0) 3 = some (b + 4) ∧ znr μ (b + 2) = 401
/-- kinds as numbers; a place without one: 20 or more -/
def zkf (x : Nat) : Option Nat := if x < 20 then some x else none
def zkm (μ : zM) (b : Nat) (K : Nat → Nat) : zM := μ.set (b + 2) (23, [], (List.range 401).map (fun j => zkf (K j)), [])
def zku (K : Nat → Nat) (j q : Nat) : Nat → Nat := fun i => if i = j then q else K i
theorem zen_kw {μ : zM} {b a : Nat} {K : Nat → Nat} (h : a ≠ b + 2) : zen (zkm μ b K) a = zen μ a := by
  unfold zkm zen
  rw [List.getD_eq_getElem?_getD, List.getElem?_set_ne (Ne.symm h), ← List.getD_eq_getElem?_getD]
theorem zTP_lt {μ : zM} {b : Nat} (h : zTP μ b) : b + 2 < μ.length := by
  refine Decidable.byContradiction fun hc => ?_
  have h1 := zFS.tag h.1 (j := 2) (by decide) rfl
  unfold ztg zen at h1
  rw [List.getD_eq_getElem?_getD, List.getElem?_eq_none (by omega)] at h1
  exact absurd h1 (by decide)
theorem zen_kw2 {μ : zM} {b : Nat} {K : Nat → Nat} (h : zTP μ b) : zen (zkm μ b K) (b + 2) = (23, [], (List.range 401).map (fun j => zkf (K j)), []) := by
  unfold zkm
  rw [zen_set (zTP_lt h), if_pos rfl]
theorem zgr_kw {μ : zM} {b j : Nat} {K : Nat → Nat} (h : zTP μ b) (hj : j < 401) : zgr (zkm μ b K) (b + 2) j = zkf (K j) := by
  unfold zgr
  rw [zen_kw2 h]
  show ((List.range 401).map (fun j => zkf (K j))).getD j none = _
  rw [List.getD_eq_getElem?_getD, List.getElem?_map, List.getElem?_range hj]
  rfl
theorem zTP_kw {μ : zM} {b : Nat} {K : Nat → Nat} (h : zTP μ b) : zTP (zkm μ b K) b := by
  have e : ∀ a, a ≠ b + 2 → zen (zkm μ b K) a = zen μ a := fun a ha => zen_kw ha
  refine ⟨⟨h.1.1, fun j hj => ?_⟩, ?_, ?_, ?_, ?_, ?_⟩
  · by_cases h2 : j = 2
    · subst h2
      unfold ztg zni
      rw [zen_kw2 h]
      exact ⟨rfl, rfl⟩
    · unfold ztg zni
      rw [e _ (by omega)]
      exact h.1.2 j hj
  · unfold zgr; rw [e _ (by omega)]; exact h.2.1
  · unfold zgr; rw [e _ (by omega)]; exact h.2.2.1
  · unfold zgr; rw [e _ (by omega)]; exact h.2.2.2.1
  · unfold zgr; rw [e _ (by omega)]; exact h.2.2.2.2.1
  · unfold znr; rw [zen_kw2 h]; simp
theorem zkw_kw (μ : zM) (b : Nat) (K U : Nat → Nat) : zkm (zkm μ b K) b U = zkm μ b U := by
  unfold zkm
  rw [List.set_set]
theorem zsr_kw {μ : zM} {b j q : Nat} {K : Nat → Nat} (h : zTP μ b) (hq : q < 20) : zsr (zkm μ b K) (b + 2) j (some q) = zkm μ b (zku K j q) := by
  unfold zsr ztg
  rw [zen_kw2 h]
  unfold zkm
  rw [List.set_set]
  congr 1
  show (23, ([] : List Int32), ((List.range 401).map (fun j => zkf (K j))).set j (some q), ([] : List Int64)) = (23, [], (List.range 401).map (fun i => zkf (zku K j q i)), [])
  congr 1
  congr 1
  congr 1
  apply List.ext_getElem?
  intro i
  rw [List.getElem?_set, List.getElem?_map, List.getElem?_map]
  by_cases hi : i < 401
  · rw [List.getElem?_range hi]
    by_cases hj : j = i
    · subst hj
      simp [zku, zkf, hi, hq]
    · rw [if_neg hj]
      simp [zku, Ne.symm hj]
  · rw [List.getElem?_eq_none (by simpa using hi)]
    by_cases hj : j = i
    · subst hj
      simp [hi]
    · rw [if_neg hj]
      rfl
section ZTW
variable {d : Nat} {call : Nat → List Value → zM → Option zR} {cd : List zRI} {pc : Nat} {L : zL} {st : List Value} {c sl len a : Nat} {k : Int} {ext : List Nat} {μ : zM} {I : Nat → Nat → Int32}
theorem ywk (pc' : Nat) {b q j : Nat} {K : Nat → Nat} {y : Int32} (hy : y = nI j) (hf : zfetch cd pc = (27, len, a, 3, k, ext)) (hb : zTP μ b) (h2 : 2 < 5) (hq : q < 20 ∧ ztg μ q = 33) (hj : j < 401) (hp : pc + 1 = pc') : zden1 d call cd (pc, L, .ref q :: .int y :: .ref (b + 2) :: st, c, sl, zwi (zkm μ b K) I) = zden1 d call cd (pc', L, st, c, sl, zwi (zkm μ b (zku K j q)) I) := by
  subst hy
  have hc := nI_clamp (n := j) (by omega)
  have hb' := zTP_kw (K := K) hb
  have hk0 : zK0 ≤ b + 2 := zFS.k0 hb.1 (j := 2)
  have hz : zK0 = 82 := rfl
  have ht : ztg (zkm μ b K) (b + 2) = 23 := zFS.tag hb'.1 (j := 2) (by decide) rfl
  have hn : znr (zkm μ b K) (b + 2) = 401 := hb'.2.2.2.2.2
  have hqt : ztg (zkm μ b K) q = 33 := by
    have e : ztg (zkm μ b K) q = ztg μ q := by unfold ztg; rw [zen_kw (by omega)]
    rw [e]
    exact hq.2
  have h := ys27r (d := d) (call := call) (L := L) (st := st) (c := c) (sl := sl) (I := I) (j := nI j) (q := q) (r := b + 2) pc' hf ⟨Or.inr hqt, by omega, by omega, by rw [ht, hqt]; rfl, by have : zUK = 22 := rfl; omega⟩ hk0 (nI_pos (by omega)) (by rw [hc, hn]; exact hj) hp
  rw [hc, zsr_kw hb hq.1] at h
  exact h
theorem yrx (pc' : Nat) {r N j q T : Nat} {y : Int32} (hy : y = nI j) (hf : zfetch cd pc = (26, len, a, 3, k, ext)) (ht : ztg μ r = T) (hT : (23 ≤ T ∧ T < 28) ∨ T = 32 ∨ T = 35) (hn : znr μ r = N) (hj : j < N) (hN : N < 2 ^ 31) (hp : pc + 1 = pc') (hq : zgr μ r j = some q) : zden1 d call cd (pc, L, .int y :: .ref r :: st, c, sl, zwi μ I) = zden1 d call cd (pc', L, .ref q :: st, c, sl, zwi μ I) := by
  subst hy
  exact yr pc' hf ht hT hn hj hN hp hq
theorem yars (pc' : Nat) {r N T b : Nat} (hf : zfetch cd pc = (28, len, a, b, k, ext)) (ht : ztg μ r = T) (hT : T = 32 ∨ T = 35) (hn : znr μ r = N) (hp : pc + 1 = pc') : zden1 d call cd (pc, L, .ref r :: st, c, sl, zwi μ I) = zden1 d call cd (pc', L, .int (nI N) :: st, c, sl, zwi μ I) :=
  ys28 (n := N) pc' hf (by unfold zal; rw [ht, hn]; dsimp only; rw [if_neg (by omega), if_neg (by omega), if_pos (Or.inr hT)]) rfl hp
end ZTW
/-! statics: kinds, their words -/
def zkz (q : Nat) : Nat := if q < 6 then 23 else 18 + q
def zkn (q : Nat) : Nat := zni zm0c (zkz q + 15)
def zkc (q i : Nat) : Int32 := zch (zgi zm0c (zkz q + 15) i)
def zKS (μ : zM) (I : zFn) : Prop := ztg μ 20 = 32 ∧ znr μ 20 = 20 ∧ (∀ i, i < 20 → ztg μ i = 33) ∧ (∀ i, i < 20 → zgr μ 20 i = some i) ∧ (∀ i, i < 20 → zgr μ i 0 = some (zkz i)) ∧ ∀ i, i < 20 → zstr μ I (zkz i) (zkz i + 15) (zkn i) (zkc i)

def visl (x : Int32) : Int32 :=
  if x < 97 then
    0
  else
    if 122 < x then
      0
    else
      1

theorem c_isl {d : Nat} {x : Int32} {μ : zM} : zden zcds (d + 1) 51 [.int (x)] (μ) = some (0, some (.int ((visl x))), 0, 0, μ) := by
  refine (zd_in (d := d + 0) (cd := zc51) (nL := 1) (L := [(0, .int (x))]) rfl (Nat.le_of_ble_eq_true rfl) rfl).trans ?_
  refine (ys4 1 (v := .int (x)) rfl rfl rfl rfl).trans ?_
  refine (ys1 3 (x := 97) rfl rfl rfl).trans ?_
  refine ys18_2 6 rfl rfl (fun h3 => ?_) (fun h3 => ?_)
  · refine (ys1 17 (x := 0) rfl rfl rfl).trans ?_
    refine (ys36 rfl (by decide)).trans ?_
    rw [show visl x = 0 from by unfold visl; (try dsimp only); rw [if_pos h3]]; (first | done | rfl)
  · refine (ys4 7 (v := .int (x)) rfl rfl rfl rfl).trans ?_
    refine (ys1 9 (x := 122) rfl rfl rfl).trans ?_
    refine ys18_4 12 rfl rfl (fun h9 => ?_) (fun h9 => ?_)
    · refine (ys1 17 (x := 0) rfl rfl rfl).trans ?_
      refine (ys36 rfl (by decide)).trans ?_
      rw [show visl x = 0 from by unfold visl; (try dsimp only); rw [if_neg h3, if_pos h9]]; (first | done | rfl)
    · refine (ys1 13 (x := 1) rfl rfl rfl).trans ?_
      refine (ys19 rfl).trans ?_
      refine (ys36 rfl (by decide)).trans ?_
      rw [show visl x = 1 from by unfold visl; (try dsimp only); rw [if_neg h3, if_neg h9]]; (first | done | rfl)

def visd (x : Int32) : Int32 :=
  if x < 48 then
    0
  else
    if 57 < x then
      0
    else
      1

theorem c_isd {d : Nat} {x : Int32} {μ : zM} : zden zcds (d + 1) 52 [.int (x)] (μ) = some (0, some (.int ((visd x))), 0, 0, μ) := by
  refine (zd_in (d := d + 0) (cd := zc52) (nL := 1) (L := [(0, .int (x))]) rfl (Nat.le_of_ble_eq_true rfl) rfl).trans ?_
  refine (ys4 1 (v := .int (x)) rfl rfl rfl rfl).trans ?_
  refine (ys1 3 (x := 48) rfl rfl rfl).trans ?_
  refine ys18_2 6 rfl rfl (fun h3 => ?_) (fun h3 => ?_)
  · refine (ys1 17 (x := 0) rfl rfl rfl).trans ?_
    refine (ys36 rfl (by decide)).trans ?_
    rw [show visd x = 0 from by unfold visd; (try dsimp only); rw [if_pos h3]]; (first | done | rfl)
  · refine (ys4 7 (v := .int (x)) rfl rfl rfl rfl).trans ?_
    refine (ys1 9 (x := 57) rfl rfl rfl).trans ?_
    refine ys18_4 12 rfl rfl (fun h9 => ?_) (fun h9 => ?_)
    · refine (ys1 17 (x := 0) rfl rfl rfl).trans ?_
      refine (ys36 rfl (by decide)).trans ?_
      rw [show visd x = 0 from by unfold visd; (try dsimp only); rw [if_neg h3, if_pos h9]]; (first | done | rfl)
    · refine (ys1 13 (x := 1) rfl rfl rfl).trans ?_
      refine (ys19 rfl).trans ?_
      refine (ys36 rfl (by decide)).trans ?_
      rw [show visd x = 1 from by unfold visd; (try dsimp only); rw [if_neg h3, if_neg h9]]; (first | done | rfl)

def vby (Q : zFn) (x : Int32) : Int32 :=
  if x < 0 then
    0
  else
    if (Q 0 0) ≤ x then
      0
    else
      if (nI 2000) ≤ x then
        0
      else
        (Q 1 (zsf x 2000))

theorem c_by {d : Nat} {b : Nat} {Q : zFn} {J : zFn} {μ : zM} (hb : zTP μ b) {x : Int32} : zden zcds (d + 1) 49 [.ref (b + 0), .int (x)] (zwi μ (zfl J b 5 Q)) = some (0, some (.int ((vby Q x))), 0, 0, zwi μ (zfl J b 5 Q)) := by
  refine (zd_in (d := d + 0) (cd := zc49) (nL := 2) (L := [(0, .ref (b + 0)), (1, .int (x))]) rfl (Nat.le_of_ble_eq_true rfl) rfl).trans ?_
  refine (ys4 1 (v := .int (x)) rfl rfl rfl rfl).trans ?_
  refine ys17_2 4 rfl rfl (fun h1 => ?_) (fun h1 => ?_)
  · refine (ys1 31 (x := 0) rfl rfl rfl).trans ?_
    refine (ys36 rfl rfl).trans ?_
    rw [show vby Q x = 0 from by unfold vby; (try dsimp only); rw [if_pos h1]]; (first | done | rfl)
  · refine (ys4 5 (v := .int (x)) rfl rfl rfl rfl).trans ?_
    refine (ys4 6 (v := .ref (b + 0)) rfl rfl rfl rfl).trans ?_
    refine (yg 9 rfl (zFS.tag hb.1 (j := 0) (by decide) rfl) (zFS.ni hb.1 (j := 0) (by decide) rfl) (by decide) rfl (zfl_at (j := 0) (by decide))).trans ?_
    refine ys18_3 12 rfl rfl (fun h9 => ?_) (fun h9 => ?_)
    · refine (ys1 31 (x := 0) rfl rfl rfl).trans ?_
      refine (ys36 rfl rfl).trans ?_
      rw [show vby Q x = 0 from by unfold vby; (try dsimp only); rw [if_neg h1, if_pos h9]]; (first | done | rfl)
    · refine (ys4 13 (v := .int (x)) rfl rfl rfl rfl).trans ?_
      refine (ys4 14 (v := .ref (b + 0)) rfl rfl rfl rfl).trans ?_
      refine (ygr 17 rfl (zFS.tag hb.1 (j := 0) (by decide) rfl) rfl hb.2.1).trans ?_
      refine (yalb 18 (N := 2000) rfl (zFS.tag hb.1 (j := 1) (by decide) rfl) (zFS.ni hb.1 (j := 1) (by decide) rfl) rfl).trans ?_
      refine ys18_3 21 rfl rfl (fun h18 => ?_) (fun h18 => ?_)
      · refine (ys1 31 (x := 0) rfl rfl rfl).trans ?_
        refine (ys36 rfl rfl).trans ?_
        rw [show vby Q x = 0 from by unfold vby; (try dsimp only); rw [if_neg h1, if_neg h9, if_pos h18]]; (first | done | rfl)
      · refine (ys4 22 (v := .ref (b + 0)) rfl rfl rfl rfl).trans ?_
        refine (ygr 25 rfl (zFS.tag hb.1 (j := 0) (by decide) rfl) rfl hb.2.1).trans ?_
        refine (ys4 26 (v := .int (x)) rfl rfl rfl rfl).trans ?_
        refine (ylb 27 (N := 2000) ((zsf_i (by decide) (i_le h1) (i_lt h18))) (j := (zsf x 2000)) rfl (Or.inl (zFS.tag hb.1 (j := 1) (by decide) rfl)) (zFS.ni hb.1 (j := 1) (by decide) rfl) (zsf_lt (by decide) (by decide)) (by decide) rfl (zfl_at (j := 1) (by decide))).trans ?_
        refine (ys19 rfl).trans ?_
        refine (ys36 rfl rfl).trans ?_
        rw [show vby Q x = (Q 1 (zsf x 2000)) from by unfold vby; (try dsimp only); rw [if_neg h1, if_neg h9, if_neg h18]]; (first | done | rfl)

def vbb (Q : zFn) : Nat → Nat → Nat
  | 0, i =>
    i
  | m + 1, i =>
    if (vby Q (nI i)) = 32 then
      vbb Q m (i + 1)
    else
      if (vby Q (nI i)) = 10 then
        vbb Q m (i + 1)
      else
        i

theorem l_bb {d c sl : Nat} {b : Nat} {Q : zFn} {J : zFn} {μ : zM} (hb : zTP μ b) {x : Int32} {n : Nat} (hl : Q 0 0 = nI n) (hn : n ≤ 2000) : ∀ (m i : Nat), i + m = n → zden1 (d + 2) (zden zcds (d + 2)) zc50 (2, [(2, .int (nI i)), (0, .ref (b + 0)), (1, .int (x))], [], c, sl, zwi μ (zfl J b 5 Q)) = some (0, some (.int (nI ((vbb Q m i)))), c, sl, zwi μ (zfl J b 5 Q))
  | 0, i, e => by
    refine (ys4 3 (v := .int (nI i)) rfl rfl rfl rfl).trans ?_
    refine (ys4 4 (v := .ref (b + 0)) rfl rfl rfl rfl).trans ?_
    refine (yg 7 rfl (zFS.tag hb.1 (j := 0) (by decide) rfl) (zFS.ni hb.1 (j := 0) (by decide) rfl) (by decide) rfl (zfl_at (j := 0) (by decide))).trans ?_
    refine ys18_3 10 rfl rfl (fun h7 => ?_) (fun h7 => absurd (by rw [hl]; exact nI_le (by omega) (by omega)) h7)
    refine (ys4 37 (v := .int (nI i)) rfl rfl rfl rfl).trans ?_
    refine (ys36 rfl rfl).trans ?_
    rw [show vbb Q 0 i = i from by rw [vbb]; (try dsimp only); first | done | rfl]; (first | done | rfl)
  | m + 1, i, e => by
    refine (ys4 3 (v := .int (nI i)) rfl rfl rfl rfl).trans ?_
    refine (ys4 4 (v := .ref (b + 0)) rfl rfl rfl rfl).trans ?_
    refine (yg 7 rfl (zFS.tag hb.1 (j := 0) (by decide) rfl) (zFS.ni hb.1 (j := 0) (by decide) rfl) (by decide) rfl (zfl_at (j := 0) (by decide))).trans ?_
    refine ys18_3 10 rfl rfl (fun h7 => absurd h7 (by rw [hl]; exact nI_ge (by omega) (by omega))) (fun h7 => ?_)
    refine (ys4 11 (v := .ref (b + 0)) rfl rfl rfl rfl).trans ?_
    refine (ys4 12 (v := .int (nI i)) rfl rfl rfl rfl).trans ?_
    refine (yc2 15 rfl rfl (Nat.le_of_ble_eq_true rfl) (Or.inr (by show ztg (zwi _ _) _ = _; rw [ztg_wi]; exact (zFS.tag hb.1 (j := 0) (by decide) rfl))) rfl rfl (c_by hb)).trans ?_
    refine (ys1 17 (x := 32) rfl rfl rfl).trans ?_
    refine ys18_0 20 rfl rfl (fun h17 => ?_) (fun h17 => ?_)
    · refine (ys6 33 (y := nI (i + 1)) (L2 := [(2, .int (nI (i + 1))), (0, .ref (b + 0)), (1, .int (x))]) rfl rfl (nI_1 _) rfl rfl).trans ?_
      refine (ys19 rfl).trans ?_
      rw [show vbb Q (m + 1) i = vbb Q m (i + 1) from by rw [vbb]; (try dsimp only); rw [if_pos h17]]; exact l_bb hb hl hn m (i + 1)    (by omega)
    · refine (ys4 21 (v := .ref (b + 0)) rfl rfl rfl rfl).trans ?_
      refine (ys4 22 (v := .int (nI i)) rfl rfl rfl rfl).trans ?_
      refine (yc2 25 rfl rfl (Nat.le_of_ble_eq_true rfl) (Or.inr (by show ztg (zwi _ _) _ = _; rw [ztg_wi]; exact (zFS.tag hb.1 (j := 0) (by decide) rfl))) rfl rfl (c_by hb)).trans ?_
      refine (ys1 27 (x := 10) rfl rfl rfl).trans ?_
      refine ys18_1 30 rfl rfl (fun h27 => ?_) (fun h27 => ?_)
      · refine (ys6 33 (y := nI (i + 1)) (L2 := [(2, .int (nI (i + 1))), (0, .ref (b + 0)), (1, .int (x))]) rfl rfl (nI_1 _) rfl rfl).trans ?_
        refine (ys19 rfl).trans ?_
        rw [show vbb Q (m + 1) i = vbb Q m (i + 1) from by rw [vbb]; (try dsimp only); rw [if_neg h17, if_pos h27]]; exact l_bb hb hl hn m (i + 1)    (by omega)
      · refine (ys4 37 (v := .int (nI i)) rfl rfl rfl rfl).trans ?_
        refine (ys36 rfl rfl).trans ?_
        rw [show vbb Q (m + 1) i = i from by rw [vbb]; (try dsimp only); rw [if_neg h17, if_neg h27]]; (first | done | rfl)

theorem c_bb {d : Nat} {b : Nat} {Q : zFn} {J : zFn} {μ : zM} (hb : zTP μ b) {a n : Nat} (hl : Q 0 0 = nI n) (hn : n ≤ 2000) (ha : a ≤ n) : zden zcds (d + 3) 50 [.ref (b + 0), .int (nI a)] (zwi μ (zfl J b 5 Q)) = some (0, some (.int (nI (vbb Q (n - a) a))), 0, 0, zwi μ (zfl J b 5 Q)) := by
  refine (zd_in (d := d + 2) (cd := zc50) (nL := 3) (L := [(0, .ref (b + 0)), (1, .int (nI a))]) rfl (Nat.le_of_ble_eq_true rfl) rfl).trans ?_
  refine (ys4 1 (v := .int (nI a)) rfl rfl rfl rfl).trans ?_
  refine (ys5 2 (L2 := [(2, .int (nI a)), (0, .ref (b + 0)), (1, .int (nI a))]) rfl rfl rfl rfl).trans ?_
  exact l_bb hb hl hn (n - a) a (by omega)

def vea1 (Q : zFn) : Nat → Nat → Nat
  | 0, i =>
    i
  | m + 1, i =>
    if (visl (vby Q (nI i))) = 0 then
      if (visd (vby Q (nI i))) = 0 then
        i
      else
        vea1 Q m (i + 1)
    else
      vea1 Q m (i + 1)

theorem l_ea1 {d c sl : Nat} {b : Nat} {Q : zFn} {J : zFn} {μ : zM} (hb : zTP μ b) {x : Int32} {n : Nat} (hl : Q 0 0 = nI n) (hn : n ≤ 2000) : ∀ (m i : Nat), i + m = n → zden1 (d + 2) (zden zcds (d + 2)) zc53 (15, [(2, .int (nI i)), (0, .ref (b + 0)), (1, .int (x))], [], c, sl, zwi μ (zfl J b 5 Q)) = some (0, some (.int (nI ((vea1 Q m i)))), c, sl, zwi μ (zfl J b 5 Q))
  | 0, i, e => by
    refine (ys4 16 (v := .int (nI i)) rfl rfl rfl rfl).trans ?_
    refine (ys4 17 (v := .ref (b + 0)) rfl rfl rfl rfl).trans ?_
    refine (yg 20 rfl (zFS.tag hb.1 (j := 0) (by decide) rfl) (zFS.ni hb.1 (j := 0) (by decide) rfl) (by decide) rfl (zfl_at (j := 0) (by decide))).trans ?_
    refine ys18_3 23 rfl rfl (fun h20 => ?_) (fun h20 => absurd (by rw [hl]; exact nI_le (by omega) (by omega)) h20)
    refine (ys4 88 (v := .int (nI i)) rfl rfl rfl rfl).trans ?_
    refine (ys36 rfl rfl).trans ?_
    rw [show vea1 Q 0 i = i from by rw [vea1]; (try dsimp only); first | done | rfl]; (first | done | rfl)
  | m + 1, i, e => by
    refine (ys4 16 (v := .int (nI i)) rfl rfl rfl rfl).trans ?_
    refine (ys4 17 (v := .ref (b + 0)) rfl rfl rfl rfl).trans ?_
    refine (yg 20 rfl (zFS.tag hb.1 (j := 0) (by decide) rfl) (zFS.ni hb.1 (j := 0) (by decide) rfl) (by decide) rfl (zfl_at (j := 0) (by decide))).trans ?_
    refine ys18_3 23 rfl rfl (fun h20 => absurd h20 (by rw [hl]; exact nI_ge (by omega) (by omega))) (fun h20 => ?_)
    refine (ys4 24 (v := .ref (b + 0)) rfl rfl rfl rfl).trans ?_
    refine (ys4 25 (v := .int (nI i)) rfl rfl rfl rfl).trans ?_
    refine (yc2 28 rfl rfl (Nat.le_of_ble_eq_true rfl) (Or.inr (by show ztg (zwi _ _) _ = _; rw [ztg_wi]; exact (zFS.tag hb.1 (j := 0) (by decide) rfl))) rfl rfl (c_by hb)).trans ?_
    refine (yc1 31 rfl rfl (Nat.le_of_ble_eq_true rfl) (Or.inl rfl) rfl rfl c_isl).trans ?_
    refine ys17_1 34 rfl rfl (fun h31 => ?_) (fun h31 => ?_)
    · refine (ys4 35 (v := .ref (b + 0)) rfl rfl rfl rfl).trans ?_
      refine (ys4 36 (v := .int (nI i)) rfl rfl rfl rfl).trans ?_
      refine (yc2 39 rfl rfl (Nat.le_of_ble_eq_true rfl) (Or.inr (by show ztg (zwi _ _) _ = _; rw [ztg_wi]; exact (zFS.tag hb.1 (j := 0) (by decide) rfl))) rfl rfl (c_by hb)).trans ?_
      refine (yc1 42 rfl rfl (Nat.le_of_ble_eq_true rfl) (Or.inl rfl) rfl rfl c_isd).trans ?_
      refine ys17_0 45 rfl rfl (fun h42 => ?_) (fun h42 => ?_)
      · refine (ys4 88 (v := .int (nI i)) rfl rfl rfl rfl).trans ?_
        refine (ys36 rfl rfl).trans ?_
        rw [show vea1 Q (m + 1) i = i from by rw [vea1]; (try dsimp only); rw [if_pos h31, if_pos h42]]; (first | done | rfl)
      · refine (ys6 48 (y := nI (i + 1)) (L2 := [(2, .int (nI (i + 1))), (0, .ref (b + 0)), (1, .int (x))]) rfl rfl (nI_1 _) rfl rfl).trans ?_
        refine (ys19 rfl).trans ?_
        rw [show vea1 Q (m + 1) i = vea1 Q m (i + 1) from by rw [vea1]; (try dsimp only); rw [if_pos h31, if_neg h42]]; exact l_ea1 hb hl hn m (i + 1)    (by omega)
    · refine (ys6 48 (y := nI (i + 1)) (L2 := [(2, .int (nI (i + 1))), (0, .ref (b + 0)), (1, .int (x))]) rfl rfl (nI_1 _) rfl rfl).trans ?_
      refine (ys19 rfl).trans ?_
      rw [show vea1 Q (m + 1) i = vea1 Q m (i + 1) from by rw [vea1]; (try dsimp only); rw [if_neg h31]]; exact l_ea1 hb hl hn m (i + 1)    (by omega)

def vea2 (Q : zFn) : Nat → Nat → Nat
  | 0, i =>
    i
  | m + 1, i =>
    if (visd (vby Q (nI i))) = 0 then
      i
    else
      vea2 Q m (i + 1)

theorem l_ea2 {d c sl : Nat} {b : Nat} {Q : zFn} {J : zFn} {μ : zM} (hb : zTP μ b) {x : Int32} {n : Nat} (hl : Q 0 0 = nI n) (hn : n ≤ 2000) : ∀ (m i : Nat), i + m = n → zden1 (d + 2) (zden zcds (d + 2)) zc53 (62, [(2, .int (nI i)), (0, .ref (b + 0)), (1, .int (x))], [], c, sl, zwi μ (zfl J b 5 Q)) = some (0, some (.int (nI ((vea2 Q m i)))), c, sl, zwi μ (zfl J b 5 Q))
  | 0, i, e => by
    refine (ys4 63 (v := .int (nI i)) rfl rfl rfl rfl).trans ?_
    refine (ys4 64 (v := .ref (b + 0)) rfl rfl rfl rfl).trans ?_
    refine (yg 67 rfl (zFS.tag hb.1 (j := 0) (by decide) rfl) (zFS.ni hb.1 (j := 0) (by decide) rfl) (by decide) rfl (zfl_at (j := 0) (by decide))).trans ?_
    refine ys18_3 70 rfl rfl (fun h67 => ?_) (fun h67 => absurd (by rw [hl]; exact nI_le (by omega) (by omega)) h67)
    refine (ys4 88 (v := .int (nI i)) rfl rfl rfl rfl).trans ?_
    refine (ys36 rfl rfl).trans ?_
    rw [show vea2 Q 0 i = i from by rw [vea2]; (try dsimp only); first | done | rfl]; (first | done | rfl)
  | m + 1, i, e => by
    refine (ys4 63 (v := .int (nI i)) rfl rfl rfl rfl).trans ?_
    refine (ys4 64 (v := .ref (b + 0)) rfl rfl rfl rfl).trans ?_
    refine (yg 67 rfl (zFS.tag hb.1 (j := 0) (by decide) rfl) (zFS.ni hb.1 (j := 0) (by decide) rfl) (by decide) rfl (zfl_at (j := 0) (by decide))).trans ?_
    refine ys18_3 70 rfl rfl (fun h67 => absurd h67 (by rw [hl]; exact nI_ge (by omega) (by omega))) (fun h67 => ?_)
    refine (ys4 71 (v := .ref (b + 0)) rfl rfl rfl rfl).trans ?_
    refine (ys4 72 (v := .int (nI i)) rfl rfl rfl rfl).trans ?_
    refine (yc2 75 rfl rfl (Nat.le_of_ble_eq_true rfl) (Or.inr (by show ztg (zwi _ _) _ = _; rw [ztg_wi]; exact (zFS.tag hb.1 (j := 0) (by decide) rfl))) rfl rfl (c_by hb)).trans ?_
    refine (yc1 78 rfl rfl (Nat.le_of_ble_eq_true rfl) (Or.inl rfl) rfl rfl c_isd).trans ?_
    refine ys17_0 81 rfl rfl (fun h78 => ?_) (fun h78 => ?_)
    · refine (ys4 88 (v := .int (nI i)) rfl rfl rfl rfl).trans ?_
      refine (ys36 rfl rfl).trans ?_
      rw [show vea2 Q (m + 1) i = i from by rw [vea2]; (try dsimp only); rw [if_pos h78]]; (first | done | rfl)
    · refine (ys6 84 (y := nI (i + 1)) (L2 := [(2, .int (nI (i + 1))), (0, .ref (b + 0)), (1, .int (x))]) rfl rfl (nI_1 _) rfl rfl).trans ?_
      refine (ys19 rfl).trans ?_
      rw [show vea2 Q (m + 1) i = vea2 Q m (i + 1) from by rw [vea2]; (try dsimp only); rw [if_neg h78]]; exact l_ea2 hb hl hn m (i + 1)    (by omega)

def vea (Q : zFn) (n : Nat) (a : Nat) : Nat :=
  if (visl (vby Q (nI a))) = 0 then
    if (visd (vby Q (nI a))) = 0 then
      (a + 1)
    else
      vea2 Q (n - (a + 1)) (a + 1)
  else
    vea1 Q (n - (a + 1)) (a + 1)

theorem c_ea {d : Nat} {b : Nat} {Q : zFn} {J : zFn} {μ : zM} (hb : zTP μ b) {a n : Nat} (hl : Q 0 0 = nI n) (hn : n ≤ 2000) (ha : a < n) : zden zcds (d + 3) 53 [.ref (b + 0), .int (nI a)] (zwi μ (zfl J b 5 Q)) = some (0, some (.int (nI ((vea Q n a)))), 0, 0, zwi μ (zfl J b 5 Q)) := by
  refine (zd_in (d := d + 2) (cd := zc53) (nL := 3) (L := [(0, .ref (b + 0)), (1, .int (nI a))]) rfl (Nat.le_of_ble_eq_true rfl) rfl).trans ?_
  refine (ys4 1 (v := .int (nI a)) rfl rfl rfl rfl).trans ?_
  refine (ys1 2 (x := 1) rfl rfl rfl).trans ?_
  refine (ys7_0 3 rfl rfl).trans ?_
  rw [show ((nI a) + 1) = (nI (a + 1)) from nI_1 _]
  refine (ys5 4 (L2 := [(2, .int ((nI (a + 1)))), (0, .ref (b + 0)), (1, .int (nI a))]) rfl rfl rfl rfl).trans ?_
  refine (ys4 5 (v := .ref (b + 0)) rfl rfl rfl rfl).trans ?_
  refine (ys4 6 (v := .int (nI a)) rfl rfl rfl rfl).trans ?_
  refine (yc2 9 rfl rfl (Nat.le_of_ble_eq_true rfl) (Or.inr (by show ztg (zwi _ _) _ = _; rw [ztg_wi]; exact (zFS.tag hb.1 (j := 0) (by decide) rfl))) rfl rfl (c_by hb)).trans ?_
  refine (yc1 12 rfl rfl (Nat.le_of_ble_eq_true rfl) (Or.inl rfl) rfl rfl c_isl).trans ?_
  refine ys17_0 15 rfl rfl (fun h12 => ?_) (fun h12 => ?_)
  · refine (ys4 52 (v := .ref (b + 0)) rfl rfl rfl rfl).trans ?_
    refine (ys4 53 (v := .int (nI a)) rfl rfl rfl rfl).trans ?_
    refine (yc2 56 rfl rfl (Nat.le_of_ble_eq_true rfl) (Or.inr (by show ztg (zwi _ _) _ = _; rw [ztg_wi]; exact (zFS.tag hb.1 (j := 0) (by decide) rfl))) rfl rfl (c_by hb)).trans ?_
    refine (yc1 59 rfl rfl (Nat.le_of_ble_eq_true rfl) (Or.inl rfl) rfl rfl c_isd).trans ?_
    refine ys17_0 62 rfl rfl (fun h59 => ?_) (fun h59 => ?_)
    · refine (ys4 88 (v := .int ((nI (a + 1)))) rfl rfl rfl rfl).trans ?_
      refine (ys36 rfl rfl).trans ?_
      rw [show vea Q n a = (a + 1) from by unfold vea; (try dsimp only); rw [if_pos h12, if_pos h59]]; (first | done | rfl)
    · rw [show vea Q n a = vea2 Q (n - (a + 1)) (a + 1) from by unfold vea; rw [if_pos h12, if_neg h59]]; exact l_ea2 hb hl hn (n - (a + 1)) (a + 1) (by omega)
  · rw [show vea Q n a = vea1 Q (n - (a + 1)) (a + 1) from by unfold vea; rw [if_neg h12]]; exact l_ea1 hb hl hn (n - (a + 1)) (a + 1) (by omega)

theorem vbb_ge (Q : zFn) : ∀ (m i : Nat), i ≤ vbb Q m i ∧ vbb Q m i ≤ i + m
  | 0, i => ⟨Nat.le_refl _, Nat.le_refl _⟩
  | m + 1, i => by
    have h := vbb_ge Q m (i + 1)
    rw [vbb]
    repeat' split
    all_goals constructor <;> omega
theorem vea1_ge (Q : zFn) : ∀ (m i : Nat), i ≤ vea1 Q m i ∧ vea1 Q m i ≤ i + m
  | 0, i => ⟨Nat.le_refl _, Nat.le_refl _⟩
  | m + 1, i => by
    have h := vea1_ge Q m (i + 1)
    rw [vea1]
    repeat' split
    all_goals constructor <;> omega
theorem vea2_ge (Q : zFn) : ∀ (m i : Nat), i ≤ vea2 Q m i ∧ vea2 Q m i ≤ i + m
  | 0, i => ⟨Nat.le_refl _, Nat.le_refl _⟩
  | m + 1, i => by
    have h := vea2_ge Q m (i + 1)
    rw [vea2]
    repeat' split
    all_goals constructor <;> omega
theorem vea_ge (Q : zFn) {n a : Nat} (h : a < n) : a + 1 ≤ vea Q n a ∧ vea Q n a ≤ n := by
  have h1 := vea1_ge Q (n - (a + 1)) (a + 1)
  have h2 := vea2_ge Q (n - (a + 1)) (a + 1)
  unfold vea
  repeat' split
  all_goals constructor <;> omega

def vspL (Q : zFn) (w : Nat → Int32) (x : Int32) : Nat → Nat → Int32
  | 0, i =>
    1
  | m + 1, i =>
    if (w i) = (vby Q (x + (nI i))) then
      vspL Q w x m (i + 1)
    else
      0

theorem l_sp {d c sl : Nat} {b : Nat} {Q : zFn} {J : zFn} {μ : zM} (hb : zTP μ b) {z y k : Nat} {w : Nat → Int32} (hz : zstr μ (zfl J b 5 Q) z y k w) {x u : Int32} : ∀ (m i : Nat), i + m = k → zden1 (d + 4) (zden zcds (d + 4)) zc56 (13, [(4, .int (nI i)), (0, .ref (b + 0)), (1, .ref (z)), (2, .int (x)), (3, .int (u))], [], c, sl, zwi μ (zfl J b 5 Q)) = some (0, some (.int ((vspL Q w x m i))), c, sl, zwi μ (zfl J b 5 Q))
  | 0, i, e => by
    refine (ys4 15 (v := .int (nI i)) rfl rfl rfl rfl).trans ?_
    refine (ys4 16 (v := .ref (z)) rfl rfl rfl rfl).trans ?_
    refine (yc1 19 rfl rfl (Nat.le_of_ble_eq_true rfl) (Or.inr (by show ztg (zwi _ _) _ = _; rw [ztg_wi]; exact hz.1)) rfl rfl (c_len hz)).trans ?_
    refine ys18_3 22 rfl rfl (fun h19 => ?_) (fun h19 => absurd (nI_le (by omega) (by have := hz.2.2.2.2.2.2.1; omega)) h19)
    refine (ys1 48 (x := 1) rfl rfl rfl).trans ?_
    refine (ys36 rfl (by decide)).trans ?_
    rw [show vspL Q w x 0 i = 1 from by rw [vspL]; (try dsimp only); first | done | rfl]; (first | done | rfl)
  | m + 1, i, e => by
    refine (ys4 15 (v := .int (nI i)) rfl rfl rfl rfl).trans ?_
    refine (ys4 16 (v := .ref (z)) rfl rfl rfl rfl).trans ?_
    refine (yc1 19 rfl rfl (Nat.le_of_ble_eq_true rfl) (Or.inr (by show ztg (zwi _ _) _ = _; rw [ztg_wi]; exact hz.1)) rfl rfl (c_len hz)).trans ?_
    refine ys18_3 22 rfl rfl (fun h19 => absurd h19 (nI_ge (by omega) hz.2.2.2.2.2.2.1)) (fun h19 => ?_)
    refine (ys4 23 (v := .ref (z)) rfl rfl rfl rfl).trans ?_
    refine (ys4 25 (v := .int (nI i)) rfl rfl rfl rfl).trans ?_
    refine (yc2 28 rfl rfl (Nat.le_of_ble_eq_true rfl) (Or.inr (by show ztg (zwi _ _) _ = _; rw [ztg_wi]; exact hz.1)) rfl rfl (c_chr hz (by omega))).trans ?_
    refine (ys4 29 (v := .ref (b + 0)) rfl rfl rfl rfl).trans ?_
    refine (ys4 30 (v := .int (x)) rfl rfl rfl rfl).trans ?_
    refine (ys4 32 (v := .int (nI i)) rfl rfl rfl rfl).trans ?_
    refine (ys7_0 33 rfl rfl).trans ?_
    refine (yc2 36 rfl rfl (Nat.le_of_ble_eq_true rfl) (Or.inr (by show ztg (zwi _ _) _ = _; rw [ztg_wi]; exact (zFS.tag hb.1 (j := 0) (by decide) rfl))) rfl rfl (c_by hb)).trans ?_
    refine ys18_0 39 rfl rfl (fun h36 => ?_) (fun h36 => ?_)
    · refine (ys6 44 (y := nI (i + 1)) (L2 := [(4, .int (nI (i + 1))), (0, .ref (b + 0)), (1, .ref (z)), (2, .int (x)), (3, .int (u))]) rfl rfl (nI_1 _) rfl rfl).trans ?_
      refine (ys19 rfl).trans ?_
      rw [show vspL Q w x (m + 1) i = vspL Q w x m (i + 1) from by rw [vspL]; (try dsimp only); rw [if_pos h36]]; exact l_sp hb hz m (i + 1)    (by omega)
    · refine (ys1 40 (x := 0) rfl rfl rfl).trans ?_
      refine (ys36 rfl (by decide)).trans ?_
      rw [show vspL Q w x (m + 1) i = 0 from by rw [vspL]; (try dsimp only); rw [if_neg h36]]; (first | done | rfl)

def vsp (Q : zFn) (k : Nat) (w : Nat → Int32) (x : Int32) (u : Int32) : Int32 :=
  if (nI k) = u then
    vspL Q w x k 0
  else
    0

theorem c_sp {d : Nat} {b : Nat} {Q : zFn} {J : zFn} {μ : zM} (hb : zTP μ b) {z y k : Nat} {w : Nat → Int32} (hz : zstr μ (zfl J b 5 Q) z y k w) {x u : Int32} : zden zcds (d + 5) 56 [.ref (b + 0), .ref (z), .int (x), .int (u)] (zwi μ (zfl J b 5 Q)) = some (0, some (.int ((vsp Q k w x u))), 0, 0, zwi μ (zfl J b 5 Q)) := by
  refine (zd_in (d := d + 4) (cd := zc56) (nL := 5) (L := [(0, .ref (b + 0)), (1, .ref (z)), (2, .int (x)), (3, .int (u))]) rfl (Nat.le_of_ble_eq_true rfl) rfl).trans ?_
  refine (ys4 1 (v := .ref (z)) rfl rfl rfl rfl).trans ?_
  refine (yc1 4 rfl rfl (Nat.le_of_ble_eq_true rfl) (Or.inr (by show ztg (zwi _ _) _ = _; rw [ztg_wi]; exact hz.1)) rfl rfl (c_len hz)).trans ?_
  refine (ys4 5 (v := .int (u)) rfl rfl rfl rfl).trans ?_
  refine ys18_0 8 rfl rfl (fun h5 => ?_) (fun h5 => ?_)
  · refine (ys1 11 (x := nI 0) rfl rfl rfl).trans ?_
    refine (ys5 13 (L2 := [(4, .int (nI 0)), (0, .ref (b + 0)), (1, .ref (z)), (2, .int (x)), (3, .int (u))]) rfl rfl rfl rfl).trans ?_
    rw [show vsp Q k w x u = vspL Q w x k 0 from by unfold vsp; rw [if_pos h5]]; exact l_sp hb hz k 0 (by omega)
  · refine (ys1 9 (x := 0) rfl rfl rfl).trans ?_
    refine (ys36 rfl (by decide)).trans ?_
    rw [show vsp Q k w x u = 0 from by unfold vsp; (try dsimp only); rw [if_neg h5]]; (first | done | rfl)

def vkwL (Q : zFn) (x : Int32) (u : Int32) : Nat → Nat → Nat
  | 0, i =>
    2
  | m + 1, i =>
    if (vsp Q (zkn i) (zkc i) x u) = 0 then
      vkwL Q x u m (i + 1)
    else
      i

theorem l_kw {d c sl : Nat} {b : Nat} {Q : zFn} {J : zFn} {μ : zM} (hb : zTP μ b) {x u : Int32} (hS : zKS μ (zfl J b 5 Q)) {n : Nat} (hn : n = 20) : ∀ (m i : Nat), i + m = n → zden1 (d + 6) (zden zcds (d + 6)) zc55 (2, [(3, .int (nI i)), (0, .ref (b + 0)), (1, .int (x)), (2, .int (u))], [], c, sl, zwi μ (zfl J b 5 Q)) = some (0, some (.ref ((vkwL Q x u m i))), c, sl, zwi μ (zfl J b 5 Q))
  | 0, i, e => by
    refine (ys4 3 (v := .int (nI i)) rfl rfl rfl rfl).trans ?_
    refine (ys25 6 rfl (v := .ref (20)) rfl rfl).trans ?_
    refine (yars 7 (N := 20) rfl hS.1 (by decide) hS.2.1 rfl).trans ?_
    refine ys18_3 10 rfl rfl (fun h7 => ?_) (fun h7 => absurd (nI_le (by omega) (by omega)) h7)
    refine (ys25 42 rfl (v := .ref (2)) rfl rfl).trans ?_
    refine (ys36 rfl rfl).trans ?_
    rw [show vkwL Q x u 0 i = 2 from by rw [vkwL]; (try dsimp only); first | done | rfl]; (first | done | rfl)
  | m + 1, i, e => by
    have hi : i < 20 := by omega
    refine (ys4 3 (v := .int (nI i)) rfl rfl rfl rfl).trans ?_
    refine (ys25 6 rfl (v := .ref (20)) rfl rfl).trans ?_
    refine (yars 7 (N := 20) rfl hS.1 (by decide) hS.2.1 rfl).trans ?_
    refine ys18_3 10 rfl rfl (fun h7 => absurd h7 (nI_ge (by omega) (by omega))) (fun h7 => ?_)
    refine (ys4 11 (v := .ref (b + 0)) rfl rfl rfl rfl).trans ?_
    refine (ys25 14 rfl (v := .ref (20)) rfl rfl).trans ?_
    refine (ys4 15 (v := .int (nI i)) rfl rfl rfl rfl).trans ?_
    refine (yr 16 (j := i) rfl hS.1 (by decide) hS.2.1 hi (by decide) rfl (hS.2.2.2.1 i hi)).trans ?_
    refine (ygr 19 rfl (hS.2.2.1 i hi) rfl (hS.2.2.2.2.1 i hi)).trans ?_
    refine (ys4 20 (v := .int (x)) rfl rfl rfl rfl).trans ?_
    refine (ys4 21 (v := .int (u)) rfl rfl rfl rfl).trans ?_
    refine (yc4 24 rfl rfl (Nat.le_of_ble_eq_true rfl) (Or.inr (by show ztg (zwi _ _) _ = _; rw [ztg_wi]; exact (zFS.tag hb.1 (j := 0) (by decide) rfl))) rfl rfl (c_sp hb (hS.2.2.2.2.2 i hi))).trans ?_
    refine ys17_0 27 rfl rfl (fun h24 => ?_) (fun h24 => ?_)
    · refine (ys6 36 (y := nI (i + 1)) (L2 := [(3, .int (nI (i + 1))), (0, .ref (b + 0)), (1, .int (x)), (2, .int (u))]) rfl rfl (nI_1 _) rfl rfl).trans ?_
      refine (ys19 rfl).trans ?_
      rw [show vkwL Q x u (m + 1) i = vkwL Q x u m (i + 1) from by rw [vkwL]; (try dsimp only); rw [if_pos h24]]; exact l_kw hb hS hn m (i + 1)    (by omega)
    · refine (ys25 30 rfl (v := .ref (20)) rfl rfl).trans ?_
      refine (ys4 31 (v := .int (nI i)) rfl rfl rfl rfl).trans ?_
      refine (yr 32 (j := i) rfl hS.1 (by decide) hS.2.1 hi (by decide) rfl (hS.2.2.2.1 i hi)).trans ?_
      refine (ys36 rfl rfl).trans ?_
      rw [show vkwL Q x u (m + 1) i = i from by rw [vkwL]; (try dsimp only); rw [if_neg h24]]; (first | done | rfl)

theorem c_kw {d : Nat} {b : Nat} {Q : zFn} {J : zFn} {μ : zM} (hb : zTP μ b) {x u : Int32} (hS : zKS μ (zfl J b 5 Q)) : zden zcds (d + 7) 55 [.ref (b + 0), .int (x), .int (u)] (zwi μ (zfl J b 5 Q)) = some (0, some (.ref (vkwL Q x u 20 0)), 0, 0, zwi μ (zfl J b 5 Q)) := by
  refine (zd_in (d := d + 6) (cd := zc55) (nL := 4) (L := [(0, .ref (b + 0)), (1, .int (x)), (2, .int (u))]) rfl (Nat.le_of_ble_eq_true rfl) rfl).trans ?_
  refine (ys1 1 (x := nI 0) rfl rfl rfl).trans ?_
  refine (ys5 2 (L2 := [(3, .int (nI 0)), (0, .ref (b + 0)), (1, .int (x)), (2, .int (u))]) rfl rfl rfl rfl).trans ?_
  exact l_kw hb hS rfl 20 0 (by omega)

def vka (Q : zFn) (n : Nat) (a : Nat) : Nat :=
  if (nI a) < (Q 0 0) then
    if (visl (vby Q (nI a))) = 0 then
      if (visd (vby Q (nI a))) = 0 then
        if (vby Q (nI a)) = 44 then
          4
        else
          if (vby Q (nI a)) = 59 then
            5
          else
            1
      else
        if (nI (vea Q n a - a)) ≤ 6 then
          3
        else
          1
    else
      if (nI (vea Q n a - a)) ≤ 10 then
        vkwL Q (nI a) (nI (vea Q n a - a)) 20 0
      else
        1
  else
    0

theorem c_ka {d : Nat} {b : Nat} {Q : zFn} {J : zFn} {μ : zM} (hb : zTP μ b) {a n : Nat} (hl : Q 0 0 = nI n) (hn : n ≤ 2000) (ha : a ≤ n) (hS : zKS μ (zfl J b 5 Q)) : zden zcds (d + 8) 54 [.ref (b + 0), .int (nI a)] (zwi μ (zfl J b 5 Q)) = some (0, some (.ref ((vka Q n a))), 0, 0, zwi μ (zfl J b 5 Q)) := by
  refine (zd_in (d := d + 7) (cd := zc54) (nL := 4) (L := [(0, .ref (b + 0)), (1, .int (nI a))]) rfl (Nat.le_of_ble_eq_true rfl) rfl).trans ?_
  refine (ys4 1 (v := .int (nI a)) rfl rfl rfl rfl).trans ?_
  refine (ys4 2 (v := .ref (b + 0)) rfl rfl rfl rfl).trans ?_
  refine (yg 5 rfl (zFS.tag hb.1 (j := 0) (by decide) rfl) (zFS.ni hb.1 (j := 0) (by decide) rfl) (by decide) rfl (zfl_at (j := 0) (by decide))).trans ?_
  refine ys18_2 8 rfl rfl (fun h5 => ?_) (fun h5 => ?_)
  · have ha2 : a < n := by rw [hl] at h5; exact (nI_ltI (by omega) (by omega)).mp h5
    refine (ys4 13 (v := .ref (b + 0)) rfl rfl rfl rfl).trans ?_
    refine (ys4 14 (v := .int (nI a)) rfl rfl rfl rfl).trans ?_
    refine (yc2 17 rfl rfl (Nat.le_of_ble_eq_true rfl) (Or.inr (by show ztg (zwi _ _) _ = _; rw [ztg_wi]; exact (zFS.tag hb.1 (j := 0) (by decide) rfl))) rfl rfl (c_by hb)).trans ?_
    refine (ys5 18 (L2 := [(2, .int ((vby Q (nI a)))), (0, .ref (b + 0)), (1, .int (nI a))]) rfl rfl rfl rfl).trans ?_
    refine (ys4 19 (v := .ref (b + 0)) rfl rfl rfl rfl).trans ?_
    refine (ys4 20 (v := .int (nI a)) rfl rfl rfl rfl).trans ?_
    refine (yc2 23 rfl rfl (Nat.le_of_ble_eq_true rfl) (Or.inr (by show ztg (zwi _ _) _ = _; rw [ztg_wi]; exact (zFS.tag hb.1 (j := 0) (by decide) rfl))) rfl rfl (c_ea hb hl hn (by assumption))).trans ?_
    refine (ys4 24 (v := .int (nI a)) rfl rfl rfl rfl).trans ?_
    refine (ys7_1 25 rfl rfl).trans ?_
    rw [show ((nI (vea Q n a)) - (nI a)) = (nI (vea Q n a - a)) from pk_sub (Nat.le_of_succ_le (vea_ge Q ha2).1)]
    refine (ys5 26 (L2 := [(3, .int ((nI (vea Q n a - a)))), (2, .int ((vby Q (nI a)))), (0, .ref (b + 0)), (1, .int (nI a))]) rfl rfl rfl rfl).trans ?_
    refine (ys4 27 (v := .int ((vby Q (nI a)))) rfl rfl rfl rfl).trans ?_
    refine (yc1 30 rfl rfl (Nat.le_of_ble_eq_true rfl) (Or.inl rfl) rfl rfl c_isl).trans ?_
    refine ys17_0 33 rfl rfl (fun h30 => ?_) (fun h30 => ?_)
    · refine (ys4 53 (v := .int ((vby Q (nI a)))) rfl rfl rfl rfl).trans ?_
      refine (yc1 56 rfl rfl (Nat.le_of_ble_eq_true rfl) (Or.inl rfl) rfl rfl c_isd).trans ?_
      refine ys17_0 59 rfl rfl (fun h56 => ?_) (fun h56 => ?_)
      · refine (ys4 76 (v := .int ((vby Q (nI a)))) rfl rfl rfl rfl).trans ?_
        refine (ys1 78 (x := 44) rfl rfl rfl).trans ?_
        refine ys18_1 81 rfl rfl (fun h78 => ?_) (fun h78 => ?_)
        · refine (ys25 84 rfl (v := .ref (4)) rfl rfl).trans ?_
          refine (ys36 rfl rfl).trans ?_
          rw [show vka Q n a = 4 from by unfold vka; (try dsimp only); rw [if_pos h5, if_pos h30, if_pos h56, if_pos h78]]; (first | done | rfl)
        · refine (ys4 86 (v := .int ((vby Q (nI a)))) rfl rfl rfl rfl).trans ?_
          refine (ys1 88 (x := 59) rfl rfl rfl).trans ?_
          refine ys18_1 91 rfl rfl (fun h88 => ?_) (fun h88 => ?_)
          · refine (ys25 94 rfl (v := .ref (5)) rfl rfl).trans ?_
            refine (ys19 rfl).trans ?_
            refine (ys36 rfl rfl).trans ?_
            rw [show vka Q n a = 5 from by unfold vka; (try dsimp only); rw [if_pos h5, if_pos h30, if_pos h56, if_neg h78, if_pos h88]]; (first | done | rfl)
          · refine (ys25 100 rfl (v := .ref (1)) rfl rfl).trans ?_
            refine (ys36 rfl rfl).trans ?_
            rw [show vka Q n a = 1 from by unfold vka; (try dsimp only); rw [if_pos h5, if_pos h30, if_pos h56, if_neg h78, if_neg h88]]; (first | done | rfl)
      · refine (ys4 60 (v := .int ((nI (vea Q n a - a)))) rfl rfl rfl rfl).trans ?_
        refine (ys1 62 (x := 6) rfl rfl rfl).trans ?_
        refine ys18_5 65 rfl rfl (fun h62 => ?_) (fun h62 => ?_)
        · refine (ys25 74 rfl (v := .ref (3)) rfl rfl).trans ?_
          refine (ys36 rfl rfl).trans ?_
          rw [show vka Q n a = 3 from by unfold vka; (try dsimp only); rw [if_pos h5, if_pos h30, if_neg h56, if_pos h62]]; (first | done | rfl)
        · refine (ys25 68 rfl (v := .ref (1)) rfl rfl).trans ?_
          refine (ys19 rfl).trans ?_
          refine (ys36 rfl rfl).trans ?_
          rw [show vka Q n a = 1 from by unfold vka; (try dsimp only); rw [if_pos h5, if_pos h30, if_neg h56, if_neg h62]]; (first | done | rfl)
    · refine (ys4 34 (v := .int ((nI (vea Q n a - a)))) rfl rfl rfl rfl).trans ?_
      refine (ys1 36 (x := 10) rfl rfl rfl).trans ?_
      refine ys18_5 39 rfl rfl (fun h36 => ?_) (fun h36 => ?_)
      · refine (ys4 46 (v := .ref (b + 0)) rfl rfl rfl rfl).trans ?_
        refine (ys4 47 (v := .int (nI a)) rfl rfl rfl rfl).trans ?_
        refine (ys4 48 (v := .int ((nI (vea Q n a - a)))) rfl rfl rfl rfl).trans ?_
        refine (yc3 51 rfl rfl (Nat.le_of_ble_eq_true rfl) (Or.inr (by show ztg (zwi _ _) _ = _; rw [ztg_wi]; exact (zFS.tag hb.1 (j := 0) (by decide) rfl))) rfl rfl (c_kw hb hS)).trans ?_
        refine (ys36 rfl rfl).trans ?_
        rw [show vka Q n a = (vkwL Q (nI a) (nI (vea Q n a - a)) 20 0) from by unfold vka; (try dsimp only); rw [if_pos h5, if_neg h30, if_pos h36]]; (first | done | rfl)
      · refine (ys25 42 rfl (v := .ref (1)) rfl rfl).trans ?_
        refine (ys19 rfl).trans ?_
        refine (ys36 rfl rfl).trans ?_
        rw [show vka Q n a = 1 from by unfold vka; (try dsimp only); rw [if_pos h5, if_neg h30, if_neg h36]]; (first | done | rfl)
  · refine (ys25 11 rfl (v := .ref (0)) rfl rfl).trans ?_
    refine (ys36 rfl rfl).trans ?_
    rw [show vka Q n a = 0 from by unfold vka; (try dsimp only); rw [if_neg h5]]; (first | done | rfl)

def vsta (Q : zFn) (x : Int32) : Int32 :=
  if x < 0 then
    0
  else
    if (nI 401) ≤ x then
      0
    else
      (Q 3 (zsf x 401))

theorem c_st {d : Nat} {b : Nat} {Q : zFn} {J : zFn} {μ : zM} (hb : zTP μ b) {x : Int32} : zden zcds (d + 1) 58 [.ref (b + 0), .int (x)] (zwi μ (zfl J b 5 Q)) = some (0, some (.int ((vsta Q x))), 0, 0, zwi μ (zfl J b 5 Q)) := by
  refine (zd_in (d := d + 0) (cd := zc58) (nL := 2) (L := [(0, .ref (b + 0)), (1, .int (x))]) rfl (Nat.le_of_ble_eq_true rfl) rfl).trans ?_
  refine (ys4 1 (v := .int (x)) rfl rfl rfl rfl).trans ?_
  refine ys17_2 4 rfl rfl (fun h1 => ?_) (fun h1 => ?_)
  · refine (ys1 23 (x := 0) rfl rfl rfl).trans ?_
    refine (ys36 rfl rfl).trans ?_
    rw [show vsta Q x = 0 from by unfold vsta; (try dsimp only); rw [if_pos h1]]; (first | done | rfl)
  · refine (ys4 5 (v := .int (x)) rfl rfl rfl rfl).trans ?_
    refine (ys4 6 (v := .ref (b + 0)) rfl rfl rfl rfl).trans ?_
    refine (ygr 9 rfl (zFS.tag hb.1 (j := 0) (by decide) rfl) rfl hb.2.2.2.1).trans ?_
    refine (yal 10 (N := 401) rfl (zFS.tag hb.1 (j := 3) (by decide) rfl) (zFS.ni hb.1 (j := 3) (by decide) rfl) rfl).trans ?_
    refine ys18_3 13 rfl rfl (fun h10 => ?_) (fun h10 => ?_)
    · refine (ys1 23 (x := 0) rfl rfl rfl).trans ?_
      refine (ys36 rfl rfl).trans ?_
      rw [show vsta Q x = 0 from by unfold vsta; (try dsimp only); rw [if_neg h1, if_pos h10]]; (first | done | rfl)
    · refine (ys4 14 (v := .ref (b + 0)) rfl rfl rfl rfl).trans ?_
      refine (ygr 17 rfl (zFS.tag hb.1 (j := 0) (by decide) rfl) rfl hb.2.2.2.1).trans ?_
      refine (ys4 18 (v := .int (x)) rfl rfl rfl rfl).trans ?_
      refine (ylx 19 (N := 401) (zsf_i (by decide) (i_le h1) (i_lt h10)) (j := (zsf x 401)) rfl (Or.inl (zFS.tag hb.1 (j := 3) (by decide) rfl)) (zFS.ni hb.1 (j := 3) (by decide) rfl) (zsf_lt (by decide) (by decide)) (by decide) rfl (zfl_at (j := 3) (by decide))).trans ?_
      refine (ys19 rfl).trans ?_
      refine (ys36 rfl rfl).trans ?_
      rw [show vsta Q x = (Q 3 (zsf x 401)) from by unfold vsta; (try dsimp only); rw [if_neg h1, if_neg h10]]; (first | done | rfl)

def vsiz (Q : zFn) (x : Int32) : Int32 :=
  if x < 0 then
    0
  else
    if (nI 401) ≤ x then
      0
    else
      (Q 4 (zsf x 401))

theorem c_sz {d : Nat} {b : Nat} {Q : zFn} {J : zFn} {μ : zM} (hb : zTP μ b) {x : Int32} : zden zcds (d + 1) 59 [.ref (b + 0), .int (x)] (zwi μ (zfl J b 5 Q)) = some (0, some (.int ((vsiz Q x))), 0, 0, zwi μ (zfl J b 5 Q)) := by
  refine (zd_in (d := d + 0) (cd := zc59) (nL := 2) (L := [(0, .ref (b + 0)), (1, .int (x))]) rfl (Nat.le_of_ble_eq_true rfl) rfl).trans ?_
  refine (ys4 1 (v := .int (x)) rfl rfl rfl rfl).trans ?_
  refine ys17_2 4 rfl rfl (fun h1 => ?_) (fun h1 => ?_)
  · refine (ys1 23 (x := 0) rfl rfl rfl).trans ?_
    refine (ys36 rfl rfl).trans ?_
    rw [show vsiz Q x = 0 from by unfold vsiz; (try dsimp only); rw [if_pos h1]]; (first | done | rfl)
  · refine (ys4 5 (v := .int (x)) rfl rfl rfl rfl).trans ?_
    refine (ys4 6 (v := .ref (b + 0)) rfl rfl rfl rfl).trans ?_
    refine (ygr 9 rfl (zFS.tag hb.1 (j := 0) (by decide) rfl) rfl hb.2.2.2.2.1).trans ?_
    refine (yal 10 (N := 401) rfl (zFS.tag hb.1 (j := 4) (by decide) rfl) (zFS.ni hb.1 (j := 4) (by decide) rfl) rfl).trans ?_
    refine ys18_3 13 rfl rfl (fun h10 => ?_) (fun h10 => ?_)
    · refine (ys1 23 (x := 0) rfl rfl rfl).trans ?_
      refine (ys36 rfl rfl).trans ?_
      rw [show vsiz Q x = 0 from by unfold vsiz; (try dsimp only); rw [if_neg h1, if_pos h10]]; (first | done | rfl)
    · refine (ys4 14 (v := .ref (b + 0)) rfl rfl rfl rfl).trans ?_
      refine (ygr 17 rfl (zFS.tag hb.1 (j := 0) (by decide) rfl) rfl hb.2.2.2.2.1).trans ?_
      refine (ys4 18 (v := .int (x)) rfl rfl rfl rfl).trans ?_
      refine (ylx 19 (N := 401) (zsf_i (by decide) (i_le h1) (i_lt h10)) (j := (zsf x 401)) rfl (Or.inl (zFS.tag hb.1 (j := 4) (by decide) rfl)) (zFS.ni hb.1 (j := 4) (by decide) rfl) (zsf_lt (by decide) (by decide)) (by decide) rfl (zfl_at (j := 4) (by decide))).trans ?_
      refine (ys19 rfl).trans ?_
      refine (ys36 rfl rfl).trans ?_
      rw [show vsiz Q x = (Q 4 (zsf x 401)) from by unfold vsiz; (try dsimp only); rw [if_neg h1, if_neg h10]]; (first | done | rfl)

/-- the kinds of the tokens that are there -/
def zKD (μ : zM) (b : Nat) (K : Nat → Nat) (t : Int32) : Prop := ∃ n, n ≤ 401 ∧ t = nI n ∧ ∀ j, j < n → K j < 20 ∧ zgr μ (b + 2) j = some (K j)
theorem zKD.at {μ : zM} {b : Nat} {K : Nat → Nat} {t x : Int32} (h : zKD μ b K t) (h0 : ¬ x < 0) (h1 : ¬ t ≤ x) : zsf x 401 < 401 ∧ K (zsf x 401) < 20 ∧ zgr μ (b + 2) (zsf x 401) = some (K (zsf x 401)) := by
  obtain ⟨n, hn, ht, hk⟩ := h
  obtain ⟨j, hj, rfl⟩ := nI_of h0
  subst ht
  have hjn : j < n := by
    rcases Nat.lt_or_ge j n with h | h
    · exact h
    · exact absurd (nI_le h hj) h1
  rw [zsf_nI (by omega) (by decide)]
  exact ⟨by omega, hk j hjn⟩

def vko (Q : zFn) (K : Nat → Nat) (x : Int32) : Nat :=
  if x < 0 then
    1
  else
    if (Q 0 1) ≤ x then
      1
    else
      if (nI 401) ≤ x then
        1
      else
        (K (zsf x 401))

theorem c_ko {d : Nat} {b : Nat} {Q : zFn} {J : zFn} {μ : zM} (hb : zTP μ b) {K : Nat → Nat} {x : Int32} (hK : zKD μ b K (Q 0 1)) : zden zcds (d + 1) 57 [.ref (b + 0), .int (x)] (zwi μ (zfl J b 5 Q)) = some (0, some (.ref ((vko Q K x))), 0, 0, zwi μ (zfl J b 5 Q)) := by
  refine (zd_in (d := d + 0) (cd := zc57) (nL := 2) (L := [(0, .ref (b + 0)), (1, .int (x))]) rfl (Nat.le_of_ble_eq_true rfl) rfl).trans ?_
  refine (ys4 1 (v := .int (x)) rfl rfl rfl rfl).trans ?_
  refine ys17_2 4 rfl rfl (fun h1 => ?_) (fun h1 => ?_)
  · refine (ys25 33 rfl (v := .ref (1)) rfl rfl).trans ?_
    refine (ys36 rfl rfl).trans ?_
    rw [show vko Q K x = 1 from by unfold vko; (try dsimp only); rw [if_pos h1]]; (first | done | rfl)
  · refine (ys4 5 (v := .int (x)) rfl rfl rfl rfl).trans ?_
    refine (ys4 6 (v := .ref (b + 0)) rfl rfl rfl rfl).trans ?_
    refine (yg 9 rfl (zFS.tag hb.1 (j := 0) (by decide) rfl) (zFS.ni hb.1 (j := 0) (by decide) rfl) (by decide) rfl (zfl_at (j := 0) (by decide))).trans ?_
    refine ys18_3 12 rfl rfl (fun h9 => ?_) (fun h9 => ?_)
    · refine (ys25 33 rfl (v := .ref (1)) rfl rfl).trans ?_
      refine (ys36 rfl rfl).trans ?_
      rw [show vko Q K x = 1 from by unfold vko; (try dsimp only); rw [if_neg h1, if_pos h9]]; (first | done | rfl)
    · refine (ys4 13 (v := .int (x)) rfl rfl rfl rfl).trans ?_
      refine (ys4 14 (v := .ref (b + 0)) rfl rfl rfl rfl).trans ?_
      refine (ygr 17 rfl (zFS.tag hb.1 (j := 0) (by decide) rfl) rfl hb.2.2.1).trans ?_
      refine (yar 18 (N := 401) rfl (zFS.tag hb.1 (j := 2) (by decide) rfl) (by decide) hb.2.2.2.2.2 rfl).trans ?_
      refine ys18_3 21 rfl rfl (fun h18 => ?_) (fun h18 => ?_)
      · refine (ys25 33 rfl (v := .ref (1)) rfl rfl).trans ?_
        refine (ys36 rfl rfl).trans ?_
        rw [show vko Q K x = 1 from by unfold vko; (try dsimp only); rw [if_neg h1, if_neg h9, if_pos h18]]; (first | done | rfl)
      · refine (ys4 22 (v := .ref (b + 0)) rfl rfl rfl rfl).trans ?_
        refine (ygr 25 rfl (zFS.tag hb.1 (j := 0) (by decide) rfl) rfl hb.2.2.1).trans ?_
        refine (ys4 26 (v := .int (x)) rfl rfl rfl rfl).trans ?_
        refine (yrx 27 (zsf_i (by decide) (i_le h1) (i_lt h18)) (j := (zsf x 401)) rfl (zFS.tag hb.1 (j := 2) (by decide) rfl) (by decide) hb.2.2.2.2.2 (hK.at h1 h9).1 (by decide) rfl (hK.at h1 h9).2.2).trans ?_
        refine (ys19 rfl).trans ?_
        refine (ys36 rfl rfl).trans ?_
        rw [show vko Q K x = (K (zsf x 401)) from by unfold vko; (try dsimp only); rw [if_neg h1, if_neg h9, if_neg h18]]; (first | done | rfl)

def vas (Q : zFn) (x : Int32) (u : Int32) : Nat → Nat → Int32
  | 0, i =>
    1
  | m + 1, i =>
    if (vby Q ((vsta Q x) + (nI i))) = (vby Q ((vsta Q u) + (nI i))) then
      vas Q x u m (i + 1)
    else
      0

theorem l_as {d c sl : Nat} {b : Nat} {Q : zFn} {J : zFn} {μ : zM} (hb : zTP μ b) {x u : Int32} {n : Nat} (hn : n < 2 ^ 31) : ∀ (m i : Nat), i + m = n → zden1 (d + 2) (zden zcds (d + 2)) zc60 (20, [(4, .int (nI i)), (3, .int (nI n)), (0, .ref (b + 0)), (1, .int (x)), (2, .int (u))], [], c, sl, zwi μ (zfl J b 5 Q)) = some (0, some (.int ((vas Q x u m i))), c, sl, zwi μ (zfl J b 5 Q))
  | 0, i, e => by
    refine (ys4 22 (v := .int (nI i)) rfl rfl rfl rfl).trans ?_
    refine (ys4 23 (v := .int (nI n)) rfl rfl rfl rfl).trans ?_
    refine ys18_3 26 rfl rfl (fun h23 => ?_) (fun h23 => absurd (nI_le (by omega) (by omega)) h23)
    refine (ys1 62 (x := 1) rfl rfl rfl).trans ?_
    refine (ys36 rfl (by decide)).trans ?_
    rw [show vas Q x u 0 i = 1 from by rw [vas]; (try dsimp only); first | done | rfl]; (first | done | rfl)
  | m + 1, i, e => by
    refine (ys4 22 (v := .int (nI i)) rfl rfl rfl rfl).trans ?_
    refine (ys4 23 (v := .int (nI n)) rfl rfl rfl rfl).trans ?_
    refine ys18_3 26 rfl rfl (fun h23 => absurd h23 (nI_ge (by omega) (by omega))) (fun h23 => ?_)
    refine (ys4 27 (v := .ref (b + 0)) rfl rfl rfl rfl).trans ?_
    refine (ys4 28 (v := .ref (b + 0)) rfl rfl rfl rfl).trans ?_
    refine (ys4 29 (v := .int (x)) rfl rfl rfl rfl).trans ?_
    refine (yc2 32 rfl rfl (Nat.le_of_ble_eq_true rfl) (Or.inr (by show ztg (zwi _ _) _ = _; rw [ztg_wi]; exact (zFS.tag hb.1 (j := 0) (by decide) rfl))) rfl rfl (c_st hb)).trans ?_
    refine (ys4 34 (v := .int (nI i)) rfl rfl rfl rfl).trans ?_
    refine (ys7_0 35 rfl rfl).trans ?_
    refine (yc2 38 rfl rfl (Nat.le_of_ble_eq_true rfl) (Or.inr (by show ztg (zwi _ _) _ = _; rw [ztg_wi]; exact (zFS.tag hb.1 (j := 0) (by decide) rfl))) rfl rfl (c_by hb)).trans ?_
    refine (ys4 39 (v := .ref (b + 0)) rfl rfl rfl rfl).trans ?_
    refine (ys4 40 (v := .ref (b + 0)) rfl rfl rfl rfl).trans ?_
    refine (ys4 41 (v := .int (u)) rfl rfl rfl rfl).trans ?_
    refine (yc2 44 rfl rfl (Nat.le_of_ble_eq_true rfl) (Or.inr (by show ztg (zwi _ _) _ = _; rw [ztg_wi]; exact (zFS.tag hb.1 (j := 0) (by decide) rfl))) rfl rfl (c_st hb)).trans ?_
    refine (ys4 46 (v := .int (nI i)) rfl rfl rfl rfl).trans ?_
    refine (ys7_0 47 rfl rfl).trans ?_
    refine (yc2 50 rfl rfl (Nat.le_of_ble_eq_true rfl) (Or.inr (by show ztg (zwi _ _) _ = _; rw [ztg_wi]; exact (zFS.tag hb.1 (j := 0) (by decide) rfl))) rfl rfl (c_by hb)).trans ?_
    refine ys18_0 53 rfl rfl (fun h50 => ?_) (fun h50 => ?_)
    · refine (ys6 58 (y := nI (i + 1)) (L2 := [(4, .int (nI (i + 1))), (3, .int (nI n)), (0, .ref (b + 0)), (1, .int (x)), (2, .int (u))]) rfl rfl (nI_1 _) rfl rfl).trans ?_
      refine (ys19 rfl).trans ?_
      rw [show vas Q x u (m + 1) i = vas Q x u m (i + 1) from by rw [vas]; (try dsimp only); rw [if_pos h50]]; exact l_as hb hn m (i + 1)    (by omega)
    · refine (ys1 54 (x := 0) rfl rfl rfl).trans ?_
      refine (ys36 rfl (by decide)).trans ?_
      rw [show vas Q x u (m + 1) i = 0 from by rw [vas]; (try dsimp only); rw [if_neg h50]]; (first | done | rfl)

def vasm (Q : zFn) (n : Nat) (x : Int32) (u : Int32) : Int32 :=
  if (nI n) = (vsiz Q u) then
    vas Q x u n 0
  else
    0

theorem c_as {d : Nat} {b : Nat} {Q : zFn} {J : zFn} {μ : zM} (hb : zTP μ b) {x u : Int32} {n : Nat} (hn : n < 2 ^ 31) (hs : vsiz Q x = nI n) : zden zcds (d + 3) 60 [.ref (b + 0), .int (x), .int (u)] (zwi μ (zfl J b 5 Q)) = some (0, some (.int ((vasm Q n x u))), 0, 0, zwi μ (zfl J b 5 Q)) := by
  refine (zd_in (d := d + 2) (cd := zc60) (nL := 5) (L := [(0, .ref (b + 0)), (1, .int (x)), (2, .int (u))]) rfl (Nat.le_of_ble_eq_true rfl) rfl).trans ?_
  refine (ys4 1 (v := .ref (b + 0)) rfl rfl rfl rfl).trans ?_
  refine (ys4 2 (v := .int (x)) rfl rfl rfl rfl).trans ?_
  refine (yc2 5 rfl rfl (Nat.le_of_ble_eq_true rfl) (Or.inr (by show ztg (zwi _ _) _ = _; rw [ztg_wi]; exact (zFS.tag hb.1 (j := 0) (by decide) rfl))) rfl rfl (c_sz hb)).trans ?_
  rw [show (vsiz Q x) = (nI n) from hs]
  refine (ys5 6 (L2 := [(3, .int ((nI n))), (0, .ref (b + 0)), (1, .int (x)), (2, .int (u))]) rfl rfl rfl rfl).trans ?_
  refine (ys4 7 (v := .int ((nI n))) rfl rfl rfl rfl).trans ?_
  refine (ys4 8 (v := .ref (b + 0)) rfl rfl rfl rfl).trans ?_
  refine (ys4 9 (v := .int (u)) rfl rfl rfl rfl).trans ?_
  refine (yc2 12 rfl rfl (Nat.le_of_ble_eq_true rfl) (Or.inr (by show ztg (zwi _ _) _ = _; rw [ztg_wi]; exact (zFS.tag hb.1 (j := 0) (by decide) rfl))) rfl rfl (c_sz hb)).trans ?_
  refine ys18_0 15 rfl rfl (fun h12 => ?_) (fun h12 => ?_)
  · refine (ys1 18 (x := nI 0) rfl rfl rfl).trans ?_
    refine (ys5 20 (L2 := [(4, .int (nI 0)), (3, .int ((nI n))), (0, .ref (b + 0)), (1, .int (x)), (2, .int (u))]) rfl rfl rfl rfl).trans ?_
    rw [show vasm Q n x u = vas Q x u n 0 from by unfold vasm; rw [if_pos h12]]; exact l_as hb hn n 0 (by omega)
  · refine (ys1 16 (x := 0) rfl rfl rfl).trans ?_
    refine (ys36 rfl (by decide)).trans ?_
    rw [show vasm Q n x u = 0 from by unfold vasm; (try dsimp only); rw [if_neg h12]]; (first | done | rfl)

def vno (Q : zFn) (x : Int32) : Nat → Nat → Int32 → Int32
  | 0, i, y =>
    y
  | m + 1, i, y =>
    if 6 ≤ (nI i) then
      y
    else
      vno Q x m (i + 1) (((y * 10) + (vby Q ((vsta Q x) + (nI i)))) - 48)

theorem l_no {d c sl : Nat} {b : Nat} {Q : zFn} {J : zFn} {μ : zM} (hb : zTP μ b) {x : Int32} {n : Nat} (hn : n < 2 ^ 31) : ∀ (m i : Nat) (y : Int32), i + m = n → zden1 (d + 2) (zden zcds (d + 2)) zc61 (11, [(4, .int (nI i)), (3, .int (nI n)), (2, .int (y)), (0, .ref (b + 0)), (1, .int (x))], [], c, sl, zwi μ (zfl J b 5 Q)) = some (0, some (.int ((vno Q x m i y))), c, sl, zwi μ (zfl J b 5 Q))
  | 0, i, y, e => by
    refine (ys4 13 (v := .int (nI i)) rfl rfl rfl rfl).trans ?_
    refine (ys4 14 (v := .int (nI n)) rfl rfl rfl rfl).trans ?_
    refine ys18_3 17 rfl rfl (fun h14 => ?_) (fun h14 => absurd (nI_le (by omega) (by omega)) h14)
    refine (ys4 52 (v := .int (y)) rfl rfl rfl rfl).trans ?_
    refine (ys36 rfl rfl).trans ?_
    rw [show vno Q x 0 i y = y from by rw [vno]; (try dsimp only); first | done | rfl]; (first | done | rfl)
  | m + 1, i, y, e => by
    refine (ys4 13 (v := .int (nI i)) rfl rfl rfl rfl).trans ?_
    refine (ys4 14 (v := .int (nI n)) rfl rfl rfl rfl).trans ?_
    refine ys18_3 17 rfl rfl (fun h14 => absurd h14 (nI_ge (by omega) (by omega))) (fun h14 => ?_)
    refine (ys4 19 (v := .int (nI i)) rfl rfl rfl rfl).trans ?_
    refine (ys1 21 (x := 6) rfl rfl rfl).trans ?_
    refine ys18_3 24 rfl rfl (fun h21 => ?_) (fun h21 => ?_)
    · refine (ys4 52 (v := .int (y)) rfl rfl rfl rfl).trans ?_
      refine (ys36 rfl rfl).trans ?_
      rw [show vno Q x (m + 1) i y = y from by rw [vno]; (try dsimp only); rw [if_pos h21]]; (first | done | rfl)
    · refine (ys4 25 (v := .int (y)) rfl rfl rfl rfl).trans ?_
      refine (ys1 27 (x := 10) rfl rfl rfl).trans ?_
      refine (ys7_2 28 rfl rfl).trans ?_
      refine (ys4 29 (v := .ref (b + 0)) rfl rfl rfl rfl).trans ?_
      refine (ys4 30 (v := .ref (b + 0)) rfl rfl rfl rfl).trans ?_
      refine (ys4 31 (v := .int (x)) rfl rfl rfl rfl).trans ?_
      refine (yc2 34 rfl rfl (Nat.le_of_ble_eq_true rfl) (Or.inr (by show ztg (zwi _ _) _ = _; rw [ztg_wi]; exact (zFS.tag hb.1 (j := 0) (by decide) rfl))) rfl rfl (c_st hb)).trans ?_
      refine (ys4 36 (v := .int (nI i)) rfl rfl rfl rfl).trans ?_
      refine (ys7_0 37 rfl rfl).trans ?_
      refine (yc2 40 rfl rfl (Nat.le_of_ble_eq_true rfl) (Or.inr (by show ztg (zwi _ _) _ = _; rw [ztg_wi]; exact (zFS.tag hb.1 (j := 0) (by decide) rfl))) rfl rfl (c_by hb)).trans ?_
      refine (ys7_0 41 rfl rfl).trans ?_
      refine (ys1 43 (x := 48) rfl rfl rfl).trans ?_
      refine (ys7_1 44 rfl rfl).trans ?_
      refine (ys5 45 (L2 := [(2, .int ((((y * 10) + (vby Q ((vsta Q x) + (nI i)))) - 48))), (4, .int (nI i)), (3, .int (nI n)), (0, .ref (b + 0)), (1, .int (x))]) rfl rfl rfl rfl).trans ?_
      refine (ys6 48 (y := nI (i + 1)) (L2 := [(4, .int (nI (i + 1))), (2, .int ((((y * 10) + (vby Q ((vsta Q x) + (nI i)))) - 48))), (3, .int (nI n)), (0, .ref (b + 0)), (1, .int (x))]) rfl rfl (nI_1 _) rfl rfl).trans ?_
      refine (ys19 rfl).trans ?_
      rw [show vno Q x (m + 1) i y = vno Q x m (i + 1) (((y * 10) + (vby Q ((vsta Q x) + (nI i)))) - 48) from by rw [vno]; (try dsimp only); rw [if_neg h21]]; refine zden1_fg (L := [(4, .int (nI (i + 1))), (3, .int (nI n)), (2, .int ((((y * 10) + (vby Q ((vsta Q x) + (nI i)))) - 48))), (0, .ref (b + 0)), (1, .int (x))]) (zfg_cons rfl (zfg_cons rfl (zfg_cons rfl (zfg_cons rfl (zfg_cons rfl zfg_nil))))) ?_; exact l_no hb hn m (i + 1) (((y * 10) + (vby Q ((vsta Q x) + (nI i)))) - 48)   (by omega)

theorem c_no {d : Nat} {b : Nat} {Q : zFn} {J : zFn} {μ : zM} (hb : zTP μ b) {x : Int32} {n : Nat} (hn : n < 2 ^ 31) (hs : vsiz Q x = nI n) : zden zcds (d + 3) 61 [.ref (b + 0), .int (x)] (zwi μ (zfl J b 5 Q)) = some (0, some (.int (vno Q x n 0 0)), 0, 0, zwi μ (zfl J b 5 Q)) := by
  refine (zd_in (d := d + 2) (cd := zc61) (nL := 5) (L := [(0, .ref (b + 0)), (1, .int (x))]) rfl (Nat.le_of_ble_eq_true rfl) rfl).trans ?_
  refine (ys1 1 (x := 0) rfl rfl rfl).trans ?_
  refine (ys5 2 (L2 := [(2, .int (0)), (0, .ref (b + 0)), (1, .int (x))]) rfl rfl rfl rfl).trans ?_
  refine (ys4 3 (v := .ref (b + 0)) rfl rfl rfl rfl).trans ?_
  refine (ys4 4 (v := .int (x)) rfl rfl rfl rfl).trans ?_
  refine (yc2 7 rfl rfl (Nat.le_of_ble_eq_true rfl) (Or.inr (by show ztg (zwi _ _) _ = _; rw [ztg_wi]; exact (zFS.tag hb.1 (j := 0) (by decide) rfl))) rfl rfl (c_sz hb)).trans ?_
  rw [show (vsiz Q x) = (nI n) from hs]
  refine (ys5 8 (L2 := [(3, .int ((nI n))), (2, .int (0)), (0, .ref (b + 0)), (1, .int (x))]) rfl rfl rfl rfl).trans ?_
  refine (ys1 9 (x := nI 0) rfl rfl rfl).trans ?_
  refine (ys5 11 (L2 := [(4, .int (nI 0)), (3, .int ((nI n))), (2, .int (0)), (0, .ref (b + 0)), (1, .int (x))]) rfl rfl rfl rfl).trans ?_
  exact l_no hb hn n 0 0 (by omega)

