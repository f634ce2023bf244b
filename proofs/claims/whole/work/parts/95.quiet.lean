/-! COUNTS ON BOTH SIDES; WHAT IS QUIET STAYS -/
section ZQC
variable {V : zV} {T S : zFn} {nl np nh nk g : Nat}
theorem zq_pg (hR : zqR V T S nl np nh nk g) (y : Int32) : ∀ (m i : Nat) (a : Int32), i + m = np → vpthL V y m i a = rpgL S T y m i a
  | 0, _, _, _ => rfl
  | m + 1, i, a, hi => by
    obtain ⟨p1, -⟩ := hR.2.2.2.1 i (by omega)
    rw [vpthL, rpgL, p1]
    by_cases c : S 4 i = y
    · rw [if_pos c, if_pos c]
      exact zq_pg hR y m (i + 1) _ (by omega)
    · rw [if_neg c, if_neg c, Int32.add_zero]
      exact zq_pg hR y m (i + 1) _ (by omega)
theorem zq_ar (hR : zqR V T S nl np nh nk g) : ∀ (m i : Nat) (a : Int32), i + m = nk → zcnt (fun i => if varr V i = 0 then false else true) m i a = rarL S T m i a
  | 0, _, _, _ => rfl
  | m + 1, i, a, hi => by
    rw [zcnt, rarL, zq_arr hR (by omega)]
    by_cases c : ria S T i = 0
    · rw [if_pos c, if_pos c, if_neg (by decide), Int32.add_zero]
      exact zq_ar hR m (i + 1) _ (by omega)
    · rw [if_neg c, if_neg c, if_pos rfl]
      exact zq_ar hR m (i + 1) _ (by omega)
theorem zq_fy (hR : zqR V T S nl np nh nk g) (k : Nat) : ∀ (m i : Nat) (a : Int32), i + m = np → zcnt (fun i => if V 2 i 0 = 1 then if V 2 i 10 = nI k then true else false else false) m i a = rfyL S T k 0 m i a
  | 0, _, _, _ => rfl
  | m + 1, i, a, hi => by
    obtain ⟨p1, p2, p3, p4, p5⟩ := hR.2.2.2.1 i (by omega)
    rw [zcnt, rfyL, p1]
    by_cases c : S 4 i = 1
    · have e := (p5 c).2.2.2.2.2.2.1
      rw [if_pos c, if_pos c, e]
      by_cases c2 : S 11 i = nI k
      · rw [if_pos c2, if_pos c2, if_pos rfl, if_pos rfl]
        exact zq_fy hR k m (i + 1) _ (by omega)
      · rw [if_neg c2, if_neg c2, if_neg (by decide), Int32.add_zero]
        exact zq_fy hR k m (i + 1) _ (by omega)
    · rw [if_neg c, if_neg c, if_neg (by decide), Int32.add_zero]
      exact zq_fy hR k m (i + 1) _ (by omega)
theorem zq_hd (hR : zqR V T S nl np nh nk g) {k : Nat} (hk : k < nk) : ∀ (m i c : Nat), i + m = np → ∃ e, rfyL S T k 1 m i (nI c) = nI (c + e) ∧ e ≤ m ∧ (e = 0 ↔ vhdL V (nI k) (V 4 k 2) m i = 0)
  | 0, _, c, _ => ⟨0, rfl, Nat.le_refl _, by simp [vhdL]⟩
  | m + 1, i, c, hi => by
    obtain ⟨p1, p2, p3, p4, p5⟩ := hR.2.2.2.1 i (by omega)
    obtain ⟨k1, k2, -⟩ := hR.2.2.2.2.2 k hk
    have H : ∀ (x : Int32), x = 0 → (∃ e, rfyL S T k 1 m (i + 1) (nI c + x) = nI (c + e) ∧ e ≤ m + 1 ∧ (e = 0 ↔ vhdL V (nI k) (V 4 k 2) m (i + 1) = 0)) := by
      rintro x rfl
      rw [Int32.add_zero]
      obtain ⟨e, h1, h2, h3⟩ := zq_hd hR hk m (i + 1) c (by omega)
      exact ⟨e, h1, by omega, h3⟩
    rw [vhdL, rfyL, p1]
    by_cases c1 : S 4 i = 1
    · have e1 := (p5 c1).2.2.2.2.2.2.1
      have e2 := (p5 c1).2.2.2.2.2.2.2.1
      rw [if_pos c1, if_pos c1, e1, e2]
      by_cases c2 : S 11 i = nI k
      · rw [if_pos c2, if_pos c2, if_neg (by decide), k2]
        by_cases c3 : S 12 i = S 18 k
        · rw [if_pos c3, if_pos c3, nI_1]
          obtain ⟨e, h1, h2, h3⟩ := zq_hd hR hk m (i + 1) (c + 1) (by omega)
          refine ⟨e + 1, by rw [h1, show c + 1 + e = c + (e + 1) by omega], by omega, ?_⟩
          constructor
          · intro h; omega
          · intro h; exact absurd h (by decide)
        · rw [if_neg c3, if_neg c3, ← k2]
          exact H 0 rfl
      · rw [if_neg c2, if_neg c2]
        exact H 0 rfl
    · rw [if_neg c1, if_neg c1]
      exact H 0 rfl
theorem zq_cg (hR : zqR V T S nl np nh nk g) {k : Nat} (hk : k < nk) (ha : ria S T k = 0) : ∀ (m i : Nat), i + m ≤ rN S T k → (vcgoL V k m i = 0 ∧ rloL S T k m i = 1) ∨ (vcgoL V k m i = 1 ∧ rloL S T k m i = 0)
  | 0, _, _ => Or.inl ⟨rfl, rfl⟩
  | m + 1, i, hi => by
    obtain ⟨-, -, h3⟩ := zq_N hR hk ha
    obtain ⟨c, hc, c1, c2⟩ := h3 i (by omega)
    have hnp := (zq_np hR).2.1
    rw [vcgoL, rloL, c1, c2, zsf_nI (show c < 20 by omega) (by decide), zq_cso hR hk hc]
    by_cases h : rcso S k c = 0
    · rw [if_pos h, if_pos h]
      exact zq_cg hR hk ha m (i + 1) (by omega)
    · rw [if_neg h, if_neg h]
      exact Or.inr ⟨rfl, rfl⟩
theorem zq_lost (hR : zqR V T S nl np nh nk g) {k : Nat} (hk : k < nk) : vlost V k np = rlo S T k np := by
  have hnp := (zq_np hR).2.1
  unfold vlost rlo
  rw [zq_arr hR hk]
  by_cases ha : ria S T k = 0
  · obtain ⟨e, h1, h2, h3⟩ := zq_hd hR hk np 0 0 (by omega)
    have h1 : rfyL S T k 1 np 0 0 = nI (0 + e) := h1
    rw [if_pos ha, if_pos ha, h1]
    by_cases h0 : e = 0
    · subst h0
      rw [if_pos (h3.mp rfl), if_pos (show nI (0 + 0) ≤ 0 by decide), (zq_N hR hk ha).1]
      rcases zq_cg hR hk ha (rN S T k) 0 (by omega) with h | h
      · rw [h.1, h.2, if_pos rfl]
      · rw [h.1, h.2, if_neg (by decide)]
    · rw [if_neg (fun q => h0 (h3.mpr q)), if_neg (nI_nle (by omega) (by omega))]
  · rw [if_neg ha, if_neg ha]
theorem zq_ls (hR : zqR V T S nl np nh nk g) : ∀ (m i : Nat) (a : Int32), i + m = nk → zcnt (fun i => if vlost V i np = 0 then false else true) m i a = rlsL S T np m i a
  | 0, _, _, _ => rfl
  | m + 1, i, a, hi => by
    rw [zcnt, rlsL, zq_lost hR (by omega)]
    by_cases c : rlo S T i np = 0
    · rw [if_pos c, if_pos c, if_neg (by decide), Int32.add_zero]
      exact zq_ls hR m (i + 1) _ (by omega)
    · rw [if_neg c, if_neg c, if_pos rfl]
      exact zq_ls hR m (i + 1) _ (by omega)
end ZQC
/-! letters and pigeons as they were -/
def zqE (V U : zV) : Prop := ∀ q i f, q = 2 ∨ q = 4 ∨ q = 7 ∨ q = 8 → U q i f = V q i f
theorem zqE.rf (V : zV) : zqE V V := fun _ _ _ _ => rfl
theorem zqE.tr {V U W : zV} (h1 : zqE V U) (h2 : zqE U W) : zqE V W := fun q i f h => (h2 q i f h).trans (h1 q i f h)
theorem zqE.up {V U : zV} (h : zqE V U) {q i f : Nat} {x : Int32} (h0 : q ≠ 2 ∧ q ≠ 4 ∧ q ≠ 7 ∧ q ≠ 8) : zqE V (zvu U q i f x) := by
  intro q' i' f' h'
  rw [zvu_ne (by rintro ⟨rfl, -, -⟩; omega)]
  exact h q' i' f' h'
def zqQ (V : zV) (np nk : Nat) : Prop := (∀ p, p < np → V 2 p 0 ≠ 1) ∧ ∀ k, k < nk → varr V k = 0 → vcgoL V k (vN V k) 0 = 0
theorem zqE_arr {V U : zV} (h : zqE V U) (k : Nat) : varr U k = varr V k := by unfold varr; rw [h 4 k 2 (by omega), h 4 k 0 (by omega)]
theorem zqE_N {V U : zV} (h : zqE V U) (k : Nat) : vN U k = vN V k := by unfold vN vsize; rw [h 4 k 2 (by omega), h 7 k _ (by omega)]
theorem zqE_cso {V U : zV} (h : zqE V U) (k : Nat) (x : Int32) : vcso U k x = vcso V k x := by unfold vcso vcag; rw [h 4 k 1 (by omega), h 4 k 3 (by omega), h 2 _ 0 (by omega), h 2 _ 2 (by omega)]
theorem zqE_cgo {V U : zV} (h : zqE V U) (k : Nat) : ∀ (m i : Nat), vcgoL U k m i = vcgoL V k m i
  | 0, _ => rfl
  | m + 1, i => by
    rw [vcgoL, vcgoL, zqE_cgo h k m (i + 1), zqE_cso h, show vcar U k (U 4 k 2) (nI i) = vcar V k (V 4 k 2) (nI i) by unfold vcar; rw [h 4 k 2 (by omega), h 8 k _ (by omega)]]
theorem zqE_hd {V U : zV} (h : zqE V U) (x y : Int32) : ∀ (m i : Nat), vhdL U x y m i = vhdL V x y m i
  | 0, _ => rfl
  | m + 1, i => by
    rw [vhdL, vhdL, zqE_hd h x y m (i + 1), h 2 i 0 (by omega), h 2 i 10 (by omega), h 2 i 11 (by omega)]
theorem zqE_lost {V U : zV} (h : zqE V U) (k np : Nat) : vlost U k np = vlost V k np := by
  unfold vlost
  rw [zqE_arr h, zqE_cgo h, zqE_N h, zqE_hd h, h 4 k 2 (by omega)]
theorem zqE_pth {V U : zV} (h : zqE V U) (x : Int32) : ∀ (m i : Nat) (a : Int32), vpthL U x m i a = vpthL V x m i a
  | 0, _, _ => rfl
  | m + 1, i, a => by
    rw [vpthL, vpthL, zqE_pth h x m (i + 1), zqE_pth h x m (i + 1), h 2 i 0 (by omega)]
theorem zqQ.cg {V U : zV} {np nk : Nat} (h : zqE V U) (hQ : zqQ V np nk) : zqQ U np nk := by
  refine ⟨fun p hp => by rw [h 2 p 0 (by omega)]; exact hQ.1 p hp, fun k hk ha => ?_⟩
  rw [zqE_arr h] at ha
  rw [zqE_cgo h, zqE_N h]
  exact hQ.2 k hk ha
theorem vq2_Q {V : zV} : ∀ (m i : Nat), ¬ vq2 V m i = 0 → ∀ k, i ≤ k → k < i + m → varr V k = 0 → vcgoL V k (vN V k) 0 = 0
  | 0, _, _, _, h1, h2, _ => absurd h2 (by omega)
  | m + 1, i, h, k, h1, h2, ha => by
    rw [vq2] at h
    by_cases e : k = i
    · subst e
      rw [if_pos ha] at h
      by_cases c : vcgoL V k (vN V k) 0 = 0
      · exact c
      · rw [if_neg c] at h
        exact absurd rfl h
    · refine vq2_Q m (i + 1) ?_ k (by omega) (by omega) ha
      intro q
      apply h
      rw [q]
      split
      · split <;> rfl
      · rfl
theorem vq1_Q {V : zV} {nk : Nat} : ∀ (m i : Nat), ¬ vq1 V nk m i = 0 → (∀ p, i ≤ p → p < i + m → V 2 p 0 ≠ 1) ∧ ¬ vq2 V nk 0 = 0
  | 0, _, h => ⟨fun p h1 h2 => absurd h2 (by omega), h⟩
  | m + 1, i, h => by
    rw [vq1] at h
    by_cases c : V 2 i 0 = 1
    · rw [if_pos c] at h
      exact absurd rfl h
    · rw [if_neg c] at h
      obtain ⟨a, b⟩ := vq1_Q m (i + 1) h
      refine ⟨fun p h1 h2 => ?_, b⟩
      by_cases e : p = i
      · subst e; exact c
      · exact a p (by omega) (by omega)
theorem zqQ_of {V : zV} {np nk : Nat} (h : ¬ vq1 V nk np 0 = 0) : zqQ V np nk := by
  obtain ⟨a, b⟩ := vq1_Q np 0 h
  exact ⟨fun p hp => a p (by omega) (by omega), fun k hk => vq2_Q nk 0 b k (by omega) (by omega)⟩
theorem zqE_move (V : zV) (i : Nat) : zqE V (vmove V i) := by
  unfold vmove
  dsimp only
  repeat' split
  all_goals repeat (first | exact zqE.rf _ | refine zqE.up ?_ (by decide))
theorem zqE_mvL : ∀ (m i : Nat) (V : zV), zqE V (vmvL m i V)
  | 0, _, V => zqE.rf V
  | m + 1, i, V => (zqE_move V i).tr (zqE_mvL m (i + 1) _)
theorem zq_sdQ {k : Nat} {num : Int32} {V : zV} : ∀ (m i : Nat), vcgoL V k m i = 0 → vsdL k num m i V = V
  | 0, _, _ => rfl
  | m + 1, i, h => by
    rw [vcgoL] at h
    by_cases c : vcso V k (vcar V k (V 4 k 2) (nI i)) = 0
    · rw [if_pos c] at h
      rw [vsdL, show vsd1 V k num i = V by unfold vsd1; dsimp only; rw [if_pos c]]
      exact zq_sdQ m (i + 1) h
    · rw [if_neg c] at h
      exact absurd h (by decide)
theorem zq_slQ {V : zV} {np nk : Nat} (hQ : zqQ V np nk) : ∀ (m i : Nat), i + m = nk → vslL m i V = V
  | 0, _, _ => rfl
  | m + 1, i, hi => by
    rw [vslL]
    by_cases c : varr V i = 0
    · rw [if_pos c, zq_sdQ _ _ (hQ.2 i (by omega) c)]
      exact zq_slQ hQ m (i + 1) (by omega)
    · rw [if_neg c]
      exact zq_slQ hQ m (i + 1) (by omega)
theorem zq_flQ {V : zV} {np : Nat} (hQ : ∀ p, p < np → V 2 p 0 ≠ 1) : ∀ (m i : Nat), i + m = np → vflL m i V = V
  | 0, _, _ => rfl
  | m + 1, i, hi => by
    rw [vflL, if_neg (hQ i (by omega))]
    exact zq_flQ hQ m (i + 1) (by omega)
theorem zq_huQ {V : zV} {np h : Nat} (hQ : ∀ p, p < np → V 2 p 0 ≠ 1) : ∀ (m i : Nat) (a : Int32), i + m = np → vhuntL V h m i a (-1) = V
  | 0, _, _, _ => by unfold vhuntL vprey; rw [if_pos (by decide)]
  | m + 1, i, a, hi => by
    rw [vhuntL, if_neg (hQ i (by omega))]
    exact zq_huQ hQ m (i + 1) a (by omega)
theorem zq_hunQ {V : zV} {np h : Nat} (hQ : ∀ p, p < np → V 2 p 0 ≠ 1) : zqE V (vhunt V h np) := by
  unfold vhunt
  split
  · rw [zq_huQ hQ np 0 _ (by omega)]
    exact zqE.rf V
  · exact zqE.up (zqE.rf V) (by decide)
theorem zq_huLQ {np : Nat} : ∀ (m i : Nat) (V : zV), (∀ p, p < np → V 2 p 0 ≠ 1) → zqE V (vhuL np m i V)
  | 0, _, V, _ => zqE.rf V
  | m + 1, i, V, hQ => by
    have h := zq_hunQ (h := i) hQ
    exact h.tr (zq_huLQ m (i + 1) _ (fun p hp => by rw [h 2 p 0 (by omega)]; exact hQ p hp))
/-- an hour of a quiet world -/
theorem zq_passQ {V : zV} {nl np nh nk : Nat} (hQ : zqQ V np nk) : zqE V (vpass V nl np nh nk) := by
  have h1 := zqE_mvL nl 0 V
  have hQ1 := hQ.cg h1
  unfold vpass
  dsimp only
  rw [zq_slQ hQ1 nk 0 (by omega), zq_flQ hQ1.1 np 0 (by omega)]
  exact (h1.tr (zq_huLQ nh 0 _ hQ1.1)).up (by decide)
theorem zq_psQ {nl np nh nk : Nat} : ∀ (m : Nat) (V : zV), zqQ V np nk → zqE V (vpsL nl np nh nk m V)
  | 0, V, _ => zqE.rf V
  | m + 1, V, hQ => (zq_passQ hQ).tr (zq_psQ m _ (hQ.cg (zq_passQ hQ)))
theorem zq_laE {nl np nh nk : Nat} : ∀ (m i : Nat) (U : zV), zqE (vlaL nl np nh nk m i U) (vpsL nl np nh nk m U)
  | 0, _, U => zqE.rf U
  | m + 1, i, U => by
    rw [vlaL, vpsL]
    by_cases c : vq1 U nk np 0 = 0
    · rw [if_pos c]
      exact zq_laE m (i + 1) _
    · rw [if_neg c]
      exact zq_psQ (m + 1) U (zqQ_of c)
theorem zq_ps {T : zFn} {nl np nh nk g : Nat} : ∀ (m : Nat) (V : zV) (S : zFn), zqR V T S nl np nh nk g → zqR (vpsL nl np nh nk m V) T (rps T nl np nh nk m S) nl np nh nk g
  | 0, _, _, hR => hR
  | m + 1, V, S, hR => zq_ps m _ _ (zq_pass hR)
/-! hours until a letter has arrived -/
theorem zq_avQ {T : zFn} {nl np nh nk g k : Nat} (hk : k < nk) : ∀ (m i : Nat) (U : zV) (A : zFn), zqR U T A nl np nh nk g → zqQ U np nk → varr U k = 0 → (ravL T k nl np nh nk m i A).1 = -1
  | 0, _, _, _, _, _, _ => rfl
  | m + 1, i, U, A, hR, hQ, ha => by
    have h := zq_passQ (nl := nl) (nh := nh) hQ
    rw [ravL, if_pos (by rw [← zq_arr hR hk]; exact ha)]
    exact zq_avQ hk m (i + 1) _ _ (zq_pass hR) (hQ.cg h) (by rw [zqE_arr h]; exact ha)
theorem zq_av {T : zFn} {nl np nh nk g k : Nat} (hk : k < nk) {x : Int32} (hx : x = T 14 k) : ∀ (m i : Nat) (U : zV) (A : zFn), zqR U T A nl np nh nk g → (vhtL nl np nh nk k x m i U).1 = (ravL T k nl np nh nk (m + 1) i A).1
  | 0, i, U, A, hR => by
    have ea := zq_arr hR hk
    obtain ⟨n, s, hn, hs, e1, e2, e3, e4, -⟩ := zq_let hR hk
    unfold varr at ea
    rw [e2, ← e1, ← hx] at ea
    rw [vhtL, ravL, ← ea]
    by_cases c : U 4 k 2 < x
    · rw [if_neg (i_nle c), if_pos c, if_pos c, if_pos rfl]
      rfl
    · rw [if_pos (i_le c), if_neg c, if_neg c, if_neg (by decide)]
  | m + 1, i, U, A, hR => by
    have ea := zq_arr hR hk
    have ea' := ea
    obtain ⟨n, s, hn, hs, e1, e2, e3, e4, -⟩ := zq_let hR hk
    unfold varr at ea
    rw [e2, ← e1, ← hx] at ea
    rw [vhtL, ravL, ← ea]
    by_cases c : U 4 k 2 < x
    · rw [if_neg (i_nle c), if_pos c, if_pos c, if_pos rfl]
      by_cases q : vq1 U nk np 0 = 0
      · rw [if_pos q]
        exact zq_av hk hx m (i + 1) _ _ (zq_pass hR)
      · rw [if_neg q]
        have hQ := zqQ_of q
        have h := zq_passQ (nl := nl) (nh := nh) hQ
        have ha : varr U k = 0 := by rw [ea', ← ea, if_pos c]
        exact (zq_avQ hk (m + 1) (i + 1) _ _ (zq_pass hR) (hQ.cg h) (by rw [zqE_arr h]; exact ha)).symm
    · rw [if_pos (i_le c), if_neg c, if_neg c, if_neg (by decide)]
/-- whether a letter comes to a later stage -/
theorem zq_m2Q {T : zFn} {nl np nh nk g k : Nat} (hk : k < nk) {z : Int32} : ∀ (m i : Nat) (U : zV) (A : zFn), zqR U T A nl np nh nk g → zqQ U np nk → U 4 k 2 ≤ z → (me2L T nl np nh nk k z m i A).1 = 0
  | 0, _, _, _, _, _, _ => rfl
  | m + 1, i, U, A, hR, hQ, ha => by
    have h := zq_passQ (nl := nl) (nh := nh) hQ
    have hR2 := zq_pass hR
    have e := (hR2.2.2.2.2.2 k hk).2.1
    rw [h 4 k 2 (by omega)] at e
    rw [me2L]
    rw [if_pos (by rw [← e]; exact ha)]
    exact zq_m2Q hk m (i + 1) _ _ hR2 (hQ.cg h) (by rw [h 4 k 2 (by omega)]; exact ha)
theorem zq_m2 {T : zFn} {nl np nh nk g k : Nat} (hk : k < nk) {z : Int32} (hz : ∀ w : Int32, w ≤ z ↔ w < z + 1) : ∀ (m i : Nat) (U : zV) (A : zFn), zqR U T A nl np nh nk g → U 4 k 2 ≤ z → i + m < 2 ^ 31 → ((vhtL nl np nh nk k (z + 1) m i U).1 < 0 ∧ (me2L T nl np nh nk k z m i A).1 = 0) ∨ (¬ (vhtL nl np nh nk k (z + 1) m i U).1 < 0 ∧ ¬ (me2L T nl np nh nk k z m i A).1 = 0)
  | 0, i, U, A, hR, ha, hi => by
    have c := (hz _).mp ha
    rw [vhtL, if_neg (i_nle c), if_pos c]
    exact Or.inl ⟨show (-1 : Int32) < 0 by decide, rfl⟩
  | m + 1, i, U, A, hR, ha, hi => by
    have c := (hz _).mp ha
    have hR2 := zq_pass hR
    have e := (hR2.2.2.2.2.2 k hk).2.1
    rw [vhtL, if_neg (i_nle c)]
    by_cases q : vq1 U nk np 0 = 0
    · rw [if_pos q, me2L]
      dsimp only
      rw [← e]
      by_cases c2 : vpass U nl np nh nk 4 k 2 ≤ z
      · rw [if_pos c2]
        exact zq_m2 hk hz m (i + 1) _ _ hR2 c2 (by omega)
      · rw [if_neg c2]
        have c3 : z + 1 ≤ vpass U nl np nh nk 4 k 2 := i_le (fun q => c2 ((hz _).mpr q))
        have hv : (vhtL nl np nh nk k (z + 1) m (i + 1) (vpass U nl np nh nk)).1 = nI (i + 1) := by
          cases m with
          | zero => rw [vhtL, if_pos c3, if_neg (i_nlt c3)]
          | succ m => rw [vhtL, if_pos c3, if_neg (i_nlt c3)]
        rw [hv]
        exact Or.inr ⟨nI_pos (by omega), show ¬ (1 : Int32) = 0 by decide⟩
    · rw [if_neg q, if_pos c]
      exact Or.inl ⟨show (-1 : Int32) < 0 by decide, zq_m2Q hk (m + 1) i U A hR (zqQ_of q) ha⟩
