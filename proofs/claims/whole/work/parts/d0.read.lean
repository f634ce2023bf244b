/-! TAUGHT: what reading leaves as it was -/
def zrk (X Y : zFn) : Prop := (∀ j k, j ≠ 0 → j ≠ 5 → Y j k = X j k) ∧ ∀ k, k ≠ 3 → Y 0 k = X 0 k
theorem zrk.rf (X : zFn) : zrk X X := ⟨fun _ _ _ _ => rfl, fun _ _ => rfl⟩
theorem zrk.tr {X Y Z : zFn} (h : zrk X Y) (h2 : zrk Y Z) : zrk X Z := ⟨fun j k a b => (h2.1 j k a b).trans (h.1 j k a b), fun k a => (h2.2 k a).trans (h.2 k a)⟩
theorem zrk.up3 {X Y : zFn} {v : Int32} (h : zrk X Y) : zrk X (zup Y 0 3 v) := ⟨fun j k a b => by rw [zup_ne' (by omega)]; exact h.1 j k a b, fun k a => by rw [zup_ne' (by omega)]; exact h.2 k a⟩
theorem zrk.up5 {X Y : zFn} {i : Nat} {v : Int32} (h : zrk X Y) : zrk X (zup Y 5 i v) := ⟨fun j k a b => by rw [zup_ne' (Or.inl b)]; exact h.1 j k a b, fun k a => by rw [zup_ne' (Or.inl (by decide))]; exact h.2 k a⟩
theorem zrk.xat {X Y : zFn} (h : zrk X Y) : zrk X (xat Y) := h.up3
theorem zrk.xas {X Y : zFn} {z : Int32} (h : zrk X Y) : zrk X (xas Y z) := h.up5.up3

theorem rsp_k (z : Int32) (X : zFn) : zrk X (rsp X z).2 := by
  unfold rsp
  (try dsimp only)
  (repeat' split) <;> (repeat (first | exact zrk.rf _ | apply zrk.xas | apply zrk.xat))
theorem zrk.rsp {X Y : zFn} {z : Int32} (h : zrk X Y) : zrk X (rsp Y z).2 := h.tr (rsp_k _ Y)

theorem rop_k (q z : Int32) (X : zFn) : zrk X (rop X q z).2 := by
  unfold rop
  (try dsimp only)
  (repeat' split) <;> (repeat (first | exact zrk.rf _ | apply zrk.xas | apply zrk.xat | apply zrk.rsp))
theorem zrk.rop {X Y : zFn} {q z : Int32} (h : zrk X Y) : zrk X (rop Y q z).2 := h.tr (rop_k _ _ Y)

theorem rll_k : ∀ (m : Nat) (X : zFn), zrk X (rll m X).2
  | 0, X => zrk.rf X
  | m + 1, X => by
    have ih : ∀ {Y Z : zFn}, zrk Y Z → zrk Y (rll m Z).2 := fun h => h.tr (rll_k m _)
    rw [rll]
    (try dsimp only)
    (repeat' split) <;> (repeat (first | exact zrk.rf _ | apply zrk.xas | apply zrk.xat | apply zrk.rsp | apply zrk.rop | apply ih))
theorem zrk.rll {X Y : zFn} {m : Nat} (h : zrk X Y) : zrk X (rll m Y).2 := h.tr (rll_k m Y)

theorem rlof_k  (X : zFn) : zrk X (rlof X).2 := by
  unfold rlof
  (try dsimp only)
  (repeat' split) <;> (repeat (first | exact zrk.rf _ | apply zrk.xas | apply zrk.xat | apply zrk.rsp | apply zrk.rop | apply zrk.rll))
theorem zrk.rlof {X Y : zFn}  (h : zrk X Y) : zrk X (rlof Y).2 := h.tr (rlof_k  Y)

theorem rpig_k  (X : zFn) : zrk X (rpig X).2 := by
  unfold rpig
  (try dsimp only)
  (repeat' split) <;> (repeat (first | exact zrk.rf _ | apply zrk.xas | apply zrk.xat | apply zrk.rsp | apply zrk.rop | apply zrk.rll | apply zrk.rlof))
theorem zrk.rpig {X Y : zFn}  (h : zrk X Y) : zrk X (rpig Y).2 := h.tr (rpig_k  Y)

theorem rhaw_k  (X : zFn) : zrk X (rhaw X).2 := by
  unfold rhaw
  (try dsimp only)
  (repeat' split) <;> (repeat (first | exact zrk.rf _ | apply zrk.xas | apply zrk.xat | apply zrk.rsp | apply zrk.rop | apply zrk.rll | apply zrk.rlof | apply zrk.rpig))
theorem zrk.rhaw {X Y : zFn}  (h : zrk X Y) : zrk X (rhaw Y).2 := h.tr (rhaw_k  Y)

theorem rle_k : ∀ (m : Nat) (X : zFn), zrk X (rle m X).2
  | 0, X => zrk.rf X
  | m + 1, X => by
    have ih : ∀ {Y Z : zFn}, zrk Y Z → zrk Y (rle m Z).2 := fun h => h.tr (rle_k m _)
    rw [rle]
    (try dsimp only)
    (repeat' split) <;> (repeat (first | exact zrk.rf _ | apply zrk.xas | apply zrk.xat | apply zrk.rsp | apply zrk.rop | apply zrk.rll | apply zrk.rlof | apply zrk.rpig | apply zrk.rhaw | apply ih))
theorem zrk.rle {X Y : zFn} {m : Nat} (h : zrk X Y) : zrk X (rle m Y).2 := h.tr (rle_k m Y)

theorem rlet_k  (X : zFn) : zrk X (rlet X).2 := by
  unfold rlet
  (try dsimp only)
  (repeat' split) <;> (repeat (first | exact zrk.rf _ | apply zrk.xas | apply zrk.xat | apply zrk.rsp | apply zrk.rop | apply zrk.rll | apply zrk.rlof | apply zrk.rpig | apply zrk.rhaw | apply zrk.rle))
theorem zrk.rlet {X Y : zFn}  (h : zrk X Y) : zrk X (rlet Y).2 := h.tr (rlet_k  Y)

theorem rtx_k : ∀ (m : Nat) (X : zFn), zrk X (rtx m X).2
  | 0, X => zrk.rf X
  | m + 1, X => by
    have ih : ∀ {Y Z : zFn}, zrk Y Z → zrk Y (rtx m Z).2 := fun h => h.tr (rtx_k m _)
    rw [rtx]
    (try dsimp only)
    (repeat' split) <;> (repeat (first | exact zrk.rf _ | apply zrk.xas | apply zrk.xat | apply zrk.rsp | apply zrk.rop | apply zrk.rll | apply zrk.rlof | apply zrk.rpig | apply zrk.rhaw | apply zrk.rle | apply zrk.rlet | apply ih))
theorem zrk.rtx {X Y : zFn} {m : Nat} (h : zrk X Y) : zrk X (rtx m Y).2 := h.tr (rtx_k m Y)

theorem ite_G {c : Prop} [Decidable c] {a b : Int32 × zFn × zV} (h1 : zVG a.2.2) (h2 : zVG b.2.2) : zVG (if c then a else b).2.2 := by
  split
  · exact h1
  · exact h2
theorem vrdT_G {P Q : zFn} {V : zV} {f : Int32} (h : zVG V) : zVG (vrdT P V Q f).2.2 := ite_G h h
set_option maxHeartbeats 200000 in
theorem vrdL_G (Q : zFn) (K : zKn) : ∀ (m i : Nat) (f : Int32) (P : zFn) (V : zV), zVG V → zVG (vrdL Q K m i f P V).2.2
  | 0, i, f, P, V, h => by
    rw [vrdL]
    exact vrdT_G h
  | m + 1, i, f, P, V, h => by
    have ih : ∀ (j : Nat) (f : Int32) (r : Int32 × zFn × zV) (P : zFn), zVG r.2.2 → zVG (vrdL Q K m j f P r.2.2).2.2 := fun j f r P h => vrdL_G Q K m j f P _ h
    have ih0 := vrdL_G Q K m (i + 1) 0 P V h
    have g1 := vrl_G h (vat P) Q K
    have g2 := vrp_G h (vat P) Q K
    have g3 := vrh_G h (vat P) Q K
    have g4 := vrk_G h (vat P) Q K
    rw [vrdL]
    dsimp only
    generalize vrl (vat P) V Q K = r1 at g1 ⊢
    generalize vrp (vat P) V Q K = r2 at g2 ⊢
    generalize vrh (vat P) V Q K = r3 at g3 ⊢
    generalize vrk (vat P) V Q K = r4 at g4 ⊢
    refine ite_G (vrdT_G h) (ite_G (vrdT_G h) (ite_G ?_ (ite_G ?_ (ite_G ?_ (ite_G ?_ ih0)))))
    · exact ite_G (ih _ _ r1 _ g1) (ite_G (ih _ _ r1 _ g1) (ih _ _ r1 _ g1))
    · exact ite_G (ih _ _ r2 _ g2) (ite_G (ih _ _ r2 _ g2) (ih _ _ r2 _ g2))
    · exact ite_G (ih _ _ r3 _ g3) (ite_G (ih _ _ r3 _ g3) (ih _ _ r3 _ g3))
    · exact ite_G (ih _ _ r4 _ g4) (ite_G (ih _ _ r4 _ g4) (ih _ _ r4 _ g4))
theorem vrd_Z {P Q : zFn} {K : zKn} {V : zV} (h : zSZ V) : zSZ (vrd P V Q K).2.2 := (vrdL_G Q K _ _ _ _ _ (vclW_G h)).2
/-! errors are told by numbers above nought -/
theorem i0_0 : (0 : Int32) ≤ 0 := by decide
theorem i0_2 : (0 : Int32) ≤ 2 := by decide
theorem i0_3 : (0 : Int32) ≤ 3 := by decide
theorem i0_4 : (0 : Int32) ≤ 4 := by decide
theorem i0_5 : (0 : Int32) ≤ 5 := by decide
theorem i0_6 : (0 : Int32) ≤ 6 := by decide
theorem i0_7 : (0 : Int32) ≤ 7 := by decide
theorem ite_0 {c : Prop} [Decidable c] {a b : Int32 × zFn} (h1 : 0 ≤ a.1) (h2 : 0 ≤ b.1) : 0 ≤ (if c then a else b).1 := by
  split
  · exact h1
  · exact h2
theorem rke_0 (T : zFn) (j a : Nat) (v lo hi : Int32) : 0 ≤ (rke T j a v lo hi).1 := ite_0 i0_5 i0_0
theorem recL_0 (T : zFn) (k j z p : Nat) : ∀ (m i : Nat), 0 ≤ (recL T k j z p m i).1
  | 0, i => by
    rw [recL]
    exact i0_0
  | m + 1, i => by
    rw [recL]
    exact ite_0 i0_7 (recL_0 T k j z p m (i + 1))

set_option maxHeartbeats 100000
theorem reo1_0 (T X : zFn) (t l : Nat) : 0 ≤ (reo1 T X t l).1 := ite_0 (ite_0 i0_4 i0_0) i0_2

theorem reo5_0 (T X : zFn) (t l : Nat) : 0 ≤ (reo5 T X t l).1 := ite_0 i0_4 i0_0

theorem reo6_0 (T X : zFn) (t l s : Nat) : 0 ≤ (reo6 T X t l s).1 := rke_0 _ _ _ _ _ _

theorem reo7_0 (T X : zFn) (t l s : Nat) : 0 ≤ (reo7 T X t l s).1 := rke_0 _ _ _ _ _ _

theorem reo8_0 (T X : zFn) (t l : Nat) : 0 ≤ (reo8 T X t l).1 := rke_0 _ _ _ _ _ _

theorem reo4_0 (T X : zFn) (t l : Nat) : 0 ≤ (reo4 T X t l).1 := ite_0 i0_4 i0_0

theorem reo13_0 (T X : zFn) (t l : Nat) : 0 ≤ (reo13 T X t l).1 := rke_0 _ _ _ _ _ _

theorem reo14_0 (T X : zFn) (t l : Nat) : 0 ≤ (reo14 T X t l).1 := rke_0 _ _ _ _ _ _

theorem reo15_0 (T X : zFn) (t l : Nat) : 0 ≤ (reo15 T X t l).1 := rke_0 _ _ _ _ _ _

theorem reo16_0 (T X : zFn) (t l : Nat) : 0 ≤ (reo16 T X t l).1 := rke_0 _ _ _ _ _ _

theorem rep2_0 (T X : zFn) (t : Nat) (v : Int32) (l : Nat) : 0 ≤ (rep2 T X t v l).1 := ite_0 (ite_0 i0_4 i0_0) i0_2

theorem rep9_0 (T X : zFn) (t : Nat) (v : Int32) (l : Nat) : 0 ≤ (rep9 T X t v l).1 := ite_0 i0_3 i0_0

theorem rep10_0 (T X : zFn) (t : Nat) (v : Int32) (l : Nat) : 0 ≤ (rep10 T X t v l).1 := ite_0 i0_3 i0_0

theorem rep11_0 (T X : zFn) (t : Nat) (v : Int32) (l : Nat) : 0 ≤ (rep11 T X t v l).1 := rke_0 _ _ _ _ _ _

theorem rep12_0 (T X : zFn) (t : Nat) (v : Int32) (l : Nat) : 0 ≤ (rep12 T X t v l).1 := rke_0 _ _ _ _ _ _

theorem rep3_0 (T X : zFn) (t : Nat) (v : Int32) (l : Nat) : 0 ≤ (rep3 T X t v l).1 := ite_0 (ite_0 i0_4 i0_0) i0_2

theorem rep17_0 (T X : zFn) (t : Nat) (v : Int32) (l : Nat) : 0 ≤ (rep17 T X t v l).1 := ite_0 i0_3 i0_0

theorem rec18_0 (T X : zFn) (t k j p : Nat) : 0 ≤ (rec18 T X t k j p).1 := ite_0 i0_4 (recL_0 _ _ _ _ _ _ _)

theorem rec19_0 (T X : zFn) (t k j z p q0 : Nat) : 0 ≤ (rec19 T X t k j z p q0).1 := ite_0 (recL_0 _ _ _ _ _ _ _) (ite_0 (recL_0 _ _ _ _ _ _ _) i0_6)

theorem zstp_0 (X : zFn) (t : Nat) (T : zFn) : 0 ≤ (zstp X t T).1 := ite_0 i0_0 (ite_0 (reo1_0 _ _ _ _) (ite_0 (reo5_0 _ _ _ _) (ite_0 (reo6_0 _ _ _ _ _) (ite_0 (reo7_0 _ _ _ _ _) (ite_0 (reo8_0 _ _ _ _) (ite_0 (reo4_0 _ _ _ _) (ite_0 (reo13_0 _ _ _ _) (ite_0 (reo14_0 _ _ _ _) (ite_0 (reo15_0 _ _ _ _) (ite_0 (reo16_0 _ _ _ _) (ite_0 (rep2_0 _ _ _ _ _) (ite_0 (rep9_0 _ _ _ _ _) (ite_0 (rep10_0 _ _ _ _ _) (ite_0 (rep11_0 _ _ _ _ _) (ite_0 (rep12_0 _ _ _ _ _) (ite_0 (rep3_0 _ _ _ _ _) (ite_0 (rep17_0 _ _ _ _ _) (ite_0 i0_3 (ite_0 (rec18_0 _ _ _ _ _ _) (rec19_0 _ _ _ _ _ _ _ _))))))))))))))))))))

theorem rfo_0 (X : zFn) : ∀ k, 0 ≤ (rfo X k).1
  | 0 => i0_0
  | k + 1 => by
    rw [rfo]
    split
    · split
      · exact i0_0
      · exact zstp_0 _ _ _
    · exact rfo_0 X k
theorem i_pos {x : Int32} (h : 0 ≤ x) (h0 : ¬ x = 0) : ¬ x ≤ 0 := fun h1 => h0 (Int32.le_antisymm h1 h)

