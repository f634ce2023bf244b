/-! BETWEEN THE CALLS: what class and reference have in common; one call keeps it -/
def zQ5 (e : Int32) (V U : zV) (T S X Y : zFn) (nl np nh nk len : Nat) : Prop := zqR V T S nl np nh nk 6 ∧ zIN T S ∧ S 0 2 = -1 ∧ zSZ V ∧ zSZ U ∧ zSQ Y ∧ zqTp Y X len ∧ e = X 0 2
def zINV (μ : zM) (I : zFn) (N : Nat) (xs : Nat → Int32) : Prop := ∃ (n s t : Nat) (V U : zV) (T S A X Y : zFn) (nl np nh nk len : Nat), zI5 μ I N xs n s t V U T S A X Y ∧ zQ5 (I 82 0) V U T S X Y nl np nh nk len
theorem zq_WG {V : zV} {T S : zFn} {nl np nh nk : Nat} (hR : zqR V T S nl np nh nk 6) (hZ : zSZ V) : zWG V nl np nh nk := by
  obtain ⟨b1, b2, b3, b4⟩ := zq_np hR
  obtain ⟨c1, c2, c3, c4⟩ := hR.n0
  refine ⟨⟨c1, b1, c2, b2, c3, b3, c4, b4, fun k hk j hj => hZ k (by omega) j hj⟩, hR.wg.1, fun k hk => ?_⟩
  obtain ⟨n, h1, h2, -⟩ := hR.wg.2 k hk
  exact ⟨n, h1, h2⟩
theorem zQ5.x {e : Int32} {V U : zV} {T S X X' Y : zFn} {nl np nh nk len : Nat} (h : zQ5 e V U T S X Y nl np nh nk len) (h1 : X' 0 1 = X 0 1) (h2 : ∀ a, X' 1 a = X 1 a) (h3 : X' 0 2 = X 0 2) : zQ5 e V U T S X' Y nl np nh nk len := by
  obtain ⟨a, b, c, d, f, g, i, j⟩ := h
  exact ⟨a, b, c, d, f, g, i.up rfl (fun _ => rfl) h1 h2, j.trans h3.symm⟩
theorem zQ5.x0 {e : Int32} {V U : zV} {T S X Y : zFn} {nl np nh nk len : Nat} (h : zQ5 e V U T S X Y nl np nh nk len) (k : Int32) : zQ5 e V U T S (zup X 0 0 k) Y nl np nh nk len := h.x (zup_ne' (by omega)) (fun a => zup_ne' (by omega)) (zup_ne' (by omega))
theorem zQ5.u {e : Int32} {V U U' : zV} {T S X Y : zFn} {nl np nh nk len : Nat} (h : zQ5 e V U T S X Y nl np nh nk len) (hU : zSZ U') : zQ5 e V U' T S X Y nl np nh nk len := by
  obtain ⟨a, b, c, d, f, g, i, j⟩ := h
  exact ⟨a, b, c, d, hU, g, i, j⟩
section ZFI
variable {μ : zM} {I J : zFn} {N : Nat} {xs : Nat → Int32} {n s t : Nat} {V U : zV} {T S A X Y : zFn} {nl np nh nk len : Nat}
theorem zI5.thr (h : zI5 μ I N xs n s t V U T S A X Y) : zden zcds 12 124 [.ref 262] (zwi μ I) = some (0, some (.int (X 0 0)), 0, 0, zwi μ I) := by
  have e := c_thr (d := 11) (X := X) (S := S) (A := A) h.M
  rw [h.eqm] at e
  exact e
theorem zfin0 (h : zI5 μ I N xs n s t V U T S A X Y) (X' S' A' : zFn) (hq : zQ5 (I 82 0) V U T S' X' Y nl np nh nk len) : zINV μ (zfl (zfl (zfl I 262 6 X') 285 22 S') 307 22 A') N xs ∧ zden zcds 12 124 [.ref 262] (zwi μ (zfl (zfl (zfl I 262 6 X') 285 22 S') 307 22 A')) = some (0, some (.int (X' 0 0)), 0, 0, zwi μ (zfl (zfl (zfl I 262 6 X') 285 22 S') 307 22 A')) := by
  have h1 := h.mdl X' S' A'
  refine ⟨⟨_, _, _, _, _, _, _, _, _, _, nl, np, nh, nk, len, h1, ?_⟩, h1.thr⟩
  rw [zfl_o (by omega), zfl_o (by omega), zfl_o (by omega)]
  exact hq
theorem zI5.tg8 (h : zI5 μ I N xs n s t V U T S A X Y) : ztg μ 262 = 8 := zFS.tag h.M.1.1 (j := 0) (by decide) rfl
end ZFI

set_option maxRecDepth 20000 in
theorem st_322 {μ : zM} {I : zFn} {N : Nat} {xs : Nat → Int32} {n s t : Nat} {V U : zV} {T S A X Y : zFn} {nl np nh nk len : Nat} {i c sl : Nat} {Q : zR → Prop} (h : zI5 μ I N xs n s t V U T S A X Y) (hq : zQ5 (I 82 0) V U T S X Y nl np nh nk len) (hi : i + 6 ≤ N) (hk : ∀ (μ2 : zM) (I2 : zFn) (c2 s2 : Nat), zINV μ2 I2 N xs → c2 ≤ 400 → s2 ≤ 4000 → zP Q (zden1 12 (zden zcds 12) zc232 (23, [(4, .int (nI (i + 6))), (3, .ref 329), (2, .ref 262), (1, .ref 82), (0, .ref 81)], [], c + c2, sl + s2, zwi μ2 I2))) : zP Q (zden1 12 (zden zcds 12) zc232 (322, [(4, .int (nI i)), (3, .ref 329), (2, .ref 262), (1, .ref 82), (0, .ref 81)], [], c, sl, zwi μ I)) := by
  have hq0 := hq
  obtain ⟨hR, hIN, hS2, hZV, hZU, hSQ, hTp, hE⟩ := hq
  have hG := zq_WG hR hZV
  have hN : zTN T nl np nh nk := hR.1.1
  obtain ⟨b1, b2, b3, b4⟩ := zq_np hR
  have htl : Y 0 0 = (zup X 0 0 0) 0 1 := by rw [zup_ne' (by omega), hTp.1, hTp.2.1]
  rcases zq_cou hR htl (xs (i + 1)) with ⟨h0, ha⟩ | ⟨h0, ha⟩
  · have e2 : mco X S T np nk (xs (i + 1)) = (0, zup (zup X 0 0 0) 0 0 1) := by
      unfold mco
      dsimp only
      rw [if_pos h0]
    have hc : zden zcds 11 5 [.ref 82, .int (xs (i + 1))] (zwi μ I) = some (0 + 1, none, 1, 6, zwi μ I) := by
      have e := c_cou (d := 3) (J := I) (V := V) (U := U) h.L hG.1 (x := (xs (i + 1))) (h.hQ 0 0 (by decide))
      rw [h.eqc, ha] at e
      exact e
    have hw := w211_ex (o := 329) h.L.2.1 (z := 1) hc rfl
    have hm : zden zcds 12 161 [.ref 262, .int (xs (i + 1))] (zwi μ I) = some (0, some (.int (0)), 0, 0, zwi μ (zfl (zfl (zfl I 262 6 (zup (zup X 0 0 0) 0 0 1)) 285 22 (S)) 307 22 (A))) := by
      have e := c_mco (d := 3) (J := I) (X := X) (S := S) (A := A) h.M hN hIN (v := (xs (i + 1)))
      rw [h.eqm, e2] at e
      exact e
    have hf := zfin0 h (zup (zup X 0 0 0) 0 0 1) S A ((hq0.x0 0).x0 1)
    have ht := hf.2
    rw [show (zup (zup X 0 0 0) 0 0 1) 0 0 = Int32.ofNat 1 from zup_same _ _ _ _] at ht
    exact zP.im (fun z hz => lawc_322 hi h.SP h.SP h.L.2.1 h.tg8 h.tg8 hw hm ht (fun hk0 => absurd hk0 (by decide)) hz) (hk _ _ 1 6 hf.1 (by decide) (by decide))
  · have e2 : mco X S T np nk (xs (i + 1)) = (mcd (zup X 0 0 0) S T np nk (xs (i + 1)), zup X 0 0 0) := by
      unfold mco
      dsimp only
      rw [if_neg h0]
    have hc : zden zcds 11 5 [.ref 82, .int (xs (i + 1))] (zwi μ I) = some (0, some (.int (mcd (zup X 0 0 0) S T np nk (xs (i + 1)))), 0, 0, zwi μ I) := by
      have e := c_cou (d := 3) (J := I) (V := V) (U := U) h.L hG.1 (x := (xs (i + 1))) (h.hQ 0 0 (by decide))
      rw [h.eqc, ha] at e
      exact e
    have h1 := h
    obtain ⟨h2, hg⟩ := h1.put (mcd (zup X 0 0 0) S T np nk (xs (i + 1))).toInt64
    have hw := w211_ok (o := 329) h.L.2.1 ⟨h1.out.1, h1.out.2, (by decide)⟩ hc
    have hm : zden zcds 12 161 [.ref 262, .int (xs (i + 1))] (zwi (zsl μ 329 0 (mcd (zup X 0 0 0) S T np nk (xs (i + 1))).toInt64) I) = some (0, some (.int (mcd (zup X 0 0 0) S T np nk (xs (i + 1)))), 0, 0, zwi (zsl μ 329 0 (mcd (zup X 0 0 0) S T np nk (xs (i + 1))).toInt64) (zfl (zfl (zfl I 262 6 (zup X 0 0 0)) 285 22 (S)) 307 22 (A))) := by
      have e := c_mco (d := 3) (J := I) (X := X) (S := S) (A := A) h2.M hN hIN (v := (xs (i + 1)))
      rw [h2.eqm, e2] at e
      exact e
    have hf := zfin0 h2 (zup X 0 0 0) (S) (A) (nl := nl) (np := np) (nh := nh) (nk := nk) (len := len) (by
      exact hq0.x0 0)
    have ht := hf.2
    rw [show (zup X 0 0 0) 0 0 = 0 from zup_same _ _ _ _] at ht
    exact zP.im (fun z hz => lawc_322 hi h.SP h2.SP h.L.2.1 h2.tg8 h2.tg8 hw hm ht (fun _ => ⟨h2.out.1, h2.out.2, hg⟩) hz) (hk _ _ 0 0 hf.1 (by decide) (by decide))

