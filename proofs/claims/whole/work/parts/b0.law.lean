/-! THE LAW'S OWN CODE: a call inside a table of handlers; its fifteen small methods; its twenty cases -/
section ZB0
variable {d : Nat} {call : Nat → List Value → zM → Option zR} {cd : List zRI} {pc : Nat} {L : zL} {st : List Value} {c sl len a b : Nat} {k : Int} {ext : List Nat} {μ : zM}
theorem ys37 (pc' : Nat) {vs args : List Value} {v : Value} {c1 s1 : Nat} {μ1 : zM} (hf : zfetch cd pc = (37, len, a, b, k, ext)) (hk : vs.length = k.toNat) (ha : vs.reverse = args) (hs : (st.map fun v => v.category).sum ≤ 8) (h9 : ext.getD 5 99 ≠ 99) (ht : zhd μ args = ext.getD 5 99) (hp : pc + 3 = pc') (h : call a args μ = some (0, some v, c1, s1, μ1)) :
    zden1 d call cd (pc, L, vs ++ st, c, sl, μ) = zden1 d call cd (pc', L, v :: st, c + c1, sl + s1, μ1) := by
  subst hp
  refine ys_of hf ?_
  show zo37 call a k.toNat (ext.getD 5 99) (ext.drop 6) (pc, L, vs ++ st, c, sl, μ) = _
  unfold zo37
  dsimp only
  rw [← hk, List.drop_left, List.take_left, ha, if_pos ⟨by simp, hs, h9, ht⟩, h]
  rfl
theorem ys37x {vs args : List Value} {v : Option Value} {c1 s1 E z : Nat} {μ1 : zM} (hf : zfetch cd pc = (37, len, a, b, k, ext)) (hk : vs.length = k.toNat) (ha : vs.reverse = args) (hs : (st.map fun v => v.category).sum ≤ 8) (h9 : ext.getD 5 99 ≠ 99) (ht : zhd μ args = ext.getD 5 99) (h : call a args μ = some (E + 1, v, c1, s1, μ1)) (hx : zhx (ext.drop 6) (E + 1) = some z) :
    zden1 d call cd (pc, L, vs ++ st, c, sl, μ) = some (0, some (.int (Int32.ofNat z)), c + c1, sl + s1, μ1) := by
  refine ys_end hf ?_
  show zo37 call a k.toNat (ext.getD 5 99) (ext.drop 6) (pc, L, vs ++ st, c, sl, μ) = _
  unfold zo37
  dsimp only
  rw [← hk, List.drop_left, List.take_left, ha, if_pos ⟨by simp, hs, h9, ht⟩, h]
  dsimp only
  rw [hx]
end ZB0
theorem lcmp_same (x : Int64) : lg_cmp x x = 0 := by unfold lg_cmp; simp

theorem w209_ok {μ μ1 : zM} {I I1 : zFn} {x o : Nat} {p0 p1 p2 p3 p4 v : Int32} (hx : ztg μ x = 0) (ho : ztg μ1 o = 22 ∧ znl μ1 o = 1 ∧ zK0 ≤ o) (hc : zden zcds 11 1 [.ref (x), .int (p0), .int (p1), .int (p2), .int (p3), .int (p4)] (zwi μ I) = some (0, some (.int v), 0, 0, zwi μ1 I1)) : zden zcds 12 209 [.ref (x), .int (p0), .int (p1), .int (p2), .int (p3), .int (p4), .ref (o)] (zwi μ I) = some (0, some (.int 0), 0, 0, zwi (zsl μ1 o 0 v.toInt64) I1) := by
  refine (zd_in (d := 11) (cd := zc209) (nL := 8) (L := [(0, .ref (x)), (1, .int (p0)), (2, .int (p1)), (3, .int (p2)), (4, .int (p3)), (5, .int (p4)), (6, .ref (o))]) rfl (Nat.le_of_ble_eq_true rfl) rfl).trans ?_
  refine (ys4 2 (v := .ref (o)) rfl rfl rfl rfl).trans ?_
  refine (ys1 3 (x := 0) rfl rfl rfl).trans ?_
  refine (ys4 4 (v := .ref (x)) rfl rfl rfl rfl).trans ?_
  refine (ys4 5 (v := .int (p0)) rfl rfl rfl rfl).trans ?_
  refine (ys4 6 (v := .int (p1)) rfl rfl rfl rfl).trans ?_
  refine (ys4 7 (v := .int (p2)) rfl rfl rfl rfl).trans ?_
  refine (ys4 9 (v := .int (p3)) rfl rfl rfl rfl).trans ?_
  refine (ys4 11 (v := .int (p4)) rfl rfl rfl rfl).trans ?_
  refine (ys37 14 (vs := [.int (p4), .int (p3), .int (p2), .int (p1), .int (p0), .ref (x)]) rfl rfl rfl (Nat.le_of_ble_eq_true rfl) (by decide) (show ztg (zwi _ _) _ = _ by rw [ztg_wi]; exact hx) rfl hc).trans ?_
  refine (ys10 15 rfl rfl).trans ?_
  refine (ys27l 16 (x := v.toInt64) rfl ho.1 ho.2.2 (by decide) (by rw [ho.2.1]; decide) rfl).trans ?_
  refine (ys19 rfl).trans ?_
  refine (ys1 24 (x := 0) rfl rfl rfl).trans ?_
  refine (ys36 rfl (by decide)).trans ?_
  rfl

theorem w209_ex {μ μ1 : zM} {I I1 : zFn} {x o : Nat} {p0 p1 p2 p3 p4 : Int32} (hx : ztg μ x = 0) {E z : Nat} (hc : zden zcds 11 1 [.ref (x), .int (p0), .int (p1), .int (p2), .int (p3), .int (p4)] (zwi μ I) = some (E + 1, none, 1, 6, zwi μ1 I1)) (hz : zhx [2, 1, 19, 2, 7] (E + 1) = some z) : zden zcds 12 209 [.ref (x), .int (p0), .int (p1), .int (p2), .int (p3), .int (p4), .ref (o)] (zwi μ I) = some (0, some (.int (Int32.ofNat z)), 1, 6, zwi μ1 I1) := by
  refine (zd_in (d := 11) (cd := zc209) (nL := 8) (L := [(0, .ref (x)), (1, .int (p0)), (2, .int (p1)), (3, .int (p2)), (4, .int (p3)), (5, .int (p4)), (6, .ref (o))]) rfl (Nat.le_of_ble_eq_true rfl) rfl).trans ?_
  refine (ys4 2 (v := .ref (o)) rfl rfl rfl rfl).trans ?_
  refine (ys1 3 (x := 0) rfl rfl rfl).trans ?_
  refine (ys4 4 (v := .ref (x)) rfl rfl rfl rfl).trans ?_
  refine (ys4 5 (v := .int (p0)) rfl rfl rfl rfl).trans ?_
  refine (ys4 6 (v := .int (p1)) rfl rfl rfl rfl).trans ?_
  refine (ys4 7 (v := .int (p2)) rfl rfl rfl rfl).trans ?_
  refine (ys4 9 (v := .int (p3)) rfl rfl rfl rfl).trans ?_
  refine (ys4 11 (v := .int (p4)) rfl rfl rfl rfl).trans ?_
  refine (ys37x (vs := [.int (p4), .int (p3), .int (p2), .int (p1), .int (p0), .ref (x)]) rfl rfl rfl (Nat.le_of_ble_eq_true rfl) (by decide) (show ztg (zwi _ _) _ = _ by rw [ztg_wi]; exact hx) hc (z := z) (by exact hz)).trans ?_
  rfl

theorem w210_ok {μ μ1 : zM} {I I1 : zFn} {x o : Nat} {p0 v : Int32} (hx : ztg μ x = 0) (ho : ztg μ1 o = 22 ∧ znl μ1 o = 1 ∧ zK0 ≤ o) (hc : zden zcds 11 2 [.ref (x), .int (p0)] (zwi μ I) = some (0, some (.int v), 0, 0, zwi μ1 I1)) : zden zcds 12 210 [.ref (x), .int (p0), .ref (o)] (zwi μ I) = some (0, some (.int 0), 0, 0, zwi (zsl μ1 o 0 v.toInt64) I1) := by
  refine (zd_in (d := 11) (cd := zc210) (nL := 4) (L := [(0, .ref (x)), (1, .int (p0)), (2, .ref (o))]) rfl (Nat.le_of_ble_eq_true rfl) rfl).trans ?_
  refine (ys4 1 (v := .ref (o)) rfl rfl rfl rfl).trans ?_
  refine (ys1 2 (x := 0) rfl rfl rfl).trans ?_
  refine (ys4 3 (v := .ref (x)) rfl rfl rfl rfl).trans ?_
  refine (ys4 4 (v := .int (p0)) rfl rfl rfl rfl).trans ?_
  refine (ys37 7 (vs := [.int (p0), .ref (x)]) rfl rfl rfl (Nat.le_of_ble_eq_true rfl) (by decide) (show ztg (zwi _ _) _ = _ by rw [ztg_wi]; exact hx) rfl hc).trans ?_
  refine (ys10 8 rfl rfl).trans ?_
  refine (ys27l 9 (x := v.toInt64) rfl ho.1 ho.2.2 (by decide) (by rw [ho.2.1]; decide) rfl).trans ?_
  refine (ys19 rfl).trans ?_
  refine (ys1 16 (x := 0) rfl rfl rfl).trans ?_
  refine (ys36 rfl (by decide)).trans ?_
  rfl

theorem w210_ex {μ μ1 : zM} {I I1 : zFn} {x o : Nat} {p0 : Int32} (hx : ztg μ x = 0) {E z : Nat} (hc : zden zcds 11 2 [.ref (x), .int (p0)] (zwi μ I) = some (E + 1, none, 1, 6, zwi μ1 I1)) (hz : zhx [3, 1, 12, 1, 3] (E + 1) = some z) : zden zcds 12 210 [.ref (x), .int (p0), .ref (o)] (zwi μ I) = some (0, some (.int (Int32.ofNat z)), 1, 6, zwi μ1 I1) := by
  refine (zd_in (d := 11) (cd := zc210) (nL := 4) (L := [(0, .ref (x)), (1, .int (p0)), (2, .ref (o))]) rfl (Nat.le_of_ble_eq_true rfl) rfl).trans ?_
  refine (ys4 1 (v := .ref (o)) rfl rfl rfl rfl).trans ?_
  refine (ys1 2 (x := 0) rfl rfl rfl).trans ?_
  refine (ys4 3 (v := .ref (x)) rfl rfl rfl rfl).trans ?_
  refine (ys4 4 (v := .int (p0)) rfl rfl rfl rfl).trans ?_
  refine (ys37x (vs := [.int (p0), .ref (x)]) rfl rfl rfl (Nat.le_of_ble_eq_true rfl) (by decide) (show ztg (zwi _ _) _ = _ by rw [ztg_wi]; exact hx) hc (z := z) (by exact hz)).trans ?_
  rfl

theorem w211_ok {μ μ1 : zM} {I I1 : zFn} {x o : Nat} {p0 v : Int32} (hx : ztg μ x = 0) (ho : ztg μ1 o = 22 ∧ znl μ1 o = 1 ∧ zK0 ≤ o) (hc : zden zcds 11 5 [.ref (x), .int (p0)] (zwi μ I) = some (0, some (.int v), 0, 0, zwi μ1 I1)) : zden zcds 12 211 [.ref (x), .int (p0), .ref (o)] (zwi μ I) = some (0, some (.int 0), 0, 0, zwi (zsl μ1 o 0 v.toInt64) I1) := by
  refine (zd_in (d := 11) (cd := zc211) (nL := 4) (L := [(0, .ref (x)), (1, .int (p0)), (2, .ref (o))]) rfl (Nat.le_of_ble_eq_true rfl) rfl).trans ?_
  refine (ys4 1 (v := .ref (o)) rfl rfl rfl rfl).trans ?_
  refine (ys1 2 (x := 0) rfl rfl rfl).trans ?_
  refine (ys4 3 (v := .ref (x)) rfl rfl rfl rfl).trans ?_
  refine (ys4 4 (v := .int (p0)) rfl rfl rfl rfl).trans ?_
  refine (ys37 7 (vs := [.int (p0), .ref (x)]) rfl rfl rfl (Nat.le_of_ble_eq_true rfl) (by decide) (show ztg (zwi _ _) _ = _ by rw [ztg_wi]; exact hx) rfl hc).trans ?_
  refine (ys10 8 rfl rfl).trans ?_
  refine (ys27l 9 (x := v.toInt64) rfl ho.1 ho.2.2 (by decide) (by rw [ho.2.1]; decide) rfl).trans ?_
  refine (ys19 rfl).trans ?_
  refine (ys1 16 (x := 0) rfl rfl rfl).trans ?_
  refine (ys36 rfl (by decide)).trans ?_
  rfl

theorem w211_ex {μ μ1 : zM} {I I1 : zFn} {x o : Nat} {p0 : Int32} (hx : ztg μ x = 0) {E z : Nat} (hc : zden zcds 11 5 [.ref (x), .int (p0)] (zwi μ I) = some (E + 1, none, 1, 6, zwi μ1 I1)) (hz : zhx [1, 1, 12, 1, 3] (E + 1) = some z) : zden zcds 12 211 [.ref (x), .int (p0), .ref (o)] (zwi μ I) = some (0, some (.int (Int32.ofNat z)), 1, 6, zwi μ1 I1) := by
  refine (zd_in (d := 11) (cd := zc211) (nL := 4) (L := [(0, .ref (x)), (1, .int (p0)), (2, .ref (o))]) rfl (Nat.le_of_ble_eq_true rfl) rfl).trans ?_
  refine (ys4 1 (v := .ref (o)) rfl rfl rfl rfl).trans ?_
  refine (ys1 2 (x := 0) rfl rfl rfl).trans ?_
  refine (ys4 3 (v := .ref (x)) rfl rfl rfl rfl).trans ?_
  refine (ys4 4 (v := .int (p0)) rfl rfl rfl rfl).trans ?_
  refine (ys37x (vs := [.int (p0), .ref (x)]) rfl rfl rfl (Nat.le_of_ble_eq_true rfl) (by decide) (show ztg (zwi _ _) _ = _ by rw [ztg_wi]; exact hx) hc (z := z) (by exact hz)).trans ?_
  rfl

theorem w212_ok {μ μ1 : zM} {I I1 : zFn} {x o : Nat} {p0 p1 v : Int32} (hx : ztg μ x = 0) (ho : ztg μ1 o = 22 ∧ znl μ1 o = 1 ∧ zK0 ≤ o) (hc : zden zcds 11 6 [.ref (x), .int (p0), .int (p1)] (zwi μ I) = some (0, some (.int v), 0, 0, zwi μ1 I1)) : zden zcds 12 212 [.ref (x), .int (p0), .int (p1), .ref (o)] (zwi μ I) = some (0, some (.int 0), 0, 0, zwi (zsl μ1 o 0 v.toInt64) I1) := by
  refine (zd_in (d := 11) (cd := zc212) (nL := 5) (L := [(0, .ref (x)), (1, .int (p0)), (2, .int (p1)), (3, .ref (o))]) rfl (Nat.le_of_ble_eq_true rfl) rfl).trans ?_
  refine (ys4 1 (v := .ref (o)) rfl rfl rfl rfl).trans ?_
  refine (ys1 2 (x := 0) rfl rfl rfl).trans ?_
  refine (ys4 3 (v := .ref (x)) rfl rfl rfl rfl).trans ?_
  refine (ys4 4 (v := .int (p0)) rfl rfl rfl rfl).trans ?_
  refine (ys4 5 (v := .int (p1)) rfl rfl rfl rfl).trans ?_
  refine (ys37 8 (vs := [.int (p1), .int (p0), .ref (x)]) rfl rfl rfl (Nat.le_of_ble_eq_true rfl) (by decide) (show ztg (zwi _ _) _ = _ by rw [ztg_wi]; exact hx) rfl hc).trans ?_
  refine (ys10 9 rfl rfl).trans ?_
  refine (ys27l 10 (x := v.toInt64) rfl ho.1 ho.2.2 (by decide) (by rw [ho.2.1]; decide) rfl).trans ?_
  refine (ys19 rfl).trans ?_
  refine (ys1 18 (x := 0) rfl rfl rfl).trans ?_
  refine (ys36 rfl (by decide)).trans ?_
  rfl

theorem w212_ex {μ μ1 : zM} {I I1 : zFn} {x o : Nat} {p0 p1 : Int32} (hx : ztg μ x = 0) {E z : Nat} (hc : zden zcds 11 6 [.ref (x), .int (p0), .int (p1)] (zwi μ I) = some (E + 1, none, 1, 6, zwi μ1 I1)) (hz : zhx [1, 1, 13, 2, 4] (E + 1) = some z) : zden zcds 12 212 [.ref (x), .int (p0), .int (p1), .ref (o)] (zwi μ I) = some (0, some (.int (Int32.ofNat z)), 1, 6, zwi μ1 I1) := by
  refine (zd_in (d := 11) (cd := zc212) (nL := 5) (L := [(0, .ref (x)), (1, .int (p0)), (2, .int (p1)), (3, .ref (o))]) rfl (Nat.le_of_ble_eq_true rfl) rfl).trans ?_
  refine (ys4 1 (v := .ref (o)) rfl rfl rfl rfl).trans ?_
  refine (ys1 2 (x := 0) rfl rfl rfl).trans ?_
  refine (ys4 3 (v := .ref (x)) rfl rfl rfl rfl).trans ?_
  refine (ys4 4 (v := .int (p0)) rfl rfl rfl rfl).trans ?_
  refine (ys4 5 (v := .int (p1)) rfl rfl rfl rfl).trans ?_
  refine (ys37x (vs := [.int (p1), .int (p0), .ref (x)]) rfl rfl rfl (Nat.le_of_ble_eq_true rfl) (by decide) (show ztg (zwi _ _) _ = _ by rw [ztg_wi]; exact hx) hc (z := z) (by exact hz)).trans ?_
  rfl

theorem w213_ok {μ μ1 : zM} {I I1 : zFn} {x o : Nat} {p0 p1 v : Int32} (hx : ztg μ x = 0) (ho : ztg μ1 o = 22 ∧ znl μ1 o = 1 ∧ zK0 ≤ o) (hc : zden zcds 11 7 [.ref (x), .int (p0), .int (p1)] (zwi μ I) = some (0, some (.int v), 0, 0, zwi μ1 I1)) : zden zcds 12 213 [.ref (x), .int (p0), .int (p1), .ref (o)] (zwi μ I) = some (0, some (.int 0), 0, 0, zwi (zsl μ1 o 0 v.toInt64) I1) := by
  refine (zd_in (d := 11) (cd := zc213) (nL := 5) (L := [(0, .ref (x)), (1, .int (p0)), (2, .int (p1)), (3, .ref (o))]) rfl (Nat.le_of_ble_eq_true rfl) rfl).trans ?_
  refine (ys4 1 (v := .ref (o)) rfl rfl rfl rfl).trans ?_
  refine (ys1 2 (x := 0) rfl rfl rfl).trans ?_
  refine (ys4 3 (v := .ref (x)) rfl rfl rfl rfl).trans ?_
  refine (ys4 4 (v := .int (p0)) rfl rfl rfl rfl).trans ?_
  refine (ys4 5 (v := .int (p1)) rfl rfl rfl rfl).trans ?_
  refine (ys37 8 (vs := [.int (p1), .int (p0), .ref (x)]) rfl rfl rfl (Nat.le_of_ble_eq_true rfl) (by decide) (show ztg (zwi _ _) _ = _ by rw [ztg_wi]; exact hx) rfl hc).trans ?_
  refine (ys10 9 rfl rfl).trans ?_
  refine (ys27l 10 (x := v.toInt64) rfl ho.1 ho.2.2 (by decide) (by rw [ho.2.1]; decide) rfl).trans ?_
  refine (ys19 rfl).trans ?_
  refine (ys1 18 (x := 0) rfl rfl rfl).trans ?_
  refine (ys36 rfl (by decide)).trans ?_
  rfl

theorem w213_ex {μ μ1 : zM} {I I1 : zFn} {x o : Nat} {p0 p1 : Int32} (hx : ztg μ x = 0) {E z : Nat} (hc : zden zcds 11 7 [.ref (x), .int (p0), .int (p1)] (zwi μ I) = some (E + 1, none, 1, 6, zwi μ1 I1)) (hz : zhx [1, 1, 13, 2, 4] (E + 1) = some z) : zden zcds 12 213 [.ref (x), .int (p0), .int (p1), .ref (o)] (zwi μ I) = some (0, some (.int (Int32.ofNat z)), 1, 6, zwi μ1 I1) := by
  refine (zd_in (d := 11) (cd := zc213) (nL := 5) (L := [(0, .ref (x)), (1, .int (p0)), (2, .int (p1)), (3, .ref (o))]) rfl (Nat.le_of_ble_eq_true rfl) rfl).trans ?_
  refine (ys4 1 (v := .ref (o)) rfl rfl rfl rfl).trans ?_
  refine (ys1 2 (x := 0) rfl rfl rfl).trans ?_
  refine (ys4 3 (v := .ref (x)) rfl rfl rfl rfl).trans ?_
  refine (ys4 4 (v := .int (p0)) rfl rfl rfl rfl).trans ?_
  refine (ys4 5 (v := .int (p1)) rfl rfl rfl rfl).trans ?_
  refine (ys37x (vs := [.int (p1), .int (p0), .ref (x)]) rfl rfl rfl (Nat.le_of_ble_eq_true rfl) (by decide) (show ztg (zwi _ _) _ = _ by rw [ztg_wi]; exact hx) hc (z := z) (by exact hz)).trans ?_
  rfl

theorem w214_ok {μ μ1 : zM} {I I1 : zFn} {x o : Nat} {p0 p1 v : Int32} (hx : ztg μ x = 0) (ho : ztg μ1 o = 22 ∧ znl μ1 o = 1 ∧ zK0 ≤ o) (hc : zden zcds 11 8 [.ref (x), .int (p0), .int (p1)] (zwi μ I) = some (0, some (.int v), 0, 0, zwi μ1 I1)) : zden zcds 12 214 [.ref (x), .int (p0), .int (p1), .ref (o)] (zwi μ I) = some (0, some (.int 0), 0, 0, zwi (zsl μ1 o 0 v.toInt64) I1) := by
  refine (zd_in (d := 11) (cd := zc214) (nL := 5) (L := [(0, .ref (x)), (1, .int (p0)), (2, .int (p1)), (3, .ref (o))]) rfl (Nat.le_of_ble_eq_true rfl) rfl).trans ?_
  refine (ys4 1 (v := .ref (o)) rfl rfl rfl rfl).trans ?_
  refine (ys1 2 (x := 0) rfl rfl rfl).trans ?_
  refine (ys4 3 (v := .ref (x)) rfl rfl rfl rfl).trans ?_
  refine (ys4 4 (v := .int (p0)) rfl rfl rfl rfl).trans ?_
  refine (ys4 5 (v := .int (p1)) rfl rfl rfl rfl).trans ?_
  refine (ys37 8 (vs := [.int (p1), .int (p0), .ref (x)]) rfl rfl rfl (Nat.le_of_ble_eq_true rfl) (by decide) (show ztg (zwi _ _) _ = _ by rw [ztg_wi]; exact hx) rfl hc).trans ?_
  refine (ys10 9 rfl rfl).trans ?_
  refine (ys27l 10 (x := v.toInt64) rfl ho.1 ho.2.2 (by decide) (by rw [ho.2.1]; decide) rfl).trans ?_
  refine (ys19 rfl).trans ?_
  refine (ys1 18 (x := 0) rfl rfl rfl).trans ?_
  refine (ys36 rfl (by decide)).trans ?_
  rfl

theorem w214_ex {μ μ1 : zM} {I I1 : zFn} {x o : Nat} {p0 p1 : Int32} (hx : ztg μ x = 0) {E z : Nat} (hc : zden zcds 11 8 [.ref (x), .int (p0), .int (p1)] (zwi μ I) = some (E + 1, none, 1, 6, zwi μ1 I1)) (hz : zhx [1, 1, 13, 2, 4] (E + 1) = some z) : zden zcds 12 214 [.ref (x), .int (p0), .int (p1), .ref (o)] (zwi μ I) = some (0, some (.int (Int32.ofNat z)), 1, 6, zwi μ1 I1) := by
  refine (zd_in (d := 11) (cd := zc214) (nL := 5) (L := [(0, .ref (x)), (1, .int (p0)), (2, .int (p1)), (3, .ref (o))]) rfl (Nat.le_of_ble_eq_true rfl) rfl).trans ?_
  refine (ys4 1 (v := .ref (o)) rfl rfl rfl rfl).trans ?_
  refine (ys1 2 (x := 0) rfl rfl rfl).trans ?_
  refine (ys4 3 (v := .ref (x)) rfl rfl rfl rfl).trans ?_
  refine (ys4 4 (v := .int (p0)) rfl rfl rfl rfl).trans ?_
  refine (ys4 5 (v := .int (p1)) rfl rfl rfl rfl).trans ?_
  refine (ys37x (vs := [.int (p1), .int (p0), .ref (x)]) rfl rfl rfl (Nat.le_of_ble_eq_true rfl) (by decide) (show ztg (zwi _ _) _ = _ by rw [ztg_wi]; exact hx) hc (z := z) (by exact hz)).trans ?_
  rfl

theorem w215_ok {μ μ1 : zM} {I I1 : zFn} {x o : Nat} {p0 p1 v : Int32} (hx : ztg μ x = 0) (ho : ztg μ1 o = 22 ∧ znl μ1 o = 1 ∧ zK0 ≤ o) (hc : zden zcds 11 9 [.ref (x), .int (p0), .int (p1)] (zwi μ I) = some (0, some (.int v), 0, 0, zwi μ1 I1)) : zden zcds 12 215 [.ref (x), .int (p0), .int (p1), .ref (o)] (zwi μ I) = some (0, some (.int 0), 0, 0, zwi (zsl μ1 o 0 v.toInt64) I1) := by
  refine (zd_in (d := 11) (cd := zc215) (nL := 5) (L := [(0, .ref (x)), (1, .int (p0)), (2, .int (p1)), (3, .ref (o))]) rfl (Nat.le_of_ble_eq_true rfl) rfl).trans ?_
  refine (ys4 1 (v := .ref (o)) rfl rfl rfl rfl).trans ?_
  refine (ys1 2 (x := 0) rfl rfl rfl).trans ?_
  refine (ys4 3 (v := .ref (x)) rfl rfl rfl rfl).trans ?_
  refine (ys4 4 (v := .int (p0)) rfl rfl rfl rfl).trans ?_
  refine (ys4 5 (v := .int (p1)) rfl rfl rfl rfl).trans ?_
  refine (ys37 8 (vs := [.int (p1), .int (p0), .ref (x)]) rfl rfl rfl (Nat.le_of_ble_eq_true rfl) (by decide) (show ztg (zwi _ _) _ = _ by rw [ztg_wi]; exact hx) rfl hc).trans ?_
  refine (ys10 9 rfl rfl).trans ?_
  refine (ys27l 10 (x := v.toInt64) rfl ho.1 ho.2.2 (by decide) (by rw [ho.2.1]; decide) rfl).trans ?_
  refine (ys19 rfl).trans ?_
  refine (ys1 18 (x := 0) rfl rfl rfl).trans ?_
  refine (ys36 rfl (by decide)).trans ?_
  rfl

theorem w215_ex {μ μ1 : zM} {I I1 : zFn} {x o : Nat} {p0 p1 : Int32} (hx : ztg μ x = 0) {E z : Nat} (hc : zden zcds 11 9 [.ref (x), .int (p0), .int (p1)] (zwi μ I) = some (E + 1, none, 1, 6, zwi μ1 I1)) (hz : zhx [1, 1, 13, 2, 4] (E + 1) = some z) : zden zcds 12 215 [.ref (x), .int (p0), .int (p1), .ref (o)] (zwi μ I) = some (0, some (.int (Int32.ofNat z)), 1, 6, zwi μ1 I1) := by
  refine (zd_in (d := 11) (cd := zc215) (nL := 5) (L := [(0, .ref (x)), (1, .int (p0)), (2, .int (p1)), (3, .ref (o))]) rfl (Nat.le_of_ble_eq_true rfl) rfl).trans ?_
  refine (ys4 1 (v := .ref (o)) rfl rfl rfl rfl).trans ?_
  refine (ys1 2 (x := 0) rfl rfl rfl).trans ?_
  refine (ys4 3 (v := .ref (x)) rfl rfl rfl rfl).trans ?_
  refine (ys4 4 (v := .int (p0)) rfl rfl rfl rfl).trans ?_
  refine (ys4 5 (v := .int (p1)) rfl rfl rfl rfl).trans ?_
  refine (ys37x (vs := [.int (p1), .int (p0), .ref (x)]) rfl rfl rfl (Nat.le_of_ble_eq_true rfl) (by decide) (show ztg (zwi _ _) _ = _ by rw [ztg_wi]; exact hx) hc (z := z) (by exact hz)).trans ?_
  rfl

theorem w216_ok {μ μ1 : zM} {I I1 : zFn} {x o : Nat} {p0 p1 v : Int32} (hx : ztg μ x = 0) (ho : ztg μ1 o = 22 ∧ znl μ1 o = 1 ∧ zK0 ≤ o) (hc : zden zcds 11 10 [.ref (x), .int (p0), .int (p1)] (zwi μ I) = some (0, some (.int v), 0, 0, zwi μ1 I1)) : zden zcds 12 216 [.ref (x), .int (p0), .int (p1), .ref (o)] (zwi μ I) = some (0, some (.int 0), 0, 0, zwi (zsl μ1 o 0 v.toInt64) I1) := by
  refine (zd_in (d := 11) (cd := zc216) (nL := 5) (L := [(0, .ref (x)), (1, .int (p0)), (2, .int (p1)), (3, .ref (o))]) rfl (Nat.le_of_ble_eq_true rfl) rfl).trans ?_
  refine (ys4 1 (v := .ref (o)) rfl rfl rfl rfl).trans ?_
  refine (ys1 2 (x := 0) rfl rfl rfl).trans ?_
  refine (ys4 3 (v := .ref (x)) rfl rfl rfl rfl).trans ?_
  refine (ys4 4 (v := .int (p0)) rfl rfl rfl rfl).trans ?_
  refine (ys4 5 (v := .int (p1)) rfl rfl rfl rfl).trans ?_
  refine (ys37 8 (vs := [.int (p1), .int (p0), .ref (x)]) rfl rfl rfl (Nat.le_of_ble_eq_true rfl) (by decide) (show ztg (zwi _ _) _ = _ by rw [ztg_wi]; exact hx) rfl hc).trans ?_
  refine (ys10 9 rfl rfl).trans ?_
  refine (ys27l 10 (x := v.toInt64) rfl ho.1 ho.2.2 (by decide) (by rw [ho.2.1]; decide) rfl).trans ?_
  refine (ys19 rfl).trans ?_
  refine (ys1 22 (x := 0) rfl rfl rfl).trans ?_
  refine (ys36 rfl (by decide)).trans ?_
  rfl

theorem w216_ex {μ μ1 : zM} {I I1 : zFn} {x o : Nat} {p0 p1 : Int32} (hx : ztg μ x = 0) {E z : Nat} (hc : zden zcds 11 10 [.ref (x), .int (p0), .int (p1)] (zwi μ I) = some (E + 1, none, 1, 6, zwi μ1 I1)) (hz : zhx [1, 1, 13, 2, 4, 2, 2, 17, 2, 4] (E + 1) = some z) : zden zcds 12 216 [.ref (x), .int (p0), .int (p1), .ref (o)] (zwi μ I) = some (0, some (.int (Int32.ofNat z)), 1, 6, zwi μ1 I1) := by
  refine (zd_in (d := 11) (cd := zc216) (nL := 5) (L := [(0, .ref (x)), (1, .int (p0)), (2, .int (p1)), (3, .ref (o))]) rfl (Nat.le_of_ble_eq_true rfl) rfl).trans ?_
  refine (ys4 1 (v := .ref (o)) rfl rfl rfl rfl).trans ?_
  refine (ys1 2 (x := 0) rfl rfl rfl).trans ?_
  refine (ys4 3 (v := .ref (x)) rfl rfl rfl rfl).trans ?_
  refine (ys4 4 (v := .int (p0)) rfl rfl rfl rfl).trans ?_
  refine (ys4 5 (v := .int (p1)) rfl rfl rfl rfl).trans ?_
  refine (ys37x (vs := [.int (p1), .int (p0), .ref (x)]) rfl rfl rfl (Nat.le_of_ble_eq_true rfl) (by decide) (show ztg (zwi _ _) _ = _ by rw [ztg_wi]; exact hx) hc (z := z) (by exact hz)).trans ?_
  rfl

theorem w217_ok {μ μ1 : zM} {I I1 : zFn} {x o : Nat} {p0 p1 p2 v : Int32} (hx : ztg μ x = 0) (ho : ztg μ1 o = 22 ∧ znl μ1 o = 1 ∧ zK0 ≤ o) (hc : zden zcds 11 11 [.ref (x), .int (p0), .int (p1), .int (p2)] (zwi μ I) = some (0, some (.int v), 0, 0, zwi μ1 I1)) : zden zcds 12 217 [.ref (x), .int (p0), .int (p1), .int (p2), .ref (o)] (zwi μ I) = some (0, some (.int 0), 0, 0, zwi (zsl μ1 o 0 v.toInt64) I1) := by
  refine (zd_in (d := 11) (cd := zc217) (nL := 6) (L := [(0, .ref (x)), (1, .int (p0)), (2, .int (p1)), (3, .int (p2)), (4, .ref (o))]) rfl (Nat.le_of_ble_eq_true rfl) rfl).trans ?_
  refine (ys4 2 (v := .ref (o)) rfl rfl rfl rfl).trans ?_
  refine (ys1 3 (x := 0) rfl rfl rfl).trans ?_
  refine (ys4 4 (v := .ref (x)) rfl rfl rfl rfl).trans ?_
  refine (ys4 5 (v := .int (p0)) rfl rfl rfl rfl).trans ?_
  refine (ys4 6 (v := .int (p1)) rfl rfl rfl rfl).trans ?_
  refine (ys4 7 (v := .int (p2)) rfl rfl rfl rfl).trans ?_
  refine (ys37 10 (vs := [.int (p2), .int (p1), .int (p0), .ref (x)]) rfl rfl rfl (Nat.le_of_ble_eq_true rfl) (by decide) (show ztg (zwi _ _) _ = _ by rw [ztg_wi]; exact hx) rfl hc).trans ?_
  refine (ys10 11 rfl rfl).trans ?_
  refine (ys27l 12 (x := v.toInt64) rfl ho.1 ho.2.2 (by decide) (by rw [ho.2.1]; decide) rfl).trans ?_
  refine (ys19 rfl).trans ?_
  refine (ys1 24 (x := 0) rfl rfl rfl).trans ?_
  refine (ys36 rfl (by decide)).trans ?_
  rfl

theorem w217_ex {μ μ1 : zM} {I I1 : zFn} {x o : Nat} {p0 p1 p2 : Int32} (hx : ztg μ x = 0) {E z : Nat} (hc : zden zcds 11 11 [.ref (x), .int (p0), .int (p1), .int (p2)] (zwi μ I) = some (E + 1, none, 1, 6, zwi μ1 I1)) (hz : zhx [1, 1, 15, 2, 5, 3, 2, 19, 2, 5] (E + 1) = some z) : zden zcds 12 217 [.ref (x), .int (p0), .int (p1), .int (p2), .ref (o)] (zwi μ I) = some (0, some (.int (Int32.ofNat z)), 1, 6, zwi μ1 I1) := by
  refine (zd_in (d := 11) (cd := zc217) (nL := 6) (L := [(0, .ref (x)), (1, .int (p0)), (2, .int (p1)), (3, .int (p2)), (4, .ref (o))]) rfl (Nat.le_of_ble_eq_true rfl) rfl).trans ?_
  refine (ys4 2 (v := .ref (o)) rfl rfl rfl rfl).trans ?_
  refine (ys1 3 (x := 0) rfl rfl rfl).trans ?_
  refine (ys4 4 (v := .ref (x)) rfl rfl rfl rfl).trans ?_
  refine (ys4 5 (v := .int (p0)) rfl rfl rfl rfl).trans ?_
  refine (ys4 6 (v := .int (p1)) rfl rfl rfl rfl).trans ?_
  refine (ys4 7 (v := .int (p2)) rfl rfl rfl rfl).trans ?_
  refine (ys37x (vs := [.int (p2), .int (p1), .int (p0), .ref (x)]) rfl rfl rfl (Nat.le_of_ble_eq_true rfl) (by decide) (show ztg (zwi _ _) _ = _ by rw [ztg_wi]; exact hx) hc (z := z) (by exact hz)).trans ?_
  rfl

theorem w218_ok {μ μ1 : zM} {I I1 : zFn} {x o : Nat} {p0 v : Int32} (hx : ztg μ x = 0) (ho : ztg μ1 o = 22 ∧ znl μ1 o = 1 ∧ zK0 ≤ o) (hc : zden zcds 11 12 [.ref (x), .int (p0)] (zwi μ I) = some (0, some (.int v), 0, 0, zwi μ1 I1)) : zden zcds 12 218 [.ref (x), .int (p0), .ref (o)] (zwi μ I) = some (0, some (.int 0), 0, 0, zwi (zsl μ1 o 0 v.toInt64) I1) := by
  refine (zd_in (d := 11) (cd := zc218) (nL := 4) (L := [(0, .ref (x)), (1, .int (p0)), (2, .ref (o))]) rfl (Nat.le_of_ble_eq_true rfl) rfl).trans ?_
  refine (ys4 1 (v := .ref (o)) rfl rfl rfl rfl).trans ?_
  refine (ys1 2 (x := 0) rfl rfl rfl).trans ?_
  refine (ys4 3 (v := .ref (x)) rfl rfl rfl rfl).trans ?_
  refine (ys4 4 (v := .int (p0)) rfl rfl rfl rfl).trans ?_
  refine (ys37 7 (vs := [.int (p0), .ref (x)]) rfl rfl rfl (Nat.le_of_ble_eq_true rfl) (by decide) (show ztg (zwi _ _) _ = _ by rw [ztg_wi]; exact hx) rfl hc).trans ?_
  refine (ys10 8 rfl rfl).trans ?_
  refine (ys27l 9 (x := v.toInt64) rfl ho.1 ho.2.2 (by decide) (by rw [ho.2.1]; decide) rfl).trans ?_
  refine (ys19 rfl).trans ?_
  refine (ys1 16 (x := 0) rfl rfl rfl).trans ?_
  refine (ys36 rfl (by decide)).trans ?_
  rfl

theorem w218_ex {μ μ1 : zM} {I I1 : zFn} {x o : Nat} {p0 : Int32} (hx : ztg μ x = 0) {E z : Nat} (hc : zden zcds 11 12 [.ref (x), .int (p0)] (zwi μ I) = some (E + 1, none, 1, 6, zwi μ1 I1)) (hz : zhx [3, 1, 12, 1, 3] (E + 1) = some z) : zden zcds 12 218 [.ref (x), .int (p0), .ref (o)] (zwi μ I) = some (0, some (.int (Int32.ofNat z)), 1, 6, zwi μ1 I1) := by
  refine (zd_in (d := 11) (cd := zc218) (nL := 4) (L := [(0, .ref (x)), (1, .int (p0)), (2, .ref (o))]) rfl (Nat.le_of_ble_eq_true rfl) rfl).trans ?_
  refine (ys4 1 (v := .ref (o)) rfl rfl rfl rfl).trans ?_
  refine (ys1 2 (x := 0) rfl rfl rfl).trans ?_
  refine (ys4 3 (v := .ref (x)) rfl rfl rfl rfl).trans ?_
  refine (ys4 4 (v := .int (p0)) rfl rfl rfl rfl).trans ?_
  refine (ys37x (vs := [.int (p0), .ref (x)]) rfl rfl rfl (Nat.le_of_ble_eq_true rfl) (by decide) (show ztg (zwi _ _) _ = _ by rw [ztg_wi]; exact hx) hc (z := z) (by exact hz)).trans ?_
  rfl

theorem w219_ok {μ μ1 : zM} {I I1 : zFn} {x o : Nat} {p0 p1 v : Int32} (hx : ztg μ x = 0) (ho : ztg μ1 o = 22 ∧ znl μ1 o = 1 ∧ zK0 ≤ o) (hc : zden zcds 11 13 [.ref (x), .int (p0), .int (p1)] (zwi μ I) = some (0, some (.int v), 0, 0, zwi μ1 I1)) : zden zcds 12 219 [.ref (x), .int (p0), .int (p1), .ref (o)] (zwi μ I) = some (0, some (.int 0), 0, 0, zwi (zsl μ1 o 0 v.toInt64) I1) := by
  refine (zd_in (d := 11) (cd := zc219) (nL := 5) (L := [(0, .ref (x)), (1, .int (p0)), (2, .int (p1)), (3, .ref (o))]) rfl (Nat.le_of_ble_eq_true rfl) rfl).trans ?_
  refine (ys4 1 (v := .ref (o)) rfl rfl rfl rfl).trans ?_
  refine (ys1 2 (x := 0) rfl rfl rfl).trans ?_
  refine (ys4 3 (v := .ref (x)) rfl rfl rfl rfl).trans ?_
  refine (ys4 4 (v := .int (p0)) rfl rfl rfl rfl).trans ?_
  refine (ys4 5 (v := .int (p1)) rfl rfl rfl rfl).trans ?_
  refine (ys37 8 (vs := [.int (p1), .int (p0), .ref (x)]) rfl rfl rfl (Nat.le_of_ble_eq_true rfl) (by decide) (show ztg (zwi _ _) _ = _ by rw [ztg_wi]; exact hx) rfl hc).trans ?_
  refine (ys10 9 rfl rfl).trans ?_
  refine (ys27l 10 (x := v.toInt64) rfl ho.1 ho.2.2 (by decide) (by rw [ho.2.1]; decide) rfl).trans ?_
  refine (ys19 rfl).trans ?_
  refine (ys1 22 (x := 0) rfl rfl rfl).trans ?_
  refine (ys36 rfl (by decide)).trans ?_
  rfl

theorem w219_ex {μ μ1 : zM} {I I1 : zFn} {x o : Nat} {p0 p1 : Int32} (hx : ztg μ x = 0) {E z : Nat} (hc : zden zcds 11 13 [.ref (x), .int (p0), .int (p1)] (zwi μ I) = some (E + 1, none, 1, 6, zwi μ1 I1)) (hz : zhx [3, 1, 13, 2, 4, 1, 2, 17, 2, 4] (E + 1) = some z) : zden zcds 12 219 [.ref (x), .int (p0), .int (p1), .ref (o)] (zwi μ I) = some (0, some (.int (Int32.ofNat z)), 1, 6, zwi μ1 I1) := by
  refine (zd_in (d := 11) (cd := zc219) (nL := 5) (L := [(0, .ref (x)), (1, .int (p0)), (2, .int (p1)), (3, .ref (o))]) rfl (Nat.le_of_ble_eq_true rfl) rfl).trans ?_
  refine (ys4 1 (v := .ref (o)) rfl rfl rfl rfl).trans ?_
  refine (ys1 2 (x := 0) rfl rfl rfl).trans ?_
  refine (ys4 3 (v := .ref (x)) rfl rfl rfl rfl).trans ?_
  refine (ys4 4 (v := .int (p0)) rfl rfl rfl rfl).trans ?_
  refine (ys4 5 (v := .int (p1)) rfl rfl rfl rfl).trans ?_
  refine (ys37x (vs := [.int (p1), .int (p0), .ref (x)]) rfl rfl rfl (Nat.le_of_ble_eq_true rfl) (by decide) (show ztg (zwi _ _) _ = _ by rw [ztg_wi]; exact hx) hc (z := z) (by exact hz)).trans ?_
  rfl

theorem w220_ok {μ μ1 : zM} {I I1 : zFn} {x o : Nat} {p0 v : Int32} (hx : ztg μ x = 0) (ho : ztg μ1 o = 22 ∧ znl μ1 o = 1 ∧ zK0 ≤ o) (hc : zden zcds 11 15 [.ref (x), .int (p0)] (zwi μ I) = some (0, some (.int v), 0, 0, zwi μ1 I1)) : zden zcds 12 220 [.ref (x), .int (p0), .ref (o)] (zwi μ I) = some (0, some (.int 0), 0, 0, zwi (zsl μ1 o 0 v.toInt64) I1) := by
  refine (zd_in (d := 11) (cd := zc220) (nL := 4) (L := [(0, .ref (x)), (1, .int (p0)), (2, .ref (o))]) rfl (Nat.le_of_ble_eq_true rfl) rfl).trans ?_
  refine (ys4 1 (v := .ref (o)) rfl rfl rfl rfl).trans ?_
  refine (ys1 2 (x := 0) rfl rfl rfl).trans ?_
  refine (ys4 3 (v := .ref (x)) rfl rfl rfl rfl).trans ?_
  refine (ys4 4 (v := .int (p0)) rfl rfl rfl rfl).trans ?_
  refine (ys37 7 (vs := [.int (p0), .ref (x)]) rfl rfl rfl (Nat.le_of_ble_eq_true rfl) (by decide) (show ztg (zwi _ _) _ = _ by rw [ztg_wi]; exact hx) rfl hc).trans ?_
  refine (ys10 8 rfl rfl).trans ?_
  refine (ys27l 9 (x := v.toInt64) rfl ho.1 ho.2.2 (by decide) (by rw [ho.2.1]; decide) rfl).trans ?_
  refine (ys19 rfl).trans ?_
  refine (ys1 16 (x := 0) rfl rfl rfl).trans ?_
  refine (ys36 rfl (by decide)).trans ?_
  rfl

theorem w220_ex {μ μ1 : zM} {I I1 : zFn} {x o : Nat} {p0 : Int32} (hx : ztg μ x = 0) {E z : Nat} (hc : zden zcds 11 15 [.ref (x), .int (p0)] (zwi μ I) = some (E + 1, none, 1, 6, zwi μ1 I1)) (hz : zhx [1, 1, 12, 1, 3] (E + 1) = some z) : zden zcds 12 220 [.ref (x), .int (p0), .ref (o)] (zwi μ I) = some (0, some (.int (Int32.ofNat z)), 1, 6, zwi μ1 I1) := by
  refine (zd_in (d := 11) (cd := zc220) (nL := 4) (L := [(0, .ref (x)), (1, .int (p0)), (2, .ref (o))]) rfl (Nat.le_of_ble_eq_true rfl) rfl).trans ?_
  refine (ys4 1 (v := .ref (o)) rfl rfl rfl rfl).trans ?_
  refine (ys1 2 (x := 0) rfl rfl rfl).trans ?_
  refine (ys4 3 (v := .ref (x)) rfl rfl rfl rfl).trans ?_
  refine (ys4 4 (v := .int (p0)) rfl rfl rfl rfl).trans ?_
  refine (ys37x (vs := [.int (p0), .ref (x)]) rfl rfl rfl (Nat.le_of_ble_eq_true rfl) (by decide) (show ztg (zwi _ _) _ = _ by rw [ztg_wi]; exact hx) hc (z := z) (by exact hz)).trans ?_
  rfl

theorem w221_ok {μ μ1 : zM} {I I1 : zFn} {x o : Nat} {p0 p1 v : Int32} (hx : ztg μ x = 0) (ho : ztg μ1 o = 22 ∧ znl μ1 o = 1 ∧ zK0 ≤ o) (hc : zden zcds 11 17 [.ref (x), .int (p0), .int (p1)] (zwi μ I) = some (0, some (.int v), 0, 0, zwi μ1 I1)) : zden zcds 12 221 [.ref (x), .int (p0), .int (p1), .ref (o)] (zwi μ I) = some (0, some (.int 0), 0, 0, zwi (zsl μ1 o 0 v.toInt64) I1) := by
  refine (zd_in (d := 11) (cd := zc221) (nL := 5) (L := [(0, .ref (x)), (1, .int (p0)), (2, .int (p1)), (3, .ref (o))]) rfl (Nat.le_of_ble_eq_true rfl) rfl).trans ?_
  refine (ys4 1 (v := .ref (o)) rfl rfl rfl rfl).trans ?_
  refine (ys1 2 (x := 0) rfl rfl rfl).trans ?_
  refine (ys4 3 (v := .ref (x)) rfl rfl rfl rfl).trans ?_
  refine (ys4 4 (v := .int (p0)) rfl rfl rfl rfl).trans ?_
  refine (ys4 5 (v := .int (p1)) rfl rfl rfl rfl).trans ?_
  refine (ys37 8 (vs := [.int (p1), .int (p0), .ref (x)]) rfl rfl rfl (Nat.le_of_ble_eq_true rfl) (by decide) (show ztg (zwi _ _) _ = _ by rw [ztg_wi]; exact hx) rfl hc).trans ?_
  refine (ys10 9 rfl rfl).trans ?_
  refine (ys27l 10 (x := v.toInt64) rfl ho.1 ho.2.2 (by decide) (by rw [ho.2.1]; decide) rfl).trans ?_
  refine (ys19 rfl).trans ?_
  refine (ys1 22 (x := 0) rfl rfl rfl).trans ?_
  refine (ys36 rfl (by decide)).trans ?_
  rfl

theorem w221_ex {μ μ1 : zM} {I I1 : zFn} {x o : Nat} {p0 p1 : Int32} (hx : ztg μ x = 0) {E z : Nat} (hc : zden zcds 11 17 [.ref (x), .int (p0), .int (p1)] (zwi μ I) = some (E + 1, none, 1, 6, zwi μ1 I1)) (hz : zhx [1, 1, 13, 2, 4, 3, 2, 17, 2, 4] (E + 1) = some z) : zden zcds 12 221 [.ref (x), .int (p0), .int (p1), .ref (o)] (zwi μ I) = some (0, some (.int (Int32.ofNat z)), 1, 6, zwi μ1 I1) := by
  refine (zd_in (d := 11) (cd := zc221) (nL := 5) (L := [(0, .ref (x)), (1, .int (p0)), (2, .int (p1)), (3, .ref (o))]) rfl (Nat.le_of_ble_eq_true rfl) rfl).trans ?_
  refine (ys4 1 (v := .ref (o)) rfl rfl rfl rfl).trans ?_
  refine (ys1 2 (x := 0) rfl rfl rfl).trans ?_
  refine (ys4 3 (v := .ref (x)) rfl rfl rfl rfl).trans ?_
  refine (ys4 4 (v := .int (p0)) rfl rfl rfl rfl).trans ?_
  refine (ys4 5 (v := .int (p1)) rfl rfl rfl rfl).trans ?_
  refine (ys37x (vs := [.int (p1), .int (p0), .ref (x)]) rfl rfl rfl (Nat.le_of_ble_eq_true rfl) (by decide) (show ztg (zwi _ _) _ = _ by rw [ztg_wi]; exact hx) hc (z := z) (by exact hz)).trans ?_
  rfl

theorem w222_ok {μ μ1 : zM} {I I1 : zFn} {x o : Nat} {p0 v : Int32} (hx : ztg μ x = 0) (ho : ztg μ1 o = 22 ∧ znl μ1 o = 1 ∧ zK0 ≤ o) (hc : zden zcds 11 18 [.ref (x), .int (p0)] (zwi μ I) = some (0, some (.int v), 0, 0, zwi μ1 I1)) : zden zcds 12 222 [.ref (x), .int (p0), .ref (o)] (zwi μ I) = some (0, some (.int 0), 0, 0, zwi (zsl μ1 o 0 v.toInt64) I1) := by
  refine (zd_in (d := 11) (cd := zc222) (nL := 4) (L := [(0, .ref (x)), (1, .int (p0)), (2, .ref (o))]) rfl (Nat.le_of_ble_eq_true rfl) rfl).trans ?_
  refine (ys4 1 (v := .ref (o)) rfl rfl rfl rfl).trans ?_
  refine (ys1 2 (x := 0) rfl rfl rfl).trans ?_
  refine (ys4 3 (v := .ref (x)) rfl rfl rfl rfl).trans ?_
  refine (ys4 4 (v := .int (p0)) rfl rfl rfl rfl).trans ?_
  refine (ys37 7 (vs := [.int (p0), .ref (x)]) rfl rfl rfl (Nat.le_of_ble_eq_true rfl) (by decide) (show ztg (zwi _ _) _ = _ by rw [ztg_wi]; exact hx) rfl hc).trans ?_
  refine (ys10 8 rfl rfl).trans ?_
  refine (ys27l 9 (x := v.toInt64) rfl ho.1 ho.2.2 (by decide) (by rw [ho.2.1]; decide) rfl).trans ?_
  refine (ys19 rfl).trans ?_
  refine (ys1 16 (x := 0) rfl rfl rfl).trans ?_
  refine (ys36 rfl (by decide)).trans ?_
  rfl

theorem w222_ex {μ μ1 : zM} {I I1 : zFn} {x o : Nat} {p0 : Int32} (hx : ztg μ x = 0) {E z : Nat} (hc : zden zcds 11 18 [.ref (x), .int (p0)] (zwi μ I) = some (E + 1, none, 1, 6, zwi μ1 I1)) (hz : zhx [1, 1, 12, 1, 3] (E + 1) = some z) : zden zcds 12 222 [.ref (x), .int (p0), .ref (o)] (zwi μ I) = some (0, some (.int (Int32.ofNat z)), 1, 6, zwi μ1 I1) := by
  refine (zd_in (d := 11) (cd := zc222) (nL := 4) (L := [(0, .ref (x)), (1, .int (p0)), (2, .ref (o))]) rfl (Nat.le_of_ble_eq_true rfl) rfl).trans ?_
  refine (ys4 1 (v := .ref (o)) rfl rfl rfl rfl).trans ?_
  refine (ys1 2 (x := 0) rfl rfl rfl).trans ?_
  refine (ys4 3 (v := .ref (x)) rfl rfl rfl rfl).trans ?_
  refine (ys4 4 (v := .int (p0)) rfl rfl rfl rfl).trans ?_
  refine (ys37x (vs := [.int (p0), .ref (x)]) rfl rfl rfl (Nat.le_of_ble_eq_true rfl) (by decide) (show ztg (zwi _ _) _ = _ by rw [ztg_wi]; exact hx) hc (z := z) (by exact hz)).trans ?_
  rfl

theorem w223_ok {μ μ1 : zM} {I I1 : zFn} {x o : Nat} {p0 v : Int32} (hx : ztg μ x = 0) (ho : ztg μ1 o = 22 ∧ znl μ1 o = 1 ∧ zK0 ≤ o) (hc : zden zcds 11 19 [.ref (x), .int (p0)] (zwi μ I) = some (0, some (.int v), 0, 0, zwi μ1 I1)) : zden zcds 12 223 [.ref (x), .int (p0), .ref (o)] (zwi μ I) = some (0, some (.int 0), 0, 0, zwi (zsl μ1 o 0 v.toInt64) I1) := by
  refine (zd_in (d := 11) (cd := zc223) (nL := 4) (L := [(0, .ref (x)), (1, .int (p0)), (2, .ref (o))]) rfl (Nat.le_of_ble_eq_true rfl) rfl).trans ?_
  refine (ys4 1 (v := .ref (o)) rfl rfl rfl rfl).trans ?_
  refine (ys1 2 (x := 0) rfl rfl rfl).trans ?_
  refine (ys4 3 (v := .ref (x)) rfl rfl rfl rfl).trans ?_
  refine (ys4 4 (v := .int (p0)) rfl rfl rfl rfl).trans ?_
  refine (ys37 7 (vs := [.int (p0), .ref (x)]) rfl rfl rfl (Nat.le_of_ble_eq_true rfl) (by decide) (show ztg (zwi _ _) _ = _ by rw [ztg_wi]; exact hx) rfl hc).trans ?_
  refine (ys10 8 rfl rfl).trans ?_
  refine (ys27l 9 (x := v.toInt64) rfl ho.1 ho.2.2 (by decide) (by rw [ho.2.1]; decide) rfl).trans ?_
  refine (ys19 rfl).trans ?_
  refine (ys1 16 (x := 0) rfl rfl rfl).trans ?_
  refine (ys36 rfl (by decide)).trans ?_
  rfl

theorem w223_ex {μ μ1 : zM} {I I1 : zFn} {x o : Nat} {p0 : Int32} (hx : ztg μ x = 0) {E z : Nat} (hc : zden zcds 11 19 [.ref (x), .int (p0)] (zwi μ I) = some (E + 1, none, 1, 6, zwi μ1 I1)) (hz : zhx [1, 1, 12, 1, 3] (E + 1) = some z) : zden zcds 12 223 [.ref (x), .int (p0), .ref (o)] (zwi μ I) = some (0, some (.int (Int32.ofNat z)), 1, 6, zwi μ1 I1) := by
  refine (zd_in (d := 11) (cd := zc223) (nL := 4) (L := [(0, .ref (x)), (1, .int (p0)), (2, .ref (o))]) rfl (Nat.le_of_ble_eq_true rfl) rfl).trans ?_
  refine (ys4 1 (v := .ref (o)) rfl rfl rfl rfl).trans ?_
  refine (ys1 2 (x := 0) rfl rfl rfl).trans ?_
  refine (ys4 3 (v := .ref (x)) rfl rfl rfl rfl).trans ?_
  refine (ys4 4 (v := .int (p0)) rfl rfl rfl rfl).trans ?_
  refine (ys37x (vs := [.int (p0), .ref (x)]) rfl rfl rfl (Nat.le_of_ble_eq_true rfl) (by decide) (show ztg (zwi _ _) _ = _ by rw [ztg_wi]; exact hx) hc (z := z) (by exact hz)).trans ?_
  rfl

/-- the script, as the law reads it -/
def zSP (μ : zM) (I : zFn) (N : Nat) (xs : Nat → Int32) : Prop := ztg μ 81 = 30 ∧ zni μ 81 = N ∧ N < 2 ^ 31 ∧ ∀ j, j < N → I 81 j = xs j

set_option maxRecDepth 20000 in
theorem lawc_136 {μ0 μ1 μ2 : zM} {I0 I1 I2 : zFn} {c sl c1 s1 c2 s2 i N x m o : Nat} {xs : Nat → Int32} {k b : Int32} {rz : zR} (hi : i + 6 ≤ N) (hS0 : zSP μ0 I0 N xs) (hS1 : zSP μ1 I1 N xs) (hx : ztg μ0 x = 0) (hm1 : ztg μ1 m = 8) (hm2 : ztg μ2 m = 8) (hw : zden zcds 12 209 [.ref (x), .int (xs (i + 1)), .int (xs (i + 2)), .int (xs (i + 3)), .int (xs (i + 4)), .int (xs (i + 5)), .ref (o)] (zwi μ0 I0) = some (0, some (.int k), c1, s1, zwi μ1 I1)) (hm : zden zcds 12 156 [.ref (m), .int (xs (i + 1)), .int (xs (i + 2)), .int (xs (i + 3)), .int (xs (i + 4)), .int (xs (i + 5))] (zwi μ1 I1) = some (0, some (.int b), c2, s2, zwi μ2 I2)) (ht : zden zcds 12 124 [.ref (m)] (zwi μ2 I2) = some (0, some (.int k), 0, 0, zwi μ2 I2)) (ho : k = 0 → ztg μ2 o = 22 ∧ znl μ2 o = 1 ∧ zgl μ2 o 0 = b.toInt64) (hk : zden1 12 (zden zcds 12) zc232 (23, [(4, .int (nI (i + 6))), (3, .ref (o)), (2, .ref (m)), (1, .ref (x)), (0, .ref (81))], [], c + c1 + c2, sl + s1 + s2, zwi μ2 I2) = some rz) : zden1 12 (zden zcds 12) zc232 (136, [(4, .int (nI i)), (3, .ref (o)), (2, .ref (m)), (1, .ref (x)), (0, .ref (81))], [], c, sl, zwi μ0 I0) = some rz := by
  have fin : zden1 12 (zden zcds 12) zc232 (1226, [(6, .int (b)), (5, .int (k)), (4, .int (nI i)), (3, .ref (o)), (2, .ref (m)), (1, .ref (x)), (0, .ref (81))], [], c + c1 + c2 + 0, sl + s1 + s2 + 0, zwi μ2 I2) = some rz := by
    refine (ys6 1229 (y := nI (i + 6)) (L2 := [(4, .int (nI (i + 6))), (6, .int (b)), (5, .int (k)), (3, .ref (o)), (2, .ref (m)), (1, .ref (x)), (0, .ref (81))]) rfl rfl (nI_add i 6) rfl rfl).trans ?_
    refine (ys19 rfl).trans ?_
    exact zden1_fg (zfg_cons rfl (zfg_cons rfl (zfg_cons rfl (zfg_cons rfl (zfg_cons rfl zfg_nil))))) hk
  refine (ys4 137 (v := .ref (x)) rfl rfl rfl rfl).trans ?_
  refine (ys4 138 (v := .ref (81)) rfl rfl rfl rfl).trans ?_
  refine (ys4 140 (v := .int (nI i)) rfl rfl rfl rfl).trans ?_
  refine (ys1 141 (x := nI 1) rfl rfl rfl).trans ?_
  refine (ys7_0 142 rfl rfl).trans ?_
  rw [show nI i + nI 1 = nI (i + 1) from nI_add i 1]
  refine (ylx 143 (N := N) rfl (j := (i + 1)) rfl (Or.inr hS0.1) hS0.2.1 (by omega) hS0.2.2.1 rfl (hS0.2.2.2 _ (by omega))).trans ?_
  refine (ys4 144 (v := .ref (81)) rfl rfl rfl rfl).trans ?_
  refine (ys4 146 (v := .int (nI i)) rfl rfl rfl rfl).trans ?_
  refine (ys1 147 (x := nI 2) rfl rfl rfl).trans ?_
  refine (ys7_0 148 rfl rfl).trans ?_
  rw [show nI i + nI 2 = nI (i + 2) from nI_add i 2]
  refine (ylx 149 (N := N) rfl (j := (i + 2)) rfl (Or.inr hS0.1) hS0.2.1 (by omega) hS0.2.2.1 rfl (hS0.2.2.2 _ (by omega))).trans ?_
  refine (ys4 150 (v := .ref (81)) rfl rfl rfl rfl).trans ?_
  refine (ys4 152 (v := .int (nI i)) rfl rfl rfl rfl).trans ?_
  refine (ys1 153 (x := nI 3) rfl rfl rfl).trans ?_
  refine (ys7_0 154 rfl rfl).trans ?_
  rw [show nI i + nI 3 = nI (i + 3) from nI_add i 3]
  refine (ylx 155 (N := N) rfl (j := (i + 3)) rfl (Or.inr hS0.1) hS0.2.1 (by omega) hS0.2.2.1 rfl (hS0.2.2.2 _ (by omega))).trans ?_
  refine (ys4 156 (v := .ref (81)) rfl rfl rfl rfl).trans ?_
  refine (ys4 158 (v := .int (nI i)) rfl rfl rfl rfl).trans ?_
  refine (ys1 159 (x := nI 4) rfl rfl rfl).trans ?_
  refine (ys7_0 160 rfl rfl).trans ?_
  rw [show nI i + nI 4 = nI (i + 4) from nI_add i 4]
  refine (ylx 161 (N := N) rfl (j := (i + 4)) rfl (Or.inr hS0.1) hS0.2.1 (by omega) hS0.2.2.1 rfl (hS0.2.2.2 _ (by omega))).trans ?_
  refine (ys4 162 (v := .ref (81)) rfl rfl rfl rfl).trans ?_
  refine (ys4 164 (v := .int (nI i)) rfl rfl rfl rfl).trans ?_
  refine (ys1 165 (x := nI 5) rfl rfl rfl).trans ?_
  refine (ys7_0 166 rfl rfl).trans ?_
  rw [show nI i + nI 5 = nI (i + 5) from nI_add i 5]
  refine (ylx 167 (N := N) rfl (j := (i + 5)) rfl (Or.inr hS0.1) hS0.2.1 (by omega) hS0.2.2.1 rfl (hS0.2.2.2 _ (by omega))).trans ?_
  refine (ys4 168 (v := .ref (o)) rfl rfl rfl rfl).trans ?_
  refine (yc7 171 rfl rfl (Nat.le_of_ble_eq_true rfl) (Or.inl rfl) rfl rfl hw).trans ?_
  refine (ys5 173 (L2 := [(5, .int (k)), (4, .int (nI i)), (3, .ref (o)), (2, .ref (m)), (1, .ref (x)), (0, .ref (81))]) rfl rfl rfl rfl).trans ?_
  refine (ys4 174 (v := .ref (m)) rfl rfl rfl rfl).trans ?_
  refine (ys4 175 (v := .ref (81)) rfl rfl rfl rfl).trans ?_
  refine (ys4 177 (v := .int (nI i)) rfl rfl rfl rfl).trans ?_
  refine (ys1 178 (x := nI 1) rfl rfl rfl).trans ?_
  refine (ys7_0 179 rfl rfl).trans ?_
  rw [show nI i + nI 1 = nI (i + 1) from nI_add i 1]
  refine (ylx 180 (N := N) rfl (j := (i + 1)) rfl (Or.inr hS1.1) hS1.2.1 (by omega) hS1.2.2.1 rfl (hS1.2.2.2 _ (by omega))).trans ?_
  refine (ys4 181 (v := .ref (81)) rfl rfl rfl rfl).trans ?_
  refine (ys4 183 (v := .int (nI i)) rfl rfl rfl rfl).trans ?_
  refine (ys1 184 (x := nI 2) rfl rfl rfl).trans ?_
  refine (ys7_0 185 rfl rfl).trans ?_
  rw [show nI i + nI 2 = nI (i + 2) from nI_add i 2]
  refine (ylx 186 (N := N) rfl (j := (i + 2)) rfl (Or.inr hS1.1) hS1.2.1 (by omega) hS1.2.2.1 rfl (hS1.2.2.2 _ (by omega))).trans ?_
  refine (ys4 187 (v := .ref (81)) rfl rfl rfl rfl).trans ?_
  refine (ys4 189 (v := .int (nI i)) rfl rfl rfl rfl).trans ?_
  refine (ys1 190 (x := nI 3) rfl rfl rfl).trans ?_
  refine (ys7_0 191 rfl rfl).trans ?_
  rw [show nI i + nI 3 = nI (i + 3) from nI_add i 3]
  refine (ylx 192 (N := N) rfl (j := (i + 3)) rfl (Or.inr hS1.1) hS1.2.1 (by omega) hS1.2.2.1 rfl (hS1.2.2.2 _ (by omega))).trans ?_
  refine (ys4 193 (v := .ref (81)) rfl rfl rfl rfl).trans ?_
  refine (ys4 195 (v := .int (nI i)) rfl rfl rfl rfl).trans ?_
  refine (ys1 196 (x := nI 4) rfl rfl rfl).trans ?_
  refine (ys7_0 197 rfl rfl).trans ?_
  rw [show nI i + nI 4 = nI (i + 4) from nI_add i 4]
  refine (ylx 198 (N := N) rfl (j := (i + 4)) rfl (Or.inr hS1.1) hS1.2.1 (by omega) hS1.2.2.1 rfl (hS1.2.2.2 _ (by omega))).trans ?_
  refine (ys4 199 (v := .ref (81)) rfl rfl rfl rfl).trans ?_
  refine (ys4 201 (v := .int (nI i)) rfl rfl rfl rfl).trans ?_
  refine (ys1 202 (x := nI 5) rfl rfl rfl).trans ?_
  refine (ys7_0 203 rfl rfl).trans ?_
  rw [show nI i + nI 5 = nI (i + 5) from nI_add i 5]
  refine (ylx 204 (N := N) rfl (j := (i + 5)) rfl (Or.inr hS1.1) hS1.2.1 (by omega) hS1.2.2.1 rfl (hS1.2.2.2 _ (by omega))).trans ?_
  refine (yc6 207 rfl rfl (Nat.le_of_ble_eq_true rfl) (Or.inr (by show ztg (zwi _ _) _ = _; rw [ztg_wi]; exact hm1)) rfl rfl hm).trans ?_
  refine (ys5 209 (L2 := [(6, .int (b)), (5, .int (k)), (4, .int (nI i)), (3, .ref (o)), (2, .ref (m)), (1, .ref (x)), (0, .ref (81))]) rfl rfl rfl rfl).trans ?_
  refine (ys4 210 (v := .ref (m)) rfl rfl rfl rfl).trans ?_
  refine (yc1 213 rfl rfl (Nat.le_of_ble_eq_true rfl) (Or.inr (by show ztg (zwi _ _) _ = _; rw [ztg_wi]; exact hm2)) rfl rfl ht).trans ?_
  refine (ys4 215 (v := .int (k)) rfl rfl rfl rfl).trans ?_
  refine ys18_0 218 rfl rfl (fun _ => ?_) (fun q => absurd rfl q)
  refine (ys4 222 (v := .int (k)) rfl rfl rfl rfl).trans ?_
  refine ys17_1 225 rfl rfl (fun hk0 => ?_) (fun hk0 => ?_)
  · obtain ⟨o1, o2, o3⟩ := ho hk0
    refine (ys4 226 (v := .ref (o)) rfl rfl rfl rfl).trans ?_
    refine (ys1 227 (x := nI 0) rfl rfl rfl).trans ?_
    refine (ys26l 228 rfl o1 (by decide) (by rw [o2]; decide) rfl).trans ?_
    refine (ys4 230 (v := .int (b)) rfl rfl rfl rfl).trans ?_
    refine (ys10 231 rfl rfl).trans ?_
    refine (ys11 232 (y := b.toInt64) rfl rfl).trans ?_
    rw [show zgl μ2 o (nI 0).toNatClampNeg = b.toInt64 from o3]
    show zden1 _ _ _ (_, _, .int (lg_cmp b.toInt64 b.toInt64) :: [], _, _, _) = _
    rw [lcmp_same]
    refine ys17_0 235 rfl rfl (fun _ => ?_) (fun q => absurd rfl q)
    refine (ys19 rfl).trans ?_
    exact fin
  · refine (ys19 rfl).trans ?_
    exact fin

set_option maxRecDepth 20000 in
theorem lawc_240 {μ0 μ1 μ2 : zM} {I0 I1 I2 : zFn} {c sl c1 s1 c2 s2 i N x m o : Nat} {xs : Nat → Int32} {k b : Int32} {rz : zR} (hi : i + 6 ≤ N) (hS0 : zSP μ0 I0 N xs) (hS1 : zSP μ1 I1 N xs) (hx : ztg μ0 x = 0) (hm1 : ztg μ1 m = 8) (hm2 : ztg μ2 m = 8) (hw : zden zcds 12 210 [.ref (x), .int (xs (i + 1)), .ref (o)] (zwi μ0 I0) = some (0, some (.int k), c1, s1, zwi μ1 I1)) (hm : zden zcds 12 157 [.ref (m), .int (xs (i + 1))] (zwi μ1 I1) = some (0, some (.int b), c2, s2, zwi μ2 I2)) (ht : zden zcds 12 124 [.ref (m)] (zwi μ2 I2) = some (0, some (.int k), 0, 0, zwi μ2 I2)) (ho : k = 0 → ztg μ2 o = 22 ∧ znl μ2 o = 1 ∧ zgl μ2 o 0 = b.toInt64) (hk : zden1 12 (zden zcds 12) zc232 (23, [(4, .int (nI (i + 6))), (3, .ref (o)), (2, .ref (m)), (1, .ref (x)), (0, .ref (81))], [], c + c1 + c2, sl + s1 + s2, zwi μ2 I2) = some rz) : zden1 12 (zden zcds 12) zc232 (240, [(4, .int (nI i)), (3, .ref (o)), (2, .ref (m)), (1, .ref (x)), (0, .ref (81))], [], c, sl, zwi μ0 I0) = some rz := by
  have fin : zden1 12 (zden zcds 12) zc232 (1226, [(6, .int (b)), (5, .int (k)), (4, .int (nI i)), (3, .ref (o)), (2, .ref (m)), (1, .ref (x)), (0, .ref (81))], [], c + c1 + c2 + 0, sl + s1 + s2 + 0, zwi μ2 I2) = some rz := by
    refine (ys6 1229 (y := nI (i + 6)) (L2 := [(4, .int (nI (i + 6))), (6, .int (b)), (5, .int (k)), (3, .ref (o)), (2, .ref (m)), (1, .ref (x)), (0, .ref (81))]) rfl rfl (nI_add i 6) rfl rfl).trans ?_
    refine (ys19 rfl).trans ?_
    exact zden1_fg (zfg_cons rfl (zfg_cons rfl (zfg_cons rfl (zfg_cons rfl (zfg_cons rfl zfg_nil))))) hk
  refine (ys4 241 (v := .ref (x)) rfl rfl rfl rfl).trans ?_
  refine (ys4 242 (v := .ref (81)) rfl rfl rfl rfl).trans ?_
  refine (ys4 244 (v := .int (nI i)) rfl rfl rfl rfl).trans ?_
  refine (ys1 245 (x := nI 1) rfl rfl rfl).trans ?_
  refine (ys7_0 246 rfl rfl).trans ?_
  rw [show nI i + nI 1 = nI (i + 1) from nI_add i 1]
  refine (ylx 247 (N := N) rfl (j := (i + 1)) rfl (Or.inr hS0.1) hS0.2.1 (by omega) hS0.2.2.1 rfl (hS0.2.2.2 _ (by omega))).trans ?_
  refine (ys4 248 (v := .ref (o)) rfl rfl rfl rfl).trans ?_
  refine (yc3 251 rfl rfl (Nat.le_of_ble_eq_true rfl) (Or.inl rfl) rfl rfl hw).trans ?_
  refine (ys5 253 (L2 := [(5, .int (k)), (4, .int (nI i)), (3, .ref (o)), (2, .ref (m)), (1, .ref (x)), (0, .ref (81))]) rfl rfl rfl rfl).trans ?_
  refine (ys4 254 (v := .ref (m)) rfl rfl rfl rfl).trans ?_
  refine (ys4 255 (v := .ref (81)) rfl rfl rfl rfl).trans ?_
  refine (ys4 257 (v := .int (nI i)) rfl rfl rfl rfl).trans ?_
  refine (ys1 258 (x := nI 1) rfl rfl rfl).trans ?_
  refine (ys7_0 259 rfl rfl).trans ?_
  rw [show nI i + nI 1 = nI (i + 1) from nI_add i 1]
  refine (ylx 260 (N := N) rfl (j := (i + 1)) rfl (Or.inr hS1.1) hS1.2.1 (by omega) hS1.2.2.1 rfl (hS1.2.2.2 _ (by omega))).trans ?_
  refine (yc2 263 rfl rfl (Nat.le_of_ble_eq_true rfl) (Or.inr (by show ztg (zwi _ _) _ = _; rw [ztg_wi]; exact hm1)) rfl rfl hm).trans ?_
  refine (ys5 265 (L2 := [(6, .int (b)), (5, .int (k)), (4, .int (nI i)), (3, .ref (o)), (2, .ref (m)), (1, .ref (x)), (0, .ref (81))]) rfl rfl rfl rfl).trans ?_
  refine (ys4 266 (v := .ref (m)) rfl rfl rfl rfl).trans ?_
  refine (yc1 269 rfl rfl (Nat.le_of_ble_eq_true rfl) (Or.inr (by show ztg (zwi _ _) _ = _; rw [ztg_wi]; exact hm2)) rfl rfl ht).trans ?_
  refine (ys4 271 (v := .int (k)) rfl rfl rfl rfl).trans ?_
  refine ys18_0 274 rfl rfl (fun _ => ?_) (fun q => absurd rfl q)
  refine (ys4 278 (v := .int (k)) rfl rfl rfl rfl).trans ?_
  refine ys17_1 281 rfl rfl (fun hk0 => ?_) (fun hk0 => ?_)
  · obtain ⟨o1, o2, o3⟩ := ho hk0
    refine (ys4 282 (v := .ref (o)) rfl rfl rfl rfl).trans ?_
    refine (ys1 283 (x := nI 0) rfl rfl rfl).trans ?_
    refine (ys26l 284 rfl o1 (by decide) (by rw [o2]; decide) rfl).trans ?_
    refine (ys4 286 (v := .int (b)) rfl rfl rfl rfl).trans ?_
    refine (ys10 287 rfl rfl).trans ?_
    refine (ys11 288 (y := b.toInt64) rfl rfl).trans ?_
    rw [show zgl μ2 o (nI 0).toNatClampNeg = b.toInt64 from o3]
    show zden1 _ _ _ (_, _, .int (lg_cmp b.toInt64 b.toInt64) :: [], _, _, _) = _
    rw [lcmp_same]
    refine ys17_0 291 rfl rfl (fun _ => ?_) (fun q => absurd rfl q)
    refine (ys19 rfl).trans ?_
    exact fin
  · refine (ys19 rfl).trans ?_
    exact fin

set_option maxRecDepth 20000 in
theorem lawc_322 {μ0 μ1 μ2 : zM} {I0 I1 I2 : zFn} {c sl c1 s1 c2 s2 i N x m o : Nat} {xs : Nat → Int32} {k b : Int32} {rz : zR} (hi : i + 6 ≤ N) (hS0 : zSP μ0 I0 N xs) (hS1 : zSP μ1 I1 N xs) (hx : ztg μ0 x = 0) (hm1 : ztg μ1 m = 8) (hm2 : ztg μ2 m = 8) (hw : zden zcds 12 211 [.ref (x), .int (xs (i + 1)), .ref (o)] (zwi μ0 I0) = some (0, some (.int k), c1, s1, zwi μ1 I1)) (hm : zden zcds 12 161 [.ref (m), .int (xs (i + 1))] (zwi μ1 I1) = some (0, some (.int b), c2, s2, zwi μ2 I2)) (ht : zden zcds 12 124 [.ref (m)] (zwi μ2 I2) = some (0, some (.int k), 0, 0, zwi μ2 I2)) (ho : k = 0 → ztg μ2 o = 22 ∧ znl μ2 o = 1 ∧ zgl μ2 o 0 = b.toInt64) (hk : zden1 12 (zden zcds 12) zc232 (23, [(4, .int (nI (i + 6))), (3, .ref (o)), (2, .ref (m)), (1, .ref (x)), (0, .ref (81))], [], c + c1 + c2, sl + s1 + s2, zwi μ2 I2) = some rz) : zden1 12 (zden zcds 12) zc232 (322, [(4, .int (nI i)), (3, .ref (o)), (2, .ref (m)), (1, .ref (x)), (0, .ref (81))], [], c, sl, zwi μ0 I0) = some rz := by
  have fin : zden1 12 (zden zcds 12) zc232 (1226, [(6, .int (b)), (5, .int (k)), (4, .int (nI i)), (3, .ref (o)), (2, .ref (m)), (1, .ref (x)), (0, .ref (81))], [], c + c1 + c2 + 0, sl + s1 + s2 + 0, zwi μ2 I2) = some rz := by
    refine (ys6 1229 (y := nI (i + 6)) (L2 := [(4, .int (nI (i + 6))), (6, .int (b)), (5, .int (k)), (3, .ref (o)), (2, .ref (m)), (1, .ref (x)), (0, .ref (81))]) rfl rfl (nI_add i 6) rfl rfl).trans ?_
    refine (ys19 rfl).trans ?_
    exact zden1_fg (zfg_cons rfl (zfg_cons rfl (zfg_cons rfl (zfg_cons rfl (zfg_cons rfl zfg_nil))))) hk
  refine (ys4 323 (v := .ref (x)) rfl rfl rfl rfl).trans ?_
  refine (ys4 324 (v := .ref (81)) rfl rfl rfl rfl).trans ?_
  refine (ys4 326 (v := .int (nI i)) rfl rfl rfl rfl).trans ?_
  refine (ys1 327 (x := nI 1) rfl rfl rfl).trans ?_
  refine (ys7_0 328 rfl rfl).trans ?_
  rw [show nI i + nI 1 = nI (i + 1) from nI_add i 1]
  refine (ylx 329 (N := N) rfl (j := (i + 1)) rfl (Or.inr hS0.1) hS0.2.1 (by omega) hS0.2.2.1 rfl (hS0.2.2.2 _ (by omega))).trans ?_
  refine (ys4 330 (v := .ref (o)) rfl rfl rfl rfl).trans ?_
  refine (yc3 333 rfl rfl (Nat.le_of_ble_eq_true rfl) (Or.inl rfl) rfl rfl hw).trans ?_
  refine (ys5 335 (L2 := [(5, .int (k)), (4, .int (nI i)), (3, .ref (o)), (2, .ref (m)), (1, .ref (x)), (0, .ref (81))]) rfl rfl rfl rfl).trans ?_
  refine (ys4 336 (v := .ref (m)) rfl rfl rfl rfl).trans ?_
  refine (ys4 337 (v := .ref (81)) rfl rfl rfl rfl).trans ?_
  refine (ys4 339 (v := .int (nI i)) rfl rfl rfl rfl).trans ?_
  refine (ys1 340 (x := nI 1) rfl rfl rfl).trans ?_
  refine (ys7_0 341 rfl rfl).trans ?_
  rw [show nI i + nI 1 = nI (i + 1) from nI_add i 1]
  refine (ylx 342 (N := N) rfl (j := (i + 1)) rfl (Or.inr hS1.1) hS1.2.1 (by omega) hS1.2.2.1 rfl (hS1.2.2.2 _ (by omega))).trans ?_
  refine (yc2 345 rfl rfl (Nat.le_of_ble_eq_true rfl) (Or.inr (by show ztg (zwi _ _) _ = _; rw [ztg_wi]; exact hm1)) rfl rfl hm).trans ?_
  refine (ys5 347 (L2 := [(6, .int (b)), (5, .int (k)), (4, .int (nI i)), (3, .ref (o)), (2, .ref (m)), (1, .ref (x)), (0, .ref (81))]) rfl rfl rfl rfl).trans ?_
  refine (ys4 348 (v := .ref (m)) rfl rfl rfl rfl).trans ?_
  refine (yc1 351 rfl rfl (Nat.le_of_ble_eq_true rfl) (Or.inr (by show ztg (zwi _ _) _ = _; rw [ztg_wi]; exact hm2)) rfl rfl ht).trans ?_
  refine (ys4 353 (v := .int (k)) rfl rfl rfl rfl).trans ?_
  refine ys18_0 356 rfl rfl (fun _ => ?_) (fun q => absurd rfl q)
  refine (ys4 360 (v := .int (k)) rfl rfl rfl rfl).trans ?_
  refine ys17_1 363 rfl rfl (fun hk0 => ?_) (fun hk0 => ?_)
  · obtain ⟨o1, o2, o3⟩ := ho hk0
    refine (ys4 364 (v := .ref (o)) rfl rfl rfl rfl).trans ?_
    refine (ys1 365 (x := nI 0) rfl rfl rfl).trans ?_
    refine (ys26l 366 rfl o1 (by decide) (by rw [o2]; decide) rfl).trans ?_
    refine (ys4 368 (v := .int (b)) rfl rfl rfl rfl).trans ?_
    refine (ys10 369 rfl rfl).trans ?_
    refine (ys11 370 (y := b.toInt64) rfl rfl).trans ?_
    rw [show zgl μ2 o (nI 0).toNatClampNeg = b.toInt64 from o3]
    show zden1 _ _ _ (_, _, .int (lg_cmp b.toInt64 b.toInt64) :: [], _, _, _) = _
    rw [lcmp_same]
    refine ys17_0 373 rfl rfl (fun _ => ?_) (fun q => absurd rfl q)
    refine (ys19 rfl).trans ?_
    exact fin
  · refine (ys19 rfl).trans ?_
    exact fin

set_option maxRecDepth 20000 in
theorem lawc_378 {μ0 μ1 μ2 : zM} {I0 I1 I2 : zFn} {c sl c1 s1 c2 s2 i N x m o : Nat} {xs : Nat → Int32} {k b : Int32} {rz : zR} (hi : i + 6 ≤ N) (hS0 : zSP μ0 I0 N xs) (hS1 : zSP μ1 I1 N xs) (hx : ztg μ0 x = 0) (hm1 : ztg μ1 m = 8) (hm2 : ztg μ2 m = 8) (hw : zden zcds 12 212 [.ref (x), .int (xs (i + 1)), .int (xs (i + 2)), .ref (o)] (zwi μ0 I0) = some (0, some (.int k), c1, s1, zwi μ1 I1)) (hm : zden zcds 12 163 [.ref (m), .int (xs (i + 1)), .int (xs (i + 2))] (zwi μ1 I1) = some (0, some (.int b), c2, s2, zwi μ2 I2)) (ht : zden zcds 12 124 [.ref (m)] (zwi μ2 I2) = some (0, some (.int k), 0, 0, zwi μ2 I2)) (ho : k = 0 → ztg μ2 o = 22 ∧ znl μ2 o = 1 ∧ zgl μ2 o 0 = b.toInt64) (hk : zden1 12 (zden zcds 12) zc232 (23, [(4, .int (nI (i + 6))), (3, .ref (o)), (2, .ref (m)), (1, .ref (x)), (0, .ref (81))], [], c + c1 + c2, sl + s1 + s2, zwi μ2 I2) = some rz) : zden1 12 (zden zcds 12) zc232 (378, [(4, .int (nI i)), (3, .ref (o)), (2, .ref (m)), (1, .ref (x)), (0, .ref (81))], [], c, sl, zwi μ0 I0) = some rz := by
  have fin : zden1 12 (zden zcds 12) zc232 (1226, [(6, .int (b)), (5, .int (k)), (4, .int (nI i)), (3, .ref (o)), (2, .ref (m)), (1, .ref (x)), (0, .ref (81))], [], c + c1 + c2 + 0, sl + s1 + s2 + 0, zwi μ2 I2) = some rz := by
    refine (ys6 1229 (y := nI (i + 6)) (L2 := [(4, .int (nI (i + 6))), (6, .int (b)), (5, .int (k)), (3, .ref (o)), (2, .ref (m)), (1, .ref (x)), (0, .ref (81))]) rfl rfl (nI_add i 6) rfl rfl).trans ?_
    refine (ys19 rfl).trans ?_
    exact zden1_fg (zfg_cons rfl (zfg_cons rfl (zfg_cons rfl (zfg_cons rfl (zfg_cons rfl zfg_nil))))) hk
  refine (ys4 379 (v := .ref (x)) rfl rfl rfl rfl).trans ?_
  refine (ys4 380 (v := .ref (81)) rfl rfl rfl rfl).trans ?_
  refine (ys4 382 (v := .int (nI i)) rfl rfl rfl rfl).trans ?_
  refine (ys1 383 (x := nI 1) rfl rfl rfl).trans ?_
  refine (ys7_0 384 rfl rfl).trans ?_
  rw [show nI i + nI 1 = nI (i + 1) from nI_add i 1]
  refine (ylx 385 (N := N) rfl (j := (i + 1)) rfl (Or.inr hS0.1) hS0.2.1 (by omega) hS0.2.2.1 rfl (hS0.2.2.2 _ (by omega))).trans ?_
  refine (ys4 386 (v := .ref (81)) rfl rfl rfl rfl).trans ?_
  refine (ys4 388 (v := .int (nI i)) rfl rfl rfl rfl).trans ?_
  refine (ys1 389 (x := nI 2) rfl rfl rfl).trans ?_
  refine (ys7_0 390 rfl rfl).trans ?_
  rw [show nI i + nI 2 = nI (i + 2) from nI_add i 2]
  refine (ylx 391 (N := N) rfl (j := (i + 2)) rfl (Or.inr hS0.1) hS0.2.1 (by omega) hS0.2.2.1 rfl (hS0.2.2.2 _ (by omega))).trans ?_
  refine (ys4 392 (v := .ref (o)) rfl rfl rfl rfl).trans ?_
  refine (yc4 395 rfl rfl (Nat.le_of_ble_eq_true rfl) (Or.inl rfl) rfl rfl hw).trans ?_
  refine (ys5 397 (L2 := [(5, .int (k)), (4, .int (nI i)), (3, .ref (o)), (2, .ref (m)), (1, .ref (x)), (0, .ref (81))]) rfl rfl rfl rfl).trans ?_
  refine (ys4 398 (v := .ref (m)) rfl rfl rfl rfl).trans ?_
  refine (ys4 399 (v := .ref (81)) rfl rfl rfl rfl).trans ?_
  refine (ys4 401 (v := .int (nI i)) rfl rfl rfl rfl).trans ?_
  refine (ys1 402 (x := nI 1) rfl rfl rfl).trans ?_
  refine (ys7_0 403 rfl rfl).trans ?_
  rw [show nI i + nI 1 = nI (i + 1) from nI_add i 1]
  refine (ylx 404 (N := N) rfl (j := (i + 1)) rfl (Or.inr hS1.1) hS1.2.1 (by omega) hS1.2.2.1 rfl (hS1.2.2.2 _ (by omega))).trans ?_
  refine (ys4 405 (v := .ref (81)) rfl rfl rfl rfl).trans ?_
  refine (ys4 407 (v := .int (nI i)) rfl rfl rfl rfl).trans ?_
  refine (ys1 408 (x := nI 2) rfl rfl rfl).trans ?_
  refine (ys7_0 409 rfl rfl).trans ?_
  rw [show nI i + nI 2 = nI (i + 2) from nI_add i 2]
  refine (ylx 410 (N := N) rfl (j := (i + 2)) rfl (Or.inr hS1.1) hS1.2.1 (by omega) hS1.2.2.1 rfl (hS1.2.2.2 _ (by omega))).trans ?_
  refine (yc3 413 rfl rfl (Nat.le_of_ble_eq_true rfl) (Or.inr (by show ztg (zwi _ _) _ = _; rw [ztg_wi]; exact hm1)) rfl rfl hm).trans ?_
  refine (ys5 415 (L2 := [(6, .int (b)), (5, .int (k)), (4, .int (nI i)), (3, .ref (o)), (2, .ref (m)), (1, .ref (x)), (0, .ref (81))]) rfl rfl rfl rfl).trans ?_
  refine (ys4 416 (v := .ref (m)) rfl rfl rfl rfl).trans ?_
  refine (yc1 419 rfl rfl (Nat.le_of_ble_eq_true rfl) (Or.inr (by show ztg (zwi _ _) _ = _; rw [ztg_wi]; exact hm2)) rfl rfl ht).trans ?_
  refine (ys4 421 (v := .int (k)) rfl rfl rfl rfl).trans ?_
  refine ys18_0 424 rfl rfl (fun _ => ?_) (fun q => absurd rfl q)
  refine (ys4 428 (v := .int (k)) rfl rfl rfl rfl).trans ?_
  refine ys17_1 431 rfl rfl (fun hk0 => ?_) (fun hk0 => ?_)
  · obtain ⟨o1, o2, o3⟩ := ho hk0
    refine (ys4 432 (v := .ref (o)) rfl rfl rfl rfl).trans ?_
    refine (ys1 433 (x := nI 0) rfl rfl rfl).trans ?_
    refine (ys26l 434 rfl o1 (by decide) (by rw [o2]; decide) rfl).trans ?_
    refine (ys4 436 (v := .int (b)) rfl rfl rfl rfl).trans ?_
    refine (ys10 437 rfl rfl).trans ?_
    refine (ys11 438 (y := b.toInt64) rfl rfl).trans ?_
    rw [show zgl μ2 o (nI 0).toNatClampNeg = b.toInt64 from o3]
    show zden1 _ _ _ (_, _, .int (lg_cmp b.toInt64 b.toInt64) :: [], _, _, _) = _
    rw [lcmp_same]
    refine ys17_0 441 rfl rfl (fun _ => ?_) (fun q => absurd rfl q)
    refine (ys19 rfl).trans ?_
    exact fin
  · refine (ys19 rfl).trans ?_
    exact fin

set_option maxRecDepth 20000 in
theorem lawc_446 {μ0 μ1 μ2 : zM} {I0 I1 I2 : zFn} {c sl c1 s1 c2 s2 i N x m o : Nat} {xs : Nat → Int32} {k b : Int32} {rz : zR} (hi : i + 6 ≤ N) (hS0 : zSP μ0 I0 N xs) (hS1 : zSP μ1 I1 N xs) (hx : ztg μ0 x = 0) (hm1 : ztg μ1 m = 8) (hm2 : ztg μ2 m = 8) (hw : zden zcds 12 213 [.ref (x), .int (xs (i + 1)), .int (xs (i + 2)), .ref (o)] (zwi μ0 I0) = some (0, some (.int k), c1, s1, zwi μ1 I1)) (hm : zden zcds 12 165 [.ref (m), .int (xs (i + 1)), .int (xs (i + 2))] (zwi μ1 I1) = some (0, some (.int b), c2, s2, zwi μ2 I2)) (ht : zden zcds 12 124 [.ref (m)] (zwi μ2 I2) = some (0, some (.int k), 0, 0, zwi μ2 I2)) (ho : k = 0 → ztg μ2 o = 22 ∧ znl μ2 o = 1 ∧ zgl μ2 o 0 = b.toInt64) (hk : zden1 12 (zden zcds 12) zc232 (23, [(4, .int (nI (i + 6))), (3, .ref (o)), (2, .ref (m)), (1, .ref (x)), (0, .ref (81))], [], c + c1 + c2, sl + s1 + s2, zwi μ2 I2) = some rz) : zden1 12 (zden zcds 12) zc232 (446, [(4, .int (nI i)), (3, .ref (o)), (2, .ref (m)), (1, .ref (x)), (0, .ref (81))], [], c, sl, zwi μ0 I0) = some rz := by
  have fin : zden1 12 (zden zcds 12) zc232 (1226, [(6, .int (b)), (5, .int (k)), (4, .int (nI i)), (3, .ref (o)), (2, .ref (m)), (1, .ref (x)), (0, .ref (81))], [], c + c1 + c2 + 0, sl + s1 + s2 + 0, zwi μ2 I2) = some rz := by
    refine (ys6 1229 (y := nI (i + 6)) (L2 := [(4, .int (nI (i + 6))), (6, .int (b)), (5, .int (k)), (3, .ref (o)), (2, .ref (m)), (1, .ref (x)), (0, .ref (81))]) rfl rfl (nI_add i 6) rfl rfl).trans ?_
    refine (ys19 rfl).trans ?_
    exact zden1_fg (zfg_cons rfl (zfg_cons rfl (zfg_cons rfl (zfg_cons rfl (zfg_cons rfl zfg_nil))))) hk
  refine (ys4 447 (v := .ref (x)) rfl rfl rfl rfl).trans ?_
  refine (ys4 448 (v := .ref (81)) rfl rfl rfl rfl).trans ?_
  refine (ys4 450 (v := .int (nI i)) rfl rfl rfl rfl).trans ?_
  refine (ys1 451 (x := nI 1) rfl rfl rfl).trans ?_
  refine (ys7_0 452 rfl rfl).trans ?_
  rw [show nI i + nI 1 = nI (i + 1) from nI_add i 1]
  refine (ylx 453 (N := N) rfl (j := (i + 1)) rfl (Or.inr hS0.1) hS0.2.1 (by omega) hS0.2.2.1 rfl (hS0.2.2.2 _ (by omega))).trans ?_
  refine (ys4 454 (v := .ref (81)) rfl rfl rfl rfl).trans ?_
  refine (ys4 456 (v := .int (nI i)) rfl rfl rfl rfl).trans ?_
  refine (ys1 457 (x := nI 2) rfl rfl rfl).trans ?_
  refine (ys7_0 458 rfl rfl).trans ?_
  rw [show nI i + nI 2 = nI (i + 2) from nI_add i 2]
  refine (ylx 459 (N := N) rfl (j := (i + 2)) rfl (Or.inr hS0.1) hS0.2.1 (by omega) hS0.2.2.1 rfl (hS0.2.2.2 _ (by omega))).trans ?_
  refine (ys4 460 (v := .ref (o)) rfl rfl rfl rfl).trans ?_
  refine (yc4 463 rfl rfl (Nat.le_of_ble_eq_true rfl) (Or.inl rfl) rfl rfl hw).trans ?_
  refine (ys5 465 (L2 := [(5, .int (k)), (4, .int (nI i)), (3, .ref (o)), (2, .ref (m)), (1, .ref (x)), (0, .ref (81))]) rfl rfl rfl rfl).trans ?_
  refine (ys4 466 (v := .ref (m)) rfl rfl rfl rfl).trans ?_
  refine (ys4 467 (v := .ref (81)) rfl rfl rfl rfl).trans ?_
  refine (ys4 469 (v := .int (nI i)) rfl rfl rfl rfl).trans ?_
  refine (ys1 470 (x := nI 1) rfl rfl rfl).trans ?_
  refine (ys7_0 471 rfl rfl).trans ?_
  rw [show nI i + nI 1 = nI (i + 1) from nI_add i 1]
  refine (ylx 472 (N := N) rfl (j := (i + 1)) rfl (Or.inr hS1.1) hS1.2.1 (by omega) hS1.2.2.1 rfl (hS1.2.2.2 _ (by omega))).trans ?_
  refine (ys4 473 (v := .ref (81)) rfl rfl rfl rfl).trans ?_
  refine (ys4 475 (v := .int (nI i)) rfl rfl rfl rfl).trans ?_
  refine (ys1 476 (x := nI 2) rfl rfl rfl).trans ?_
  refine (ys7_0 477 rfl rfl).trans ?_
  rw [show nI i + nI 2 = nI (i + 2) from nI_add i 2]
  refine (ylx 478 (N := N) rfl (j := (i + 2)) rfl (Or.inr hS1.1) hS1.2.1 (by omega) hS1.2.2.1 rfl (hS1.2.2.2 _ (by omega))).trans ?_
  refine (yc3 481 rfl rfl (Nat.le_of_ble_eq_true rfl) (Or.inr (by show ztg (zwi _ _) _ = _; rw [ztg_wi]; exact hm1)) rfl rfl hm).trans ?_
  refine (ys5 483 (L2 := [(6, .int (b)), (5, .int (k)), (4, .int (nI i)), (3, .ref (o)), (2, .ref (m)), (1, .ref (x)), (0, .ref (81))]) rfl rfl rfl rfl).trans ?_
  refine (ys4 484 (v := .ref (m)) rfl rfl rfl rfl).trans ?_
  refine (yc1 487 rfl rfl (Nat.le_of_ble_eq_true rfl) (Or.inr (by show ztg (zwi _ _) _ = _; rw [ztg_wi]; exact hm2)) rfl rfl ht).trans ?_
  refine (ys4 489 (v := .int (k)) rfl rfl rfl rfl).trans ?_
  refine ys18_0 492 rfl rfl (fun _ => ?_) (fun q => absurd rfl q)
  refine (ys4 496 (v := .int (k)) rfl rfl rfl rfl).trans ?_
  refine ys17_1 499 rfl rfl (fun hk0 => ?_) (fun hk0 => ?_)
  · obtain ⟨o1, o2, o3⟩ := ho hk0
    refine (ys4 500 (v := .ref (o)) rfl rfl rfl rfl).trans ?_
    refine (ys1 501 (x := nI 0) rfl rfl rfl).trans ?_
    refine (ys26l 502 rfl o1 (by decide) (by rw [o2]; decide) rfl).trans ?_
    refine (ys4 504 (v := .int (b)) rfl rfl rfl rfl).trans ?_
    refine (ys10 505 rfl rfl).trans ?_
    refine (ys11 506 (y := b.toInt64) rfl rfl).trans ?_
    rw [show zgl μ2 o (nI 0).toNatClampNeg = b.toInt64 from o3]
    show zden1 _ _ _ (_, _, .int (lg_cmp b.toInt64 b.toInt64) :: [], _, _, _) = _
    rw [lcmp_same]
    refine ys17_0 509 rfl rfl (fun _ => ?_) (fun q => absurd rfl q)
    refine (ys19 rfl).trans ?_
    exact fin
  · refine (ys19 rfl).trans ?_
    exact fin

set_option maxRecDepth 20000 in
theorem lawc_514 {μ0 μ1 μ2 : zM} {I0 I1 I2 : zFn} {c sl c1 s1 c2 s2 i N x m o : Nat} {xs : Nat → Int32} {k b : Int32} {rz : zR} (hi : i + 6 ≤ N) (hS0 : zSP μ0 I0 N xs) (hS1 : zSP μ1 I1 N xs) (hx : ztg μ0 x = 0) (hm1 : ztg μ1 m = 8) (hm2 : ztg μ2 m = 8) (hw : zden zcds 12 214 [.ref (x), .int (xs (i + 1)), .int (xs (i + 2)), .ref (o)] (zwi μ0 I0) = some (0, some (.int k), c1, s1, zwi μ1 I1)) (hm : zden zcds 12 167 [.ref (m), .int (xs (i + 1)), .int (xs (i + 2))] (zwi μ1 I1) = some (0, some (.int b), c2, s2, zwi μ2 I2)) (ht : zden zcds 12 124 [.ref (m)] (zwi μ2 I2) = some (0, some (.int k), 0, 0, zwi μ2 I2)) (ho : k = 0 → ztg μ2 o = 22 ∧ znl μ2 o = 1 ∧ zgl μ2 o 0 = b.toInt64) (hk : zden1 12 (zden zcds 12) zc232 (23, [(4, .int (nI (i + 6))), (3, .ref (o)), (2, .ref (m)), (1, .ref (x)), (0, .ref (81))], [], c + c1 + c2, sl + s1 + s2, zwi μ2 I2) = some rz) : zden1 12 (zden zcds 12) zc232 (514, [(4, .int (nI i)), (3, .ref (o)), (2, .ref (m)), (1, .ref (x)), (0, .ref (81))], [], c, sl, zwi μ0 I0) = some rz := by
  have fin : zden1 12 (zden zcds 12) zc232 (1226, [(6, .int (b)), (5, .int (k)), (4, .int (nI i)), (3, .ref (o)), (2, .ref (m)), (1, .ref (x)), (0, .ref (81))], [], c + c1 + c2 + 0, sl + s1 + s2 + 0, zwi μ2 I2) = some rz := by
    refine (ys6 1229 (y := nI (i + 6)) (L2 := [(4, .int (nI (i + 6))), (6, .int (b)), (5, .int (k)), (3, .ref (o)), (2, .ref (m)), (1, .ref (x)), (0, .ref (81))]) rfl rfl (nI_add i 6) rfl rfl).trans ?_
    refine (ys19 rfl).trans ?_
    exact zden1_fg (zfg_cons rfl (zfg_cons rfl (zfg_cons rfl (zfg_cons rfl (zfg_cons rfl zfg_nil))))) hk
  refine (ys4 515 (v := .ref (x)) rfl rfl rfl rfl).trans ?_
  refine (ys4 516 (v := .ref (81)) rfl rfl rfl rfl).trans ?_
  refine (ys4 518 (v := .int (nI i)) rfl rfl rfl rfl).trans ?_
  refine (ys1 519 (x := nI 1) rfl rfl rfl).trans ?_
  refine (ys7_0 520 rfl rfl).trans ?_
  rw [show nI i + nI 1 = nI (i + 1) from nI_add i 1]
  refine (ylx 521 (N := N) rfl (j := (i + 1)) rfl (Or.inr hS0.1) hS0.2.1 (by omega) hS0.2.2.1 rfl (hS0.2.2.2 _ (by omega))).trans ?_
  refine (ys4 522 (v := .ref (81)) rfl rfl rfl rfl).trans ?_
  refine (ys4 524 (v := .int (nI i)) rfl rfl rfl rfl).trans ?_
  refine (ys1 525 (x := nI 2) rfl rfl rfl).trans ?_
  refine (ys7_0 526 rfl rfl).trans ?_
  rw [show nI i + nI 2 = nI (i + 2) from nI_add i 2]
  refine (ylx 527 (N := N) rfl (j := (i + 2)) rfl (Or.inr hS0.1) hS0.2.1 (by omega) hS0.2.2.1 rfl (hS0.2.2.2 _ (by omega))).trans ?_
  refine (ys4 528 (v := .ref (o)) rfl rfl rfl rfl).trans ?_
  refine (yc4 531 rfl rfl (Nat.le_of_ble_eq_true rfl) (Or.inl rfl) rfl rfl hw).trans ?_
  refine (ys5 533 (L2 := [(5, .int (k)), (4, .int (nI i)), (3, .ref (o)), (2, .ref (m)), (1, .ref (x)), (0, .ref (81))]) rfl rfl rfl rfl).trans ?_
  refine (ys4 534 (v := .ref (m)) rfl rfl rfl rfl).trans ?_
  refine (ys4 535 (v := .ref (81)) rfl rfl rfl rfl).trans ?_
  refine (ys4 537 (v := .int (nI i)) rfl rfl rfl rfl).trans ?_
  refine (ys1 538 (x := nI 1) rfl rfl rfl).trans ?_
  refine (ys7_0 539 rfl rfl).trans ?_
  rw [show nI i + nI 1 = nI (i + 1) from nI_add i 1]
  refine (ylx 540 (N := N) rfl (j := (i + 1)) rfl (Or.inr hS1.1) hS1.2.1 (by omega) hS1.2.2.1 rfl (hS1.2.2.2 _ (by omega))).trans ?_
  refine (ys4 541 (v := .ref (81)) rfl rfl rfl rfl).trans ?_
  refine (ys4 543 (v := .int (nI i)) rfl rfl rfl rfl).trans ?_
  refine (ys1 544 (x := nI 2) rfl rfl rfl).trans ?_
  refine (ys7_0 545 rfl rfl).trans ?_
  rw [show nI i + nI 2 = nI (i + 2) from nI_add i 2]
  refine (ylx 546 (N := N) rfl (j := (i + 2)) rfl (Or.inr hS1.1) hS1.2.1 (by omega) hS1.2.2.1 rfl (hS1.2.2.2 _ (by omega))).trans ?_
  refine (yc3 549 rfl rfl (Nat.le_of_ble_eq_true rfl) (Or.inr (by show ztg (zwi _ _) _ = _; rw [ztg_wi]; exact hm1)) rfl rfl hm).trans ?_
  refine (ys5 551 (L2 := [(6, .int (b)), (5, .int (k)), (4, .int (nI i)), (3, .ref (o)), (2, .ref (m)), (1, .ref (x)), (0, .ref (81))]) rfl rfl rfl rfl).trans ?_
  refine (ys4 552 (v := .ref (m)) rfl rfl rfl rfl).trans ?_
  refine (yc1 555 rfl rfl (Nat.le_of_ble_eq_true rfl) (Or.inr (by show ztg (zwi _ _) _ = _; rw [ztg_wi]; exact hm2)) rfl rfl ht).trans ?_
  refine (ys4 557 (v := .int (k)) rfl rfl rfl rfl).trans ?_
  refine ys18_0 560 rfl rfl (fun _ => ?_) (fun q => absurd rfl q)
  refine (ys4 564 (v := .int (k)) rfl rfl rfl rfl).trans ?_
  refine ys17_1 567 rfl rfl (fun hk0 => ?_) (fun hk0 => ?_)
  · obtain ⟨o1, o2, o3⟩ := ho hk0
    refine (ys4 568 (v := .ref (o)) rfl rfl rfl rfl).trans ?_
    refine (ys1 569 (x := nI 0) rfl rfl rfl).trans ?_
    refine (ys26l 570 rfl o1 (by decide) (by rw [o2]; decide) rfl).trans ?_
    refine (ys4 572 (v := .int (b)) rfl rfl rfl rfl).trans ?_
    refine (ys10 573 rfl rfl).trans ?_
    refine (ys11 574 (y := b.toInt64) rfl rfl).trans ?_
    rw [show zgl μ2 o (nI 0).toNatClampNeg = b.toInt64 from o3]
    show zden1 _ _ _ (_, _, .int (lg_cmp b.toInt64 b.toInt64) :: [], _, _, _) = _
    rw [lcmp_same]
    refine ys17_0 577 rfl rfl (fun _ => ?_) (fun q => absurd rfl q)
    refine (ys19 rfl).trans ?_
    exact fin
  · refine (ys19 rfl).trans ?_
    exact fin

set_option maxRecDepth 20000 in
theorem lawc_582 {μ0 μ1 μ2 : zM} {I0 I1 I2 : zFn} {c sl c1 s1 c2 s2 i N x m o : Nat} {xs : Nat → Int32} {k b : Int32} {rz : zR} (hi : i + 6 ≤ N) (hS0 : zSP μ0 I0 N xs) (hS1 : zSP μ1 I1 N xs) (hx : ztg μ0 x = 0) (hm1 : ztg μ1 m = 8) (hm2 : ztg μ2 m = 8) (hw : zden zcds 12 215 [.ref (x), .int (xs (i + 1)), .int (xs (i + 2)), .ref (o)] (zwi μ0 I0) = some (0, some (.int k), c1, s1, zwi μ1 I1)) (hm : zden zcds 12 169 [.ref (m), .int (xs (i + 1)), .int (xs (i + 2))] (zwi μ1 I1) = some (0, some (.int b), c2, s2, zwi μ2 I2)) (ht : zden zcds 12 124 [.ref (m)] (zwi μ2 I2) = some (0, some (.int k), 0, 0, zwi μ2 I2)) (ho : k = 0 → ztg μ2 o = 22 ∧ znl μ2 o = 1 ∧ zgl μ2 o 0 = b.toInt64) (hk : zden1 12 (zden zcds 12) zc232 (23, [(4, .int (nI (i + 6))), (3, .ref (o)), (2, .ref (m)), (1, .ref (x)), (0, .ref (81))], [], c + c1 + c2, sl + s1 + s2, zwi μ2 I2) = some rz) : zden1 12 (zden zcds 12) zc232 (582, [(4, .int (nI i)), (3, .ref (o)), (2, .ref (m)), (1, .ref (x)), (0, .ref (81))], [], c, sl, zwi μ0 I0) = some rz := by
  have fin : zden1 12 (zden zcds 12) zc232 (1226, [(6, .int (b)), (5, .int (k)), (4, .int (nI i)), (3, .ref (o)), (2, .ref (m)), (1, .ref (x)), (0, .ref (81))], [], c + c1 + c2 + 0, sl + s1 + s2 + 0, zwi μ2 I2) = some rz := by
    refine (ys6 1229 (y := nI (i + 6)) (L2 := [(4, .int (nI (i + 6))), (6, .int (b)), (5, .int (k)), (3, .ref (o)), (2, .ref (m)), (1, .ref (x)), (0, .ref (81))]) rfl rfl (nI_add i 6) rfl rfl).trans ?_
    refine (ys19 rfl).trans ?_
    exact zden1_fg (zfg_cons rfl (zfg_cons rfl (zfg_cons rfl (zfg_cons rfl (zfg_cons rfl zfg_nil))))) hk
  refine (ys4 583 (v := .ref (x)) rfl rfl rfl rfl).trans ?_
  refine (ys4 584 (v := .ref (81)) rfl rfl rfl rfl).trans ?_
  refine (ys4 586 (v := .int (nI i)) rfl rfl rfl rfl).trans ?_
  refine (ys1 587 (x := nI 1) rfl rfl rfl).trans ?_
  refine (ys7_0 588 rfl rfl).trans ?_
  rw [show nI i + nI 1 = nI (i + 1) from nI_add i 1]
  refine (ylx 589 (N := N) rfl (j := (i + 1)) rfl (Or.inr hS0.1) hS0.2.1 (by omega) hS0.2.2.1 rfl (hS0.2.2.2 _ (by omega))).trans ?_
  refine (ys4 590 (v := .ref (81)) rfl rfl rfl rfl).trans ?_
  refine (ys4 592 (v := .int (nI i)) rfl rfl rfl rfl).trans ?_
  refine (ys1 593 (x := nI 2) rfl rfl rfl).trans ?_
  refine (ys7_0 594 rfl rfl).trans ?_
  rw [show nI i + nI 2 = nI (i + 2) from nI_add i 2]
  refine (ylx 595 (N := N) rfl (j := (i + 2)) rfl (Or.inr hS0.1) hS0.2.1 (by omega) hS0.2.2.1 rfl (hS0.2.2.2 _ (by omega))).trans ?_
  refine (ys4 596 (v := .ref (o)) rfl rfl rfl rfl).trans ?_
  refine (yc4 599 rfl rfl (Nat.le_of_ble_eq_true rfl) (Or.inl rfl) rfl rfl hw).trans ?_
  refine (ys5 601 (L2 := [(5, .int (k)), (4, .int (nI i)), (3, .ref (o)), (2, .ref (m)), (1, .ref (x)), (0, .ref (81))]) rfl rfl rfl rfl).trans ?_
  refine (ys4 602 (v := .ref (m)) rfl rfl rfl rfl).trans ?_
  refine (ys4 603 (v := .ref (81)) rfl rfl rfl rfl).trans ?_
  refine (ys4 605 (v := .int (nI i)) rfl rfl rfl rfl).trans ?_
  refine (ys1 606 (x := nI 1) rfl rfl rfl).trans ?_
  refine (ys7_0 607 rfl rfl).trans ?_
  rw [show nI i + nI 1 = nI (i + 1) from nI_add i 1]
  refine (ylx 608 (N := N) rfl (j := (i + 1)) rfl (Or.inr hS1.1) hS1.2.1 (by omega) hS1.2.2.1 rfl (hS1.2.2.2 _ (by omega))).trans ?_
  refine (ys4 609 (v := .ref (81)) rfl rfl rfl rfl).trans ?_
  refine (ys4 611 (v := .int (nI i)) rfl rfl rfl rfl).trans ?_
  refine (ys1 612 (x := nI 2) rfl rfl rfl).trans ?_
  refine (ys7_0 613 rfl rfl).trans ?_
  rw [show nI i + nI 2 = nI (i + 2) from nI_add i 2]
  refine (ylx 614 (N := N) rfl (j := (i + 2)) rfl (Or.inr hS1.1) hS1.2.1 (by omega) hS1.2.2.1 rfl (hS1.2.2.2 _ (by omega))).trans ?_
  refine (yc3 617 rfl rfl (Nat.le_of_ble_eq_true rfl) (Or.inr (by show ztg (zwi _ _) _ = _; rw [ztg_wi]; exact hm1)) rfl rfl hm).trans ?_
  refine (ys5 619 (L2 := [(6, .int (b)), (5, .int (k)), (4, .int (nI i)), (3, .ref (o)), (2, .ref (m)), (1, .ref (x)), (0, .ref (81))]) rfl rfl rfl rfl).trans ?_
  refine (ys4 620 (v := .ref (m)) rfl rfl rfl rfl).trans ?_
  refine (yc1 623 rfl rfl (Nat.le_of_ble_eq_true rfl) (Or.inr (by show ztg (zwi _ _) _ = _; rw [ztg_wi]; exact hm2)) rfl rfl ht).trans ?_
  refine (ys4 625 (v := .int (k)) rfl rfl rfl rfl).trans ?_
  refine ys18_0 628 rfl rfl (fun _ => ?_) (fun q => absurd rfl q)
  refine (ys4 632 (v := .int (k)) rfl rfl rfl rfl).trans ?_
  refine ys17_1 635 rfl rfl (fun hk0 => ?_) (fun hk0 => ?_)
  · obtain ⟨o1, o2, o3⟩ := ho hk0
    refine (ys4 636 (v := .ref (o)) rfl rfl rfl rfl).trans ?_
    refine (ys1 637 (x := nI 0) rfl rfl rfl).trans ?_
    refine (ys26l 638 rfl o1 (by decide) (by rw [o2]; decide) rfl).trans ?_
    refine (ys4 640 (v := .int (b)) rfl rfl rfl rfl).trans ?_
    refine (ys10 641 rfl rfl).trans ?_
    refine (ys11 642 (y := b.toInt64) rfl rfl).trans ?_
    rw [show zgl μ2 o (nI 0).toNatClampNeg = b.toInt64 from o3]
    show zden1 _ _ _ (_, _, .int (lg_cmp b.toInt64 b.toInt64) :: [], _, _, _) = _
    rw [lcmp_same]
    refine ys17_0 645 rfl rfl (fun _ => ?_) (fun q => absurd rfl q)
    refine (ys19 rfl).trans ?_
    exact fin
  · refine (ys19 rfl).trans ?_
    exact fin

set_option maxRecDepth 20000 in
theorem lawc_650 {μ0 μ1 μ2 : zM} {I0 I1 I2 : zFn} {c sl c1 s1 c2 s2 i N x m o : Nat} {xs : Nat → Int32} {k b : Int32} {rz : zR} (hi : i + 6 ≤ N) (hS0 : zSP μ0 I0 N xs) (hS1 : zSP μ1 I1 N xs) (hx : ztg μ0 x = 0) (hm1 : ztg μ1 m = 8) (hm2 : ztg μ2 m = 8) (hw : zden zcds 12 216 [.ref (x), .int (xs (i + 1)), .int (xs (i + 2)), .ref (o)] (zwi μ0 I0) = some (0, some (.int k), c1, s1, zwi μ1 I1)) (hm : zden zcds 12 170 [.ref (m), .int (xs (i + 1)), .int (xs (i + 2))] (zwi μ1 I1) = some (0, some (.int b), c2, s2, zwi μ2 I2)) (ht : zden zcds 12 124 [.ref (m)] (zwi μ2 I2) = some (0, some (.int k), 0, 0, zwi μ2 I2)) (ho : k = 0 → ztg μ2 o = 22 ∧ znl μ2 o = 1 ∧ zgl μ2 o 0 = b.toInt64) (hk : zden1 12 (zden zcds 12) zc232 (23, [(4, .int (nI (i + 6))), (3, .ref (o)), (2, .ref (m)), (1, .ref (x)), (0, .ref (81))], [], c + c1 + c2, sl + s1 + s2, zwi μ2 I2) = some rz) : zden1 12 (zden zcds 12) zc232 (650, [(4, .int (nI i)), (3, .ref (o)), (2, .ref (m)), (1, .ref (x)), (0, .ref (81))], [], c, sl, zwi μ0 I0) = some rz := by
  have fin : zden1 12 (zden zcds 12) zc232 (1226, [(6, .int (b)), (5, .int (k)), (4, .int (nI i)), (3, .ref (o)), (2, .ref (m)), (1, .ref (x)), (0, .ref (81))], [], c + c1 + c2 + 0, sl + s1 + s2 + 0, zwi μ2 I2) = some rz := by
    refine (ys6 1229 (y := nI (i + 6)) (L2 := [(4, .int (nI (i + 6))), (6, .int (b)), (5, .int (k)), (3, .ref (o)), (2, .ref (m)), (1, .ref (x)), (0, .ref (81))]) rfl rfl (nI_add i 6) rfl rfl).trans ?_
    refine (ys19 rfl).trans ?_
    exact zden1_fg (zfg_cons rfl (zfg_cons rfl (zfg_cons rfl (zfg_cons rfl (zfg_cons rfl zfg_nil))))) hk
  refine (ys4 651 (v := .ref (x)) rfl rfl rfl rfl).trans ?_
  refine (ys4 652 (v := .ref (81)) rfl rfl rfl rfl).trans ?_
  refine (ys4 654 (v := .int (nI i)) rfl rfl rfl rfl).trans ?_
  refine (ys1 655 (x := nI 1) rfl rfl rfl).trans ?_
  refine (ys7_0 656 rfl rfl).trans ?_
  rw [show nI i + nI 1 = nI (i + 1) from nI_add i 1]
  refine (ylx 657 (N := N) rfl (j := (i + 1)) rfl (Or.inr hS0.1) hS0.2.1 (by omega) hS0.2.2.1 rfl (hS0.2.2.2 _ (by omega))).trans ?_
  refine (ys4 658 (v := .ref (81)) rfl rfl rfl rfl).trans ?_
  refine (ys4 660 (v := .int (nI i)) rfl rfl rfl rfl).trans ?_
  refine (ys1 661 (x := nI 2) rfl rfl rfl).trans ?_
  refine (ys7_0 662 rfl rfl).trans ?_
  rw [show nI i + nI 2 = nI (i + 2) from nI_add i 2]
  refine (ylx 663 (N := N) rfl (j := (i + 2)) rfl (Or.inr hS0.1) hS0.2.1 (by omega) hS0.2.2.1 rfl (hS0.2.2.2 _ (by omega))).trans ?_
  refine (ys4 664 (v := .ref (o)) rfl rfl rfl rfl).trans ?_
  refine (yc4 667 rfl rfl (Nat.le_of_ble_eq_true rfl) (Or.inl rfl) rfl rfl hw).trans ?_
  refine (ys5 669 (L2 := [(5, .int (k)), (4, .int (nI i)), (3, .ref (o)), (2, .ref (m)), (1, .ref (x)), (0, .ref (81))]) rfl rfl rfl rfl).trans ?_
  refine (ys4 670 (v := .ref (m)) rfl rfl rfl rfl).trans ?_
  refine (ys4 671 (v := .ref (81)) rfl rfl rfl rfl).trans ?_
  refine (ys4 673 (v := .int (nI i)) rfl rfl rfl rfl).trans ?_
  refine (ys1 674 (x := nI 1) rfl rfl rfl).trans ?_
  refine (ys7_0 675 rfl rfl).trans ?_
  rw [show nI i + nI 1 = nI (i + 1) from nI_add i 1]
  refine (ylx 676 (N := N) rfl (j := (i + 1)) rfl (Or.inr hS1.1) hS1.2.1 (by omega) hS1.2.2.1 rfl (hS1.2.2.2 _ (by omega))).trans ?_
  refine (ys4 677 (v := .ref (81)) rfl rfl rfl rfl).trans ?_
  refine (ys4 679 (v := .int (nI i)) rfl rfl rfl rfl).trans ?_
  refine (ys1 680 (x := nI 2) rfl rfl rfl).trans ?_
  refine (ys7_0 681 rfl rfl).trans ?_
  rw [show nI i + nI 2 = nI (i + 2) from nI_add i 2]
  refine (ylx 682 (N := N) rfl (j := (i + 2)) rfl (Or.inr hS1.1) hS1.2.1 (by omega) hS1.2.2.1 rfl (hS1.2.2.2 _ (by omega))).trans ?_
  refine (yc3 685 rfl rfl (Nat.le_of_ble_eq_true rfl) (Or.inr (by show ztg (zwi _ _) _ = _; rw [ztg_wi]; exact hm1)) rfl rfl hm).trans ?_
  refine (ys5 687 (L2 := [(6, .int (b)), (5, .int (k)), (4, .int (nI i)), (3, .ref (o)), (2, .ref (m)), (1, .ref (x)), (0, .ref (81))]) rfl rfl rfl rfl).trans ?_
  refine (ys4 688 (v := .ref (m)) rfl rfl rfl rfl).trans ?_
  refine (yc1 691 rfl rfl (Nat.le_of_ble_eq_true rfl) (Or.inr (by show ztg (zwi _ _) _ = _; rw [ztg_wi]; exact hm2)) rfl rfl ht).trans ?_
  refine (ys4 693 (v := .int (k)) rfl rfl rfl rfl).trans ?_
  refine ys18_0 696 rfl rfl (fun _ => ?_) (fun q => absurd rfl q)
  refine (ys4 700 (v := .int (k)) rfl rfl rfl rfl).trans ?_
  refine ys17_1 703 rfl rfl (fun hk0 => ?_) (fun hk0 => ?_)
  · obtain ⟨o1, o2, o3⟩ := ho hk0
    refine (ys4 704 (v := .ref (o)) rfl rfl rfl rfl).trans ?_
    refine (ys1 705 (x := nI 0) rfl rfl rfl).trans ?_
    refine (ys26l 706 rfl o1 (by decide) (by rw [o2]; decide) rfl).trans ?_
    refine (ys4 708 (v := .int (b)) rfl rfl rfl rfl).trans ?_
    refine (ys10 709 rfl rfl).trans ?_
    refine (ys11 710 (y := b.toInt64) rfl rfl).trans ?_
    rw [show zgl μ2 o (nI 0).toNatClampNeg = b.toInt64 from o3]
    show zden1 _ _ _ (_, _, .int (lg_cmp b.toInt64 b.toInt64) :: [], _, _, _) = _
    rw [lcmp_same]
    refine ys17_0 713 rfl rfl (fun _ => ?_) (fun q => absurd rfl q)
    refine (ys19 rfl).trans ?_
    exact fin
  · refine (ys19 rfl).trans ?_
    exact fin

set_option maxRecDepth 20000 in
theorem lawc_718 {μ0 μ1 μ2 : zM} {I0 I1 I2 : zFn} {c sl c1 s1 c2 s2 i N x m o : Nat} {xs : Nat → Int32} {k b : Int32} {rz : zR} (hi : i + 6 ≤ N) (hS0 : zSP μ0 I0 N xs) (hS1 : zSP μ1 I1 N xs) (hx : ztg μ0 x = 0) (hm1 : ztg μ1 m = 8) (hm2 : ztg μ2 m = 8) (hw : zden zcds 12 217 [.ref (x), .int (xs (i + 1)), .int (xs (i + 2)), .int (xs (i + 3)), .ref (o)] (zwi μ0 I0) = some (0, some (.int k), c1, s1, zwi μ1 I1)) (hm : zden zcds 12 171 [.ref (m), .int (xs (i + 1)), .int (xs (i + 2)), .int (xs (i + 3))] (zwi μ1 I1) = some (0, some (.int b), c2, s2, zwi μ2 I2)) (ht : zden zcds 12 124 [.ref (m)] (zwi μ2 I2) = some (0, some (.int k), 0, 0, zwi μ2 I2)) (ho : k = 0 → ztg μ2 o = 22 ∧ znl μ2 o = 1 ∧ zgl μ2 o 0 = b.toInt64) (hk : zden1 12 (zden zcds 12) zc232 (23, [(4, .int (nI (i + 6))), (3, .ref (o)), (2, .ref (m)), (1, .ref (x)), (0, .ref (81))], [], c + c1 + c2, sl + s1 + s2, zwi μ2 I2) = some rz) : zden1 12 (zden zcds 12) zc232 (718, [(4, .int (nI i)), (3, .ref (o)), (2, .ref (m)), (1, .ref (x)), (0, .ref (81))], [], c, sl, zwi μ0 I0) = some rz := by
  have fin : zden1 12 (zden zcds 12) zc232 (1226, [(6, .int (b)), (5, .int (k)), (4, .int (nI i)), (3, .ref (o)), (2, .ref (m)), (1, .ref (x)), (0, .ref (81))], [], c + c1 + c2 + 0, sl + s1 + s2 + 0, zwi μ2 I2) = some rz := by
    refine (ys6 1229 (y := nI (i + 6)) (L2 := [(4, .int (nI (i + 6))), (6, .int (b)), (5, .int (k)), (3, .ref (o)), (2, .ref (m)), (1, .ref (x)), (0, .ref (81))]) rfl rfl (nI_add i 6) rfl rfl).trans ?_
    refine (ys19 rfl).trans ?_
    exact zden1_fg (zfg_cons rfl (zfg_cons rfl (zfg_cons rfl (zfg_cons rfl (zfg_cons rfl zfg_nil))))) hk
  refine (ys4 719 (v := .ref (x)) rfl rfl rfl rfl).trans ?_
  refine (ys4 720 (v := .ref (81)) rfl rfl rfl rfl).trans ?_
  refine (ys4 722 (v := .int (nI i)) rfl rfl rfl rfl).trans ?_
  refine (ys1 723 (x := nI 1) rfl rfl rfl).trans ?_
  refine (ys7_0 724 rfl rfl).trans ?_
  rw [show nI i + nI 1 = nI (i + 1) from nI_add i 1]
  refine (ylx 725 (N := N) rfl (j := (i + 1)) rfl (Or.inr hS0.1) hS0.2.1 (by omega) hS0.2.2.1 rfl (hS0.2.2.2 _ (by omega))).trans ?_
  refine (ys4 726 (v := .ref (81)) rfl rfl rfl rfl).trans ?_
  refine (ys4 728 (v := .int (nI i)) rfl rfl rfl rfl).trans ?_
  refine (ys1 729 (x := nI 2) rfl rfl rfl).trans ?_
  refine (ys7_0 730 rfl rfl).trans ?_
  rw [show nI i + nI 2 = nI (i + 2) from nI_add i 2]
  refine (ylx 731 (N := N) rfl (j := (i + 2)) rfl (Or.inr hS0.1) hS0.2.1 (by omega) hS0.2.2.1 rfl (hS0.2.2.2 _ (by omega))).trans ?_
  refine (ys4 732 (v := .ref (81)) rfl rfl rfl rfl).trans ?_
  refine (ys4 734 (v := .int (nI i)) rfl rfl rfl rfl).trans ?_
  refine (ys1 735 (x := nI 3) rfl rfl rfl).trans ?_
  refine (ys7_0 736 rfl rfl).trans ?_
  rw [show nI i + nI 3 = nI (i + 3) from nI_add i 3]
  refine (ylx 737 (N := N) rfl (j := (i + 3)) rfl (Or.inr hS0.1) hS0.2.1 (by omega) hS0.2.2.1 rfl (hS0.2.2.2 _ (by omega))).trans ?_
  refine (ys4 738 (v := .ref (o)) rfl rfl rfl rfl).trans ?_
  refine (yc5 741 rfl rfl (Nat.le_of_ble_eq_true rfl) (Or.inl rfl) rfl rfl hw).trans ?_
  refine (ys5 743 (L2 := [(5, .int (k)), (4, .int (nI i)), (3, .ref (o)), (2, .ref (m)), (1, .ref (x)), (0, .ref (81))]) rfl rfl rfl rfl).trans ?_
  refine (ys4 744 (v := .ref (m)) rfl rfl rfl rfl).trans ?_
  refine (ys4 745 (v := .ref (81)) rfl rfl rfl rfl).trans ?_
  refine (ys4 747 (v := .int (nI i)) rfl rfl rfl rfl).trans ?_
  refine (ys1 748 (x := nI 1) rfl rfl rfl).trans ?_
  refine (ys7_0 749 rfl rfl).trans ?_
  rw [show nI i + nI 1 = nI (i + 1) from nI_add i 1]
  refine (ylx 750 (N := N) rfl (j := (i + 1)) rfl (Or.inr hS1.1) hS1.2.1 (by omega) hS1.2.2.1 rfl (hS1.2.2.2 _ (by omega))).trans ?_
  refine (ys4 751 (v := .ref (81)) rfl rfl rfl rfl).trans ?_
  refine (ys4 753 (v := .int (nI i)) rfl rfl rfl rfl).trans ?_
  refine (ys1 754 (x := nI 2) rfl rfl rfl).trans ?_
  refine (ys7_0 755 rfl rfl).trans ?_
  rw [show nI i + nI 2 = nI (i + 2) from nI_add i 2]
  refine (ylx 756 (N := N) rfl (j := (i + 2)) rfl (Or.inr hS1.1) hS1.2.1 (by omega) hS1.2.2.1 rfl (hS1.2.2.2 _ (by omega))).trans ?_
  refine (ys4 757 (v := .ref (81)) rfl rfl rfl rfl).trans ?_
  refine (ys4 759 (v := .int (nI i)) rfl rfl rfl rfl).trans ?_
  refine (ys1 760 (x := nI 3) rfl rfl rfl).trans ?_
  refine (ys7_0 761 rfl rfl).trans ?_
  rw [show nI i + nI 3 = nI (i + 3) from nI_add i 3]
  refine (ylx 762 (N := N) rfl (j := (i + 3)) rfl (Or.inr hS1.1) hS1.2.1 (by omega) hS1.2.2.1 rfl (hS1.2.2.2 _ (by omega))).trans ?_
  refine (yc4 765 rfl rfl (Nat.le_of_ble_eq_true rfl) (Or.inr (by show ztg (zwi _ _) _ = _; rw [ztg_wi]; exact hm1)) rfl rfl hm).trans ?_
  refine (ys5 767 (L2 := [(6, .int (b)), (5, .int (k)), (4, .int (nI i)), (3, .ref (o)), (2, .ref (m)), (1, .ref (x)), (0, .ref (81))]) rfl rfl rfl rfl).trans ?_
  refine (ys4 768 (v := .ref (m)) rfl rfl rfl rfl).trans ?_
  refine (yc1 771 rfl rfl (Nat.le_of_ble_eq_true rfl) (Or.inr (by show ztg (zwi _ _) _ = _; rw [ztg_wi]; exact hm2)) rfl rfl ht).trans ?_
  refine (ys4 773 (v := .int (k)) rfl rfl rfl rfl).trans ?_
  refine ys18_0 776 rfl rfl (fun _ => ?_) (fun q => absurd rfl q)
  refine (ys4 780 (v := .int (k)) rfl rfl rfl rfl).trans ?_
  refine ys17_1 783 rfl rfl (fun hk0 => ?_) (fun hk0 => ?_)
  · obtain ⟨o1, o2, o3⟩ := ho hk0
    refine (ys4 784 (v := .ref (o)) rfl rfl rfl rfl).trans ?_
    refine (ys1 785 (x := nI 0) rfl rfl rfl).trans ?_
    refine (ys26l 786 rfl o1 (by decide) (by rw [o2]; decide) rfl).trans ?_
    refine (ys4 788 (v := .int (b)) rfl rfl rfl rfl).trans ?_
    refine (ys10 789 rfl rfl).trans ?_
    refine (ys11 790 (y := b.toInt64) rfl rfl).trans ?_
    rw [show zgl μ2 o (nI 0).toNatClampNeg = b.toInt64 from o3]
    show zden1 _ _ _ (_, _, .int (lg_cmp b.toInt64 b.toInt64) :: [], _, _, _) = _
    rw [lcmp_same]
    refine ys17_0 793 rfl rfl (fun _ => ?_) (fun q => absurd rfl q)
    refine (ys19 rfl).trans ?_
    exact fin
  · refine (ys19 rfl).trans ?_
    exact fin

set_option maxRecDepth 20000 in
theorem lawc_798 {μ0 μ1 μ2 : zM} {I0 I1 I2 : zFn} {c sl c1 s1 c2 s2 i N x m o : Nat} {xs : Nat → Int32} {k b : Int32} {rz : zR} (hi : i + 6 ≤ N) (hS0 : zSP μ0 I0 N xs) (hS1 : zSP μ1 I1 N xs) (hx : ztg μ0 x = 0) (hm1 : ztg μ1 m = 8) (hm2 : ztg μ2 m = 8) (hw : zden zcds 12 218 [.ref (x), .int (xs (i + 1)), .ref (o)] (zwi μ0 I0) = some (0, some (.int k), c1, s1, zwi μ1 I1)) (hm : zden zcds 12 172 [.ref (m), .int (xs (i + 1))] (zwi μ1 I1) = some (0, some (.int b), c2, s2, zwi μ2 I2)) (ht : zden zcds 12 124 [.ref (m)] (zwi μ2 I2) = some (0, some (.int k), 0, 0, zwi μ2 I2)) (ho : k = 0 → ztg μ2 o = 22 ∧ znl μ2 o = 1 ∧ zgl μ2 o 0 = b.toInt64) (hk : zden1 12 (zden zcds 12) zc232 (23, [(4, .int (nI (i + 6))), (3, .ref (o)), (2, .ref (m)), (1, .ref (x)), (0, .ref (81))], [], c + c1 + c2, sl + s1 + s2, zwi μ2 I2) = some rz) : zden1 12 (zden zcds 12) zc232 (798, [(4, .int (nI i)), (3, .ref (o)), (2, .ref (m)), (1, .ref (x)), (0, .ref (81))], [], c, sl, zwi μ0 I0) = some rz := by
  have fin : zden1 12 (zden zcds 12) zc232 (1226, [(6, .int (b)), (5, .int (k)), (4, .int (nI i)), (3, .ref (o)), (2, .ref (m)), (1, .ref (x)), (0, .ref (81))], [], c + c1 + c2 + 0, sl + s1 + s2 + 0, zwi μ2 I2) = some rz := by
    refine (ys6 1229 (y := nI (i + 6)) (L2 := [(4, .int (nI (i + 6))), (6, .int (b)), (5, .int (k)), (3, .ref (o)), (2, .ref (m)), (1, .ref (x)), (0, .ref (81))]) rfl rfl (nI_add i 6) rfl rfl).trans ?_
    refine (ys19 rfl).trans ?_
    exact zden1_fg (zfg_cons rfl (zfg_cons rfl (zfg_cons rfl (zfg_cons rfl (zfg_cons rfl zfg_nil))))) hk
  refine (ys4 799 (v := .ref (x)) rfl rfl rfl rfl).trans ?_
  refine (ys4 800 (v := .ref (81)) rfl rfl rfl rfl).trans ?_
  refine (ys4 802 (v := .int (nI i)) rfl rfl rfl rfl).trans ?_
  refine (ys1 803 (x := nI 1) rfl rfl rfl).trans ?_
  refine (ys7_0 804 rfl rfl).trans ?_
  rw [show nI i + nI 1 = nI (i + 1) from nI_add i 1]
  refine (ylx 805 (N := N) rfl (j := (i + 1)) rfl (Or.inr hS0.1) hS0.2.1 (by omega) hS0.2.2.1 rfl (hS0.2.2.2 _ (by omega))).trans ?_
  refine (ys4 806 (v := .ref (o)) rfl rfl rfl rfl).trans ?_
  refine (yc3 809 rfl rfl (Nat.le_of_ble_eq_true rfl) (Or.inl rfl) rfl rfl hw).trans ?_
  refine (ys5 811 (L2 := [(5, .int (k)), (4, .int (nI i)), (3, .ref (o)), (2, .ref (m)), (1, .ref (x)), (0, .ref (81))]) rfl rfl rfl rfl).trans ?_
  refine (ys4 812 (v := .ref (m)) rfl rfl rfl rfl).trans ?_
  refine (ys4 813 (v := .ref (81)) rfl rfl rfl rfl).trans ?_
  refine (ys4 815 (v := .int (nI i)) rfl rfl rfl rfl).trans ?_
  refine (ys1 816 (x := nI 1) rfl rfl rfl).trans ?_
  refine (ys7_0 817 rfl rfl).trans ?_
  rw [show nI i + nI 1 = nI (i + 1) from nI_add i 1]
  refine (ylx 818 (N := N) rfl (j := (i + 1)) rfl (Or.inr hS1.1) hS1.2.1 (by omega) hS1.2.2.1 rfl (hS1.2.2.2 _ (by omega))).trans ?_
  refine (yc2 821 rfl rfl (Nat.le_of_ble_eq_true rfl) (Or.inr (by show ztg (zwi _ _) _ = _; rw [ztg_wi]; exact hm1)) rfl rfl hm).trans ?_
  refine (ys5 823 (L2 := [(6, .int (b)), (5, .int (k)), (4, .int (nI i)), (3, .ref (o)), (2, .ref (m)), (1, .ref (x)), (0, .ref (81))]) rfl rfl rfl rfl).trans ?_
  refine (ys4 824 (v := .ref (m)) rfl rfl rfl rfl).trans ?_
  refine (yc1 827 rfl rfl (Nat.le_of_ble_eq_true rfl) (Or.inr (by show ztg (zwi _ _) _ = _; rw [ztg_wi]; exact hm2)) rfl rfl ht).trans ?_
  refine (ys4 829 (v := .int (k)) rfl rfl rfl rfl).trans ?_
  refine ys18_0 832 rfl rfl (fun _ => ?_) (fun q => absurd rfl q)
  refine (ys4 836 (v := .int (k)) rfl rfl rfl rfl).trans ?_
  refine ys17_1 839 rfl rfl (fun hk0 => ?_) (fun hk0 => ?_)
  · obtain ⟨o1, o2, o3⟩ := ho hk0
    refine (ys4 840 (v := .ref (o)) rfl rfl rfl rfl).trans ?_
    refine (ys1 841 (x := nI 0) rfl rfl rfl).trans ?_
    refine (ys26l 842 rfl o1 (by decide) (by rw [o2]; decide) rfl).trans ?_
    refine (ys4 844 (v := .int (b)) rfl rfl rfl rfl).trans ?_
    refine (ys10 845 rfl rfl).trans ?_
    refine (ys11 846 (y := b.toInt64) rfl rfl).trans ?_
    rw [show zgl μ2 o (nI 0).toNatClampNeg = b.toInt64 from o3]
    show zden1 _ _ _ (_, _, .int (lg_cmp b.toInt64 b.toInt64) :: [], _, _, _) = _
    rw [lcmp_same]
    refine ys17_0 849 rfl rfl (fun _ => ?_) (fun q => absurd rfl q)
    refine (ys19 rfl).trans ?_
    exact fin
  · refine (ys19 rfl).trans ?_
    exact fin

set_option maxRecDepth 20000 in
theorem lawc_854 {μ0 μ1 μ2 : zM} {I0 I1 I2 : zFn} {c sl c1 s1 c2 s2 i N x m o : Nat} {xs : Nat → Int32} {k b : Int32} {rz : zR} (hi : i + 6 ≤ N) (hS0 : zSP μ0 I0 N xs) (hS1 : zSP μ1 I1 N xs) (hx : ztg μ0 x = 0) (hm1 : ztg μ1 m = 8) (hm2 : ztg μ2 m = 8) (hw : zden zcds 12 219 [.ref (x), .int (xs (i + 1)), .int (xs (i + 2)), .ref (o)] (zwi μ0 I0) = some (0, some (.int k), c1, s1, zwi μ1 I1)) (hm : zden zcds 12 173 [.ref (m), .int (xs (i + 1)), .int (xs (i + 2))] (zwi μ1 I1) = some (0, some (.int b), c2, s2, zwi μ2 I2)) (ht : zden zcds 12 124 [.ref (m)] (zwi μ2 I2) = some (0, some (.int k), 0, 0, zwi μ2 I2)) (ho : k = 0 → ztg μ2 o = 22 ∧ znl μ2 o = 1 ∧ zgl μ2 o 0 = b.toInt64) (hk : zden1 12 (zden zcds 12) zc232 (23, [(4, .int (nI (i + 6))), (3, .ref (o)), (2, .ref (m)), (1, .ref (x)), (0, .ref (81))], [], c + c1 + c2, sl + s1 + s2, zwi μ2 I2) = some rz) : zden1 12 (zden zcds 12) zc232 (854, [(4, .int (nI i)), (3, .ref (o)), (2, .ref (m)), (1, .ref (x)), (0, .ref (81))], [], c, sl, zwi μ0 I0) = some rz := by
  have fin : zden1 12 (zden zcds 12) zc232 (1226, [(6, .int (b)), (5, .int (k)), (4, .int (nI i)), (3, .ref (o)), (2, .ref (m)), (1, .ref (x)), (0, .ref (81))], [], c + c1 + c2 + 0, sl + s1 + s2 + 0, zwi μ2 I2) = some rz := by
    refine (ys6 1229 (y := nI (i + 6)) (L2 := [(4, .int (nI (i + 6))), (6, .int (b)), (5, .int (k)), (3, .ref (o)), (2, .ref (m)), (1, .ref (x)), (0, .ref (81))]) rfl rfl (nI_add i 6) rfl rfl).trans ?_
    refine (ys19 rfl).trans ?_
    exact zden1_fg (zfg_cons rfl (zfg_cons rfl (zfg_cons rfl (zfg_cons rfl (zfg_cons rfl zfg_nil))))) hk
  refine (ys4 855 (v := .ref (x)) rfl rfl rfl rfl).trans ?_
  refine (ys4 856 (v := .ref (81)) rfl rfl rfl rfl).trans ?_
  refine (ys4 858 (v := .int (nI i)) rfl rfl rfl rfl).trans ?_
  refine (ys1 859 (x := nI 1) rfl rfl rfl).trans ?_
  refine (ys7_0 860 rfl rfl).trans ?_
  rw [show nI i + nI 1 = nI (i + 1) from nI_add i 1]
  refine (ylx 861 (N := N) rfl (j := (i + 1)) rfl (Or.inr hS0.1) hS0.2.1 (by omega) hS0.2.2.1 rfl (hS0.2.2.2 _ (by omega))).trans ?_
  refine (ys4 862 (v := .ref (81)) rfl rfl rfl rfl).trans ?_
  refine (ys4 864 (v := .int (nI i)) rfl rfl rfl rfl).trans ?_
  refine (ys1 865 (x := nI 2) rfl rfl rfl).trans ?_
  refine (ys7_0 866 rfl rfl).trans ?_
  rw [show nI i + nI 2 = nI (i + 2) from nI_add i 2]
  refine (ylx 867 (N := N) rfl (j := (i + 2)) rfl (Or.inr hS0.1) hS0.2.1 (by omega) hS0.2.2.1 rfl (hS0.2.2.2 _ (by omega))).trans ?_
  refine (ys4 868 (v := .ref (o)) rfl rfl rfl rfl).trans ?_
  refine (yc4 871 rfl rfl (Nat.le_of_ble_eq_true rfl) (Or.inl rfl) rfl rfl hw).trans ?_
  refine (ys5 873 (L2 := [(5, .int (k)), (4, .int (nI i)), (3, .ref (o)), (2, .ref (m)), (1, .ref (x)), (0, .ref (81))]) rfl rfl rfl rfl).trans ?_
  refine (ys4 874 (v := .ref (m)) rfl rfl rfl rfl).trans ?_
  refine (ys4 875 (v := .ref (81)) rfl rfl rfl rfl).trans ?_
  refine (ys4 877 (v := .int (nI i)) rfl rfl rfl rfl).trans ?_
  refine (ys1 878 (x := nI 1) rfl rfl rfl).trans ?_
  refine (ys7_0 879 rfl rfl).trans ?_
  rw [show nI i + nI 1 = nI (i + 1) from nI_add i 1]
  refine (ylx 880 (N := N) rfl (j := (i + 1)) rfl (Or.inr hS1.1) hS1.2.1 (by omega) hS1.2.2.1 rfl (hS1.2.2.2 _ (by omega))).trans ?_
  refine (ys4 881 (v := .ref (81)) rfl rfl rfl rfl).trans ?_
  refine (ys4 883 (v := .int (nI i)) rfl rfl rfl rfl).trans ?_
  refine (ys1 884 (x := nI 2) rfl rfl rfl).trans ?_
  refine (ys7_0 885 rfl rfl).trans ?_
  rw [show nI i + nI 2 = nI (i + 2) from nI_add i 2]
  refine (ylx 886 (N := N) rfl (j := (i + 2)) rfl (Or.inr hS1.1) hS1.2.1 (by omega) hS1.2.2.1 rfl (hS1.2.2.2 _ (by omega))).trans ?_
  refine (yc3 889 rfl rfl (Nat.le_of_ble_eq_true rfl) (Or.inr (by show ztg (zwi _ _) _ = _; rw [ztg_wi]; exact hm1)) rfl rfl hm).trans ?_
  refine (ys5 891 (L2 := [(6, .int (b)), (5, .int (k)), (4, .int (nI i)), (3, .ref (o)), (2, .ref (m)), (1, .ref (x)), (0, .ref (81))]) rfl rfl rfl rfl).trans ?_
  refine (ys4 892 (v := .ref (m)) rfl rfl rfl rfl).trans ?_
  refine (yc1 895 rfl rfl (Nat.le_of_ble_eq_true rfl) (Or.inr (by show ztg (zwi _ _) _ = _; rw [ztg_wi]; exact hm2)) rfl rfl ht).trans ?_
  refine (ys4 897 (v := .int (k)) rfl rfl rfl rfl).trans ?_
  refine ys18_0 900 rfl rfl (fun _ => ?_) (fun q => absurd rfl q)
  refine (ys4 904 (v := .int (k)) rfl rfl rfl rfl).trans ?_
  refine ys17_1 907 rfl rfl (fun hk0 => ?_) (fun hk0 => ?_)
  · obtain ⟨o1, o2, o3⟩ := ho hk0
    refine (ys4 908 (v := .ref (o)) rfl rfl rfl rfl).trans ?_
    refine (ys1 909 (x := nI 0) rfl rfl rfl).trans ?_
    refine (ys26l 910 rfl o1 (by decide) (by rw [o2]; decide) rfl).trans ?_
    refine (ys4 912 (v := .int (b)) rfl rfl rfl rfl).trans ?_
    refine (ys10 913 rfl rfl).trans ?_
    refine (ys11 914 (y := b.toInt64) rfl rfl).trans ?_
    rw [show zgl μ2 o (nI 0).toNatClampNeg = b.toInt64 from o3]
    show zden1 _ _ _ (_, _, .int (lg_cmp b.toInt64 b.toInt64) :: [], _, _, _) = _
    rw [lcmp_same]
    refine ys17_0 917 rfl rfl (fun _ => ?_) (fun q => absurd rfl q)
    refine (ys19 rfl).trans ?_
    exact fin
  · refine (ys19 rfl).trans ?_
    exact fin

set_option maxRecDepth 20000 in
theorem lawc_922 {μ0 μ1 μ2 : zM} {I0 I1 I2 : zFn} {c sl c1 s1 c2 s2 i N x m o : Nat} {xs : Nat → Int32} {k b : Int32} {rz : zR} (hi : i + 6 ≤ N) (hS0 : zSP μ0 I0 N xs) (hS1 : zSP μ1 I1 N xs) (hx : ztg μ0 x = 0) (hm1 : ztg μ1 m = 8) (hm2 : ztg μ2 m = 8) (hw : zden zcds 12 220 [.ref (x), .int (xs (i + 1)), .ref (o)] (zwi μ0 I0) = some (0, some (.int k), c1, s1, zwi μ1 I1)) (hm : zden zcds 12 175 [.ref (m), .int (xs (i + 1))] (zwi μ1 I1) = some (0, some (.int b), c2, s2, zwi μ2 I2)) (ht : zden zcds 12 124 [.ref (m)] (zwi μ2 I2) = some (0, some (.int k), 0, 0, zwi μ2 I2)) (ho : k = 0 → ztg μ2 o = 22 ∧ znl μ2 o = 1 ∧ zgl μ2 o 0 = b.toInt64) (hk : zden1 12 (zden zcds 12) zc232 (23, [(4, .int (nI (i + 6))), (3, .ref (o)), (2, .ref (m)), (1, .ref (x)), (0, .ref (81))], [], c + c1 + c2, sl + s1 + s2, zwi μ2 I2) = some rz) : zden1 12 (zden zcds 12) zc232 (922, [(4, .int (nI i)), (3, .ref (o)), (2, .ref (m)), (1, .ref (x)), (0, .ref (81))], [], c, sl, zwi μ0 I0) = some rz := by
  have fin : zden1 12 (zden zcds 12) zc232 (1226, [(6, .int (b)), (5, .int (k)), (4, .int (nI i)), (3, .ref (o)), (2, .ref (m)), (1, .ref (x)), (0, .ref (81))], [], c + c1 + c2 + 0, sl + s1 + s2 + 0, zwi μ2 I2) = some rz := by
    refine (ys6 1229 (y := nI (i + 6)) (L2 := [(4, .int (nI (i + 6))), (6, .int (b)), (5, .int (k)), (3, .ref (o)), (2, .ref (m)), (1, .ref (x)), (0, .ref (81))]) rfl rfl (nI_add i 6) rfl rfl).trans ?_
    refine (ys19 rfl).trans ?_
    exact zden1_fg (zfg_cons rfl (zfg_cons rfl (zfg_cons rfl (zfg_cons rfl (zfg_cons rfl zfg_nil))))) hk
  refine (ys4 923 (v := .ref (x)) rfl rfl rfl rfl).trans ?_
  refine (ys4 924 (v := .ref (81)) rfl rfl rfl rfl).trans ?_
  refine (ys4 926 (v := .int (nI i)) rfl rfl rfl rfl).trans ?_
  refine (ys1 927 (x := nI 1) rfl rfl rfl).trans ?_
  refine (ys7_0 928 rfl rfl).trans ?_
  rw [show nI i + nI 1 = nI (i + 1) from nI_add i 1]
  refine (ylx 929 (N := N) rfl (j := (i + 1)) rfl (Or.inr hS0.1) hS0.2.1 (by omega) hS0.2.2.1 rfl (hS0.2.2.2 _ (by omega))).trans ?_
  refine (ys4 930 (v := .ref (o)) rfl rfl rfl rfl).trans ?_
  refine (yc3 933 rfl rfl (Nat.le_of_ble_eq_true rfl) (Or.inl rfl) rfl rfl hw).trans ?_
  refine (ys5 935 (L2 := [(5, .int (k)), (4, .int (nI i)), (3, .ref (o)), (2, .ref (m)), (1, .ref (x)), (0, .ref (81))]) rfl rfl rfl rfl).trans ?_
  refine (ys4 936 (v := .ref (m)) rfl rfl rfl rfl).trans ?_
  refine (ys4 937 (v := .ref (81)) rfl rfl rfl rfl).trans ?_
  refine (ys4 939 (v := .int (nI i)) rfl rfl rfl rfl).trans ?_
  refine (ys1 940 (x := nI 1) rfl rfl rfl).trans ?_
  refine (ys7_0 941 rfl rfl).trans ?_
  rw [show nI i + nI 1 = nI (i + 1) from nI_add i 1]
  refine (ylx 942 (N := N) rfl (j := (i + 1)) rfl (Or.inr hS1.1) hS1.2.1 (by omega) hS1.2.2.1 rfl (hS1.2.2.2 _ (by omega))).trans ?_
  refine (yc2 945 rfl rfl (Nat.le_of_ble_eq_true rfl) (Or.inr (by show ztg (zwi _ _) _ = _; rw [ztg_wi]; exact hm1)) rfl rfl hm).trans ?_
  refine (ys5 947 (L2 := [(6, .int (b)), (5, .int (k)), (4, .int (nI i)), (3, .ref (o)), (2, .ref (m)), (1, .ref (x)), (0, .ref (81))]) rfl rfl rfl rfl).trans ?_
  refine (ys4 948 (v := .ref (m)) rfl rfl rfl rfl).trans ?_
  refine (yc1 951 rfl rfl (Nat.le_of_ble_eq_true rfl) (Or.inr (by show ztg (zwi _ _) _ = _; rw [ztg_wi]; exact hm2)) rfl rfl ht).trans ?_
  refine (ys4 953 (v := .int (k)) rfl rfl rfl rfl).trans ?_
  refine ys18_0 956 rfl rfl (fun _ => ?_) (fun q => absurd rfl q)
  refine (ys4 960 (v := .int (k)) rfl rfl rfl rfl).trans ?_
  refine ys17_1 963 rfl rfl (fun hk0 => ?_) (fun hk0 => ?_)
  · obtain ⟨o1, o2, o3⟩ := ho hk0
    refine (ys4 964 (v := .ref (o)) rfl rfl rfl rfl).trans ?_
    refine (ys1 965 (x := nI 0) rfl rfl rfl).trans ?_
    refine (ys26l 966 rfl o1 (by decide) (by rw [o2]; decide) rfl).trans ?_
    refine (ys4 968 (v := .int (b)) rfl rfl rfl rfl).trans ?_
    refine (ys10 969 rfl rfl).trans ?_
    refine (ys11 970 (y := b.toInt64) rfl rfl).trans ?_
    rw [show zgl μ2 o (nI 0).toNatClampNeg = b.toInt64 from o3]
    show zden1 _ _ _ (_, _, .int (lg_cmp b.toInt64 b.toInt64) :: [], _, _, _) = _
    rw [lcmp_same]
    refine ys17_0 973 rfl rfl (fun _ => ?_) (fun q => absurd rfl q)
    refine (ys19 rfl).trans ?_
    exact fin
  · refine (ys19 rfl).trans ?_
    exact fin

set_option maxRecDepth 20000 in
theorem lawc_978 {μ0 μ1 μ2 : zM} {I0 I1 I2 : zFn} {c sl c1 s1 c2 s2 i N x m o : Nat} {xs : Nat → Int32} {k b : Int32} {rz : zR} (hi : i + 6 ≤ N) (hS0 : zSP μ0 I0 N xs) (hS1 : zSP μ1 I1 N xs) (hx : ztg μ0 x = 0) (hm1 : ztg μ1 m = 8) (hm2 : ztg μ2 m = 8) (hw : zden zcds 12 221 [.ref (x), .int (xs (i + 1)), .int (xs (i + 2)), .ref (o)] (zwi μ0 I0) = some (0, some (.int k), c1, s1, zwi μ1 I1)) (hm : zden zcds 12 176 [.ref (m), .int (xs (i + 1)), .int (xs (i + 2))] (zwi μ1 I1) = some (0, some (.int b), c2, s2, zwi μ2 I2)) (ht : zden zcds 12 124 [.ref (m)] (zwi μ2 I2) = some (0, some (.int k), 0, 0, zwi μ2 I2)) (ho : k = 0 → ztg μ2 o = 22 ∧ znl μ2 o = 1 ∧ zgl μ2 o 0 = b.toInt64) (hk : zden1 12 (zden zcds 12) zc232 (23, [(4, .int (nI (i + 6))), (3, .ref (o)), (2, .ref (m)), (1, .ref (x)), (0, .ref (81))], [], c + c1 + c2, sl + s1 + s2, zwi μ2 I2) = some rz) : zden1 12 (zden zcds 12) zc232 (978, [(4, .int (nI i)), (3, .ref (o)), (2, .ref (m)), (1, .ref (x)), (0, .ref (81))], [], c, sl, zwi μ0 I0) = some rz := by
  have fin : zden1 12 (zden zcds 12) zc232 (1226, [(6, .int (b)), (5, .int (k)), (4, .int (nI i)), (3, .ref (o)), (2, .ref (m)), (1, .ref (x)), (0, .ref (81))], [], c + c1 + c2 + 0, sl + s1 + s2 + 0, zwi μ2 I2) = some rz := by
    refine (ys6 1229 (y := nI (i + 6)) (L2 := [(4, .int (nI (i + 6))), (6, .int (b)), (5, .int (k)), (3, .ref (o)), (2, .ref (m)), (1, .ref (x)), (0, .ref (81))]) rfl rfl (nI_add i 6) rfl rfl).trans ?_
    refine (ys19 rfl).trans ?_
    exact zden1_fg (zfg_cons rfl (zfg_cons rfl (zfg_cons rfl (zfg_cons rfl (zfg_cons rfl zfg_nil))))) hk
  refine (ys4 979 (v := .ref (x)) rfl rfl rfl rfl).trans ?_
  refine (ys4 980 (v := .ref (81)) rfl rfl rfl rfl).trans ?_
  refine (ys4 982 (v := .int (nI i)) rfl rfl rfl rfl).trans ?_
  refine (ys1 983 (x := nI 1) rfl rfl rfl).trans ?_
  refine (ys7_0 984 rfl rfl).trans ?_
  rw [show nI i + nI 1 = nI (i + 1) from nI_add i 1]
  refine (ylx 985 (N := N) rfl (j := (i + 1)) rfl (Or.inr hS0.1) hS0.2.1 (by omega) hS0.2.2.1 rfl (hS0.2.2.2 _ (by omega))).trans ?_
  refine (ys4 986 (v := .ref (81)) rfl rfl rfl rfl).trans ?_
  refine (ys4 988 (v := .int (nI i)) rfl rfl rfl rfl).trans ?_
  refine (ys1 989 (x := nI 2) rfl rfl rfl).trans ?_
  refine (ys7_0 990 rfl rfl).trans ?_
  rw [show nI i + nI 2 = nI (i + 2) from nI_add i 2]
  refine (ylx 991 (N := N) rfl (j := (i + 2)) rfl (Or.inr hS0.1) hS0.2.1 (by omega) hS0.2.2.1 rfl (hS0.2.2.2 _ (by omega))).trans ?_
  refine (ys4 992 (v := .ref (o)) rfl rfl rfl rfl).trans ?_
  refine (yc4 995 rfl rfl (Nat.le_of_ble_eq_true rfl) (Or.inl rfl) rfl rfl hw).trans ?_
  refine (ys5 997 (L2 := [(5, .int (k)), (4, .int (nI i)), (3, .ref (o)), (2, .ref (m)), (1, .ref (x)), (0, .ref (81))]) rfl rfl rfl rfl).trans ?_
  refine (ys4 998 (v := .ref (m)) rfl rfl rfl rfl).trans ?_
  refine (ys4 999 (v := .ref (81)) rfl rfl rfl rfl).trans ?_
  refine (ys4 1001 (v := .int (nI i)) rfl rfl rfl rfl).trans ?_
  refine (ys1 1002 (x := nI 1) rfl rfl rfl).trans ?_
  refine (ys7_0 1003 rfl rfl).trans ?_
  rw [show nI i + nI 1 = nI (i + 1) from nI_add i 1]
  refine (ylx 1004 (N := N) rfl (j := (i + 1)) rfl (Or.inr hS1.1) hS1.2.1 (by omega) hS1.2.2.1 rfl (hS1.2.2.2 _ (by omega))).trans ?_
  refine (ys4 1005 (v := .ref (81)) rfl rfl rfl rfl).trans ?_
  refine (ys4 1007 (v := .int (nI i)) rfl rfl rfl rfl).trans ?_
  refine (ys1 1008 (x := nI 2) rfl rfl rfl).trans ?_
  refine (ys7_0 1009 rfl rfl).trans ?_
  rw [show nI i + nI 2 = nI (i + 2) from nI_add i 2]
  refine (ylx 1010 (N := N) rfl (j := (i + 2)) rfl (Or.inr hS1.1) hS1.2.1 (by omega) hS1.2.2.1 rfl (hS1.2.2.2 _ (by omega))).trans ?_
  refine (yc3 1013 rfl rfl (Nat.le_of_ble_eq_true rfl) (Or.inr (by show ztg (zwi _ _) _ = _; rw [ztg_wi]; exact hm1)) rfl rfl hm).trans ?_
  refine (ys5 1015 (L2 := [(6, .int (b)), (5, .int (k)), (4, .int (nI i)), (3, .ref (o)), (2, .ref (m)), (1, .ref (x)), (0, .ref (81))]) rfl rfl rfl rfl).trans ?_
  refine (ys4 1016 (v := .ref (m)) rfl rfl rfl rfl).trans ?_
  refine (yc1 1019 rfl rfl (Nat.le_of_ble_eq_true rfl) (Or.inr (by show ztg (zwi _ _) _ = _; rw [ztg_wi]; exact hm2)) rfl rfl ht).trans ?_
  refine (ys4 1021 (v := .int (k)) rfl rfl rfl rfl).trans ?_
  refine ys18_0 1024 rfl rfl (fun _ => ?_) (fun q => absurd rfl q)
  refine (ys4 1028 (v := .int (k)) rfl rfl rfl rfl).trans ?_
  refine ys17_1 1031 rfl rfl (fun hk0 => ?_) (fun hk0 => ?_)
  · obtain ⟨o1, o2, o3⟩ := ho hk0
    refine (ys4 1032 (v := .ref (o)) rfl rfl rfl rfl).trans ?_
    refine (ys1 1033 (x := nI 0) rfl rfl rfl).trans ?_
    refine (ys26l 1034 rfl o1 (by decide) (by rw [o2]; decide) rfl).trans ?_
    refine (ys4 1036 (v := .int (b)) rfl rfl rfl rfl).trans ?_
    refine (ys10 1037 rfl rfl).trans ?_
    refine (ys11 1038 (y := b.toInt64) rfl rfl).trans ?_
    rw [show zgl μ2 o (nI 0).toNatClampNeg = b.toInt64 from o3]
    show zden1 _ _ _ (_, _, .int (lg_cmp b.toInt64 b.toInt64) :: [], _, _, _) = _
    rw [lcmp_same]
    refine ys17_0 1041 rfl rfl (fun _ => ?_) (fun q => absurd rfl q)
    refine (ys19 rfl).trans ?_
    exact fin
  · refine (ys19 rfl).trans ?_
    exact fin

set_option maxRecDepth 20000 in
theorem lawc_1046 {μ0 μ1 μ2 : zM} {I0 I1 I2 : zFn} {c sl c1 s1 c2 s2 i N x m o : Nat} {xs : Nat → Int32} {k b : Int32} {rz : zR} (hi : i + 6 ≤ N) (hS0 : zSP μ0 I0 N xs) (hS1 : zSP μ1 I1 N xs) (hx : ztg μ0 x = 0) (hm1 : ztg μ1 m = 8) (hm2 : ztg μ2 m = 8) (hw : zden zcds 12 222 [.ref (x), .int (xs (i + 1)), .ref (o)] (zwi μ0 I0) = some (0, some (.int k), c1, s1, zwi μ1 I1)) (hm : zden zcds 12 177 [.ref (m), .int (xs (i + 1))] (zwi μ1 I1) = some (0, some (.int b), c2, s2, zwi μ2 I2)) (ht : zden zcds 12 124 [.ref (m)] (zwi μ2 I2) = some (0, some (.int k), 0, 0, zwi μ2 I2)) (ho : k = 0 → ztg μ2 o = 22 ∧ znl μ2 o = 1 ∧ zgl μ2 o 0 = b.toInt64) (hk : zden1 12 (zden zcds 12) zc232 (23, [(4, .int (nI (i + 6))), (3, .ref (o)), (2, .ref (m)), (1, .ref (x)), (0, .ref (81))], [], c + c1 + c2, sl + s1 + s2, zwi μ2 I2) = some rz) : zden1 12 (zden zcds 12) zc232 (1046, [(4, .int (nI i)), (3, .ref (o)), (2, .ref (m)), (1, .ref (x)), (0, .ref (81))], [], c, sl, zwi μ0 I0) = some rz := by
  have fin : zden1 12 (zden zcds 12) zc232 (1226, [(6, .int (b)), (5, .int (k)), (4, .int (nI i)), (3, .ref (o)), (2, .ref (m)), (1, .ref (x)), (0, .ref (81))], [], c + c1 + c2 + 0, sl + s1 + s2 + 0, zwi μ2 I2) = some rz := by
    refine (ys6 1229 (y := nI (i + 6)) (L2 := [(4, .int (nI (i + 6))), (6, .int (b)), (5, .int (k)), (3, .ref (o)), (2, .ref (m)), (1, .ref (x)), (0, .ref (81))]) rfl rfl (nI_add i 6) rfl rfl).trans ?_
    refine (ys19 rfl).trans ?_
    exact zden1_fg (zfg_cons rfl (zfg_cons rfl (zfg_cons rfl (zfg_cons rfl (zfg_cons rfl zfg_nil))))) hk
  refine (ys4 1047 (v := .ref (x)) rfl rfl rfl rfl).trans ?_
  refine (ys4 1048 (v := .ref (81)) rfl rfl rfl rfl).trans ?_
  refine (ys4 1050 (v := .int (nI i)) rfl rfl rfl rfl).trans ?_
  refine (ys1 1051 (x := nI 1) rfl rfl rfl).trans ?_
  refine (ys7_0 1052 rfl rfl).trans ?_
  rw [show nI i + nI 1 = nI (i + 1) from nI_add i 1]
  refine (ylx 1053 (N := N) rfl (j := (i + 1)) rfl (Or.inr hS0.1) hS0.2.1 (by omega) hS0.2.2.1 rfl (hS0.2.2.2 _ (by omega))).trans ?_
  refine (ys4 1054 (v := .ref (o)) rfl rfl rfl rfl).trans ?_
  refine (yc3 1057 rfl rfl (Nat.le_of_ble_eq_true rfl) (Or.inl rfl) rfl rfl hw).trans ?_
  refine (ys5 1059 (L2 := [(5, .int (k)), (4, .int (nI i)), (3, .ref (o)), (2, .ref (m)), (1, .ref (x)), (0, .ref (81))]) rfl rfl rfl rfl).trans ?_
  refine (ys4 1060 (v := .ref (m)) rfl rfl rfl rfl).trans ?_
  refine (ys4 1061 (v := .ref (81)) rfl rfl rfl rfl).trans ?_
  refine (ys4 1063 (v := .int (nI i)) rfl rfl rfl rfl).trans ?_
  refine (ys1 1064 (x := nI 1) rfl rfl rfl).trans ?_
  refine (ys7_0 1065 rfl rfl).trans ?_
  rw [show nI i + nI 1 = nI (i + 1) from nI_add i 1]
  refine (ylx 1066 (N := N) rfl (j := (i + 1)) rfl (Or.inr hS1.1) hS1.2.1 (by omega) hS1.2.2.1 rfl (hS1.2.2.2 _ (by omega))).trans ?_
  refine (yc2 1069 rfl rfl (Nat.le_of_ble_eq_true rfl) (Or.inr (by show ztg (zwi _ _) _ = _; rw [ztg_wi]; exact hm1)) rfl rfl hm).trans ?_
  refine (ys5 1071 (L2 := [(6, .int (b)), (5, .int (k)), (4, .int (nI i)), (3, .ref (o)), (2, .ref (m)), (1, .ref (x)), (0, .ref (81))]) rfl rfl rfl rfl).trans ?_
  refine (ys4 1072 (v := .ref (m)) rfl rfl rfl rfl).trans ?_
  refine (yc1 1075 rfl rfl (Nat.le_of_ble_eq_true rfl) (Or.inr (by show ztg (zwi _ _) _ = _; rw [ztg_wi]; exact hm2)) rfl rfl ht).trans ?_
  refine (ys4 1077 (v := .int (k)) rfl rfl rfl rfl).trans ?_
  refine ys18_0 1080 rfl rfl (fun _ => ?_) (fun q => absurd rfl q)
  refine (ys4 1084 (v := .int (k)) rfl rfl rfl rfl).trans ?_
  refine ys17_1 1087 rfl rfl (fun hk0 => ?_) (fun hk0 => ?_)
  · obtain ⟨o1, o2, o3⟩ := ho hk0
    refine (ys4 1088 (v := .ref (o)) rfl rfl rfl rfl).trans ?_
    refine (ys1 1089 (x := nI 0) rfl rfl rfl).trans ?_
    refine (ys26l 1090 rfl o1 (by decide) (by rw [o2]; decide) rfl).trans ?_
    refine (ys4 1092 (v := .int (b)) rfl rfl rfl rfl).trans ?_
    refine (ys10 1093 rfl rfl).trans ?_
    refine (ys11 1094 (y := b.toInt64) rfl rfl).trans ?_
    rw [show zgl μ2 o (nI 0).toNatClampNeg = b.toInt64 from o3]
    show zden1 _ _ _ (_, _, .int (lg_cmp b.toInt64 b.toInt64) :: [], _, _, _) = _
    rw [lcmp_same]
    refine ys17_0 1097 rfl rfl (fun _ => ?_) (fun q => absurd rfl q)
    refine (ys19 rfl).trans ?_
    exact fin
  · refine (ys19 rfl).trans ?_
    exact fin

set_option maxRecDepth 20000 in
theorem lawc_1102 {μ0 μ1 μ2 : zM} {I0 I1 I2 : zFn} {c sl c1 s1 c2 s2 i N x m o : Nat} {xs : Nat → Int32} {k b : Int32} {rz : zR} (hi : i + 6 ≤ N) (hS0 : zSP μ0 I0 N xs) (hS1 : zSP μ1 I1 N xs) (hx : ztg μ0 x = 0) (hm1 : ztg μ1 m = 8) (hm2 : ztg μ2 m = 8) (hw : zden zcds 12 223 [.ref (x), .int (xs (i + 1)), .ref (o)] (zwi μ0 I0) = some (0, some (.int k), c1, s1, zwi μ1 I1)) (hm : zden zcds 12 179 [.ref (m), .int (xs (i + 1))] (zwi μ1 I1) = some (0, some (.int b), c2, s2, zwi μ2 I2)) (ht : zden zcds 12 124 [.ref (m)] (zwi μ2 I2) = some (0, some (.int k), 0, 0, zwi μ2 I2)) (ho : k = 0 → ztg μ2 o = 22 ∧ znl μ2 o = 1 ∧ zgl μ2 o 0 = b.toInt64) (hk : zden1 12 (zden zcds 12) zc232 (23, [(4, .int (nI (i + 6))), (3, .ref (o)), (2, .ref (m)), (1, .ref (x)), (0, .ref (81))], [], c + c1 + c2, sl + s1 + s2, zwi μ2 I2) = some rz) : zden1 12 (zden zcds 12) zc232 (1102, [(4, .int (nI i)), (3, .ref (o)), (2, .ref (m)), (1, .ref (x)), (0, .ref (81))], [], c, sl, zwi μ0 I0) = some rz := by
  have fin : zden1 12 (zden zcds 12) zc232 (1226, [(6, .int (b)), (5, .int (k)), (4, .int (nI i)), (3, .ref (o)), (2, .ref (m)), (1, .ref (x)), (0, .ref (81))], [], c + c1 + c2 + 0, sl + s1 + s2 + 0, zwi μ2 I2) = some rz := by
    refine (ys6 1229 (y := nI (i + 6)) (L2 := [(4, .int (nI (i + 6))), (6, .int (b)), (5, .int (k)), (3, .ref (o)), (2, .ref (m)), (1, .ref (x)), (0, .ref (81))]) rfl rfl (nI_add i 6) rfl rfl).trans ?_
    refine (ys19 rfl).trans ?_
    exact zden1_fg (zfg_cons rfl (zfg_cons rfl (zfg_cons rfl (zfg_cons rfl (zfg_cons rfl zfg_nil))))) hk
  refine (ys4 1103 (v := .ref (x)) rfl rfl rfl rfl).trans ?_
  refine (ys4 1104 (v := .ref (81)) rfl rfl rfl rfl).trans ?_
  refine (ys4 1106 (v := .int (nI i)) rfl rfl rfl rfl).trans ?_
  refine (ys1 1107 (x := nI 1) rfl rfl rfl).trans ?_
  refine (ys7_0 1108 rfl rfl).trans ?_
  rw [show nI i + nI 1 = nI (i + 1) from nI_add i 1]
  refine (ylx 1109 (N := N) rfl (j := (i + 1)) rfl (Or.inr hS0.1) hS0.2.1 (by omega) hS0.2.2.1 rfl (hS0.2.2.2 _ (by omega))).trans ?_
  refine (ys4 1110 (v := .ref (o)) rfl rfl rfl rfl).trans ?_
  refine (yc3 1113 rfl rfl (Nat.le_of_ble_eq_true rfl) (Or.inl rfl) rfl rfl hw).trans ?_
  refine (ys5 1115 (L2 := [(5, .int (k)), (4, .int (nI i)), (3, .ref (o)), (2, .ref (m)), (1, .ref (x)), (0, .ref (81))]) rfl rfl rfl rfl).trans ?_
  refine (ys4 1116 (v := .ref (m)) rfl rfl rfl rfl).trans ?_
  refine (ys4 1117 (v := .ref (81)) rfl rfl rfl rfl).trans ?_
  refine (ys4 1119 (v := .int (nI i)) rfl rfl rfl rfl).trans ?_
  refine (ys1 1120 (x := nI 1) rfl rfl rfl).trans ?_
  refine (ys7_0 1121 rfl rfl).trans ?_
  rw [show nI i + nI 1 = nI (i + 1) from nI_add i 1]
  refine (ylx 1122 (N := N) rfl (j := (i + 1)) rfl (Or.inr hS1.1) hS1.2.1 (by omega) hS1.2.2.1 rfl (hS1.2.2.2 _ (by omega))).trans ?_
  refine (yc2 1125 rfl rfl (Nat.le_of_ble_eq_true rfl) (Or.inr (by show ztg (zwi _ _) _ = _; rw [ztg_wi]; exact hm1)) rfl rfl hm).trans ?_
  refine (ys5 1127 (L2 := [(6, .int (b)), (5, .int (k)), (4, .int (nI i)), (3, .ref (o)), (2, .ref (m)), (1, .ref (x)), (0, .ref (81))]) rfl rfl rfl rfl).trans ?_
  refine (ys4 1128 (v := .ref (m)) rfl rfl rfl rfl).trans ?_
  refine (yc1 1131 rfl rfl (Nat.le_of_ble_eq_true rfl) (Or.inr (by show ztg (zwi _ _) _ = _; rw [ztg_wi]; exact hm2)) rfl rfl ht).trans ?_
  refine (ys4 1133 (v := .int (k)) rfl rfl rfl rfl).trans ?_
  refine ys18_0 1136 rfl rfl (fun _ => ?_) (fun q => absurd rfl q)
  refine (ys4 1140 (v := .int (k)) rfl rfl rfl rfl).trans ?_
  refine ys17_1 1143 rfl rfl (fun hk0 => ?_) (fun hk0 => ?_)
  · obtain ⟨o1, o2, o3⟩ := ho hk0
    refine (ys4 1144 (v := .ref (o)) rfl rfl rfl rfl).trans ?_
    refine (ys1 1145 (x := nI 0) rfl rfl rfl).trans ?_
    refine (ys26l 1146 rfl o1 (by decide) (by rw [o2]; decide) rfl).trans ?_
    refine (ys4 1148 (v := .int (b)) rfl rfl rfl rfl).trans ?_
    refine (ys10 1149 rfl rfl).trans ?_
    refine (ys11 1150 (y := b.toInt64) rfl rfl).trans ?_
    rw [show zgl μ2 o (nI 0).toNatClampNeg = b.toInt64 from o3]
    show zden1 _ _ _ (_, _, .int (lg_cmp b.toInt64 b.toInt64) :: [], _, _, _) = _
    rw [lcmp_same]
    refine ys17_0 1153 rfl rfl (fun _ => ?_) (fun q => absurd rfl q)
    refine (ys19 rfl).trans ?_
    exact fin
  · refine (ys19 rfl).trans ?_
    exact fin

set_option maxRecDepth 20000 in
theorem lawc_296 {μ0 μ1 μ2 : zM} {I0 I1 I2 : zFn} {c sl c1 s1 c2 s2 i N x m o : Nat} {xs : Nat → Int32} {k : Int32} {rz : zR} (hi : i + 6 ≤ N) (hS0 : zSP μ0 I0 N xs) (hS1 : zSP μ1 I1 N xs) (hx : ztg μ0 x = 0) (hm1 : ztg μ1 m = 8) (hm2 : ztg μ2 m = 8) (hw : zden zcds 12 3 [.ref (x)] (zwi μ0 I0) = some (0, some (.int k), c1, s1, zwi μ1 I1)) (hm : zden zcds 12 158 [.ref (m)] (zwi μ1 I1) = some (0, some (.int k), c2, s2, zwi μ2 I2)) (hk : zden1 12 (zden zcds 12) zc232 (23, [(4, .int (nI (i + 6))), (3, .ref (o)), (2, .ref (m)), (1, .ref (x)), (0, .ref (81))], [], c + c1 + c2, sl + s1 + s2, zwi μ2 I2) = some rz) : zden1 12 (zden zcds 12) zc232 (296, [(4, .int (nI i)), (3, .ref (o)), (2, .ref (m)), (1, .ref (x)), (0, .ref (81))], [], c, sl, zwi μ0 I0) = some rz := by
  have fin : zden1 12 (zden zcds 12) zc232 (1226, [(4, .int (nI i)), (3, .ref (o)), (2, .ref (m)), (1, .ref (x)), (0, .ref (81))], [], c + c1 + c2, sl + s1 + s2, zwi μ2 I2) = some rz := by
    refine (ys6 1229 (y := nI (i + 6)) (L2 := [(4, .int (nI (i + 6))), (3, .ref (o)), (2, .ref (m)), (1, .ref (x)), (0, .ref (81))]) rfl rfl (nI_add i 6) rfl rfl).trans ?_
    refine (ys19 rfl).trans ?_
    exact zden1_fg (zfg_cons rfl (zfg_cons rfl (zfg_cons rfl (zfg_cons rfl (zfg_cons rfl zfg_nil))))) hk
  refine (ys4 297 (v := .ref (x)) rfl rfl rfl rfl).trans ?_
  refine (yc1 300 rfl rfl (Nat.le_of_ble_eq_true rfl) (Or.inr (by show ztg (zwi _ _) _ = _; rw [ztg_wi]; exact hx)) rfl rfl hw).trans ?_
  refine (ys4 301 (v := .ref (m)) rfl rfl rfl rfl).trans ?_
  refine (yc1 304 rfl rfl (Nat.le_of_ble_eq_true rfl) (Or.inr (by show ztg (zwi _ _) _ = _; rw [ztg_wi]; exact hm1)) rfl rfl hm).trans ?_
  refine ys18_0 307 rfl rfl (fun _ => ?_) (fun q => absurd rfl q)
  exact fin

set_option maxRecDepth 20000 in
theorem lawc_309 {μ0 μ1 μ2 : zM} {I0 I1 I2 : zFn} {c sl c1 s1 c2 s2 i N x m o : Nat} {xs : Nat → Int32} {k : Int32} {rz : zR} (hi : i + 6 ≤ N) (hS0 : zSP μ0 I0 N xs) (hS1 : zSP μ1 I1 N xs) (hx : ztg μ0 x = 0) (hm1 : ztg μ1 m = 8) (hm2 : ztg μ2 m = 8) (hw : zden zcds 12 4 [.ref (x)] (zwi μ0 I0) = some (0, some (.int k), c1, s1, zwi μ1 I1)) (hm : zden zcds 12 159 [.ref (m)] (zwi μ1 I1) = some (0, some (.int k), c2, s2, zwi μ2 I2)) (hk : zden1 12 (zden zcds 12) zc232 (23, [(4, .int (nI (i + 6))), (3, .ref (o)), (2, .ref (m)), (1, .ref (x)), (0, .ref (81))], [], c + c1 + c2, sl + s1 + s2, zwi μ2 I2) = some rz) : zden1 12 (zden zcds 12) zc232 (309, [(4, .int (nI i)), (3, .ref (o)), (2, .ref (m)), (1, .ref (x)), (0, .ref (81))], [], c, sl, zwi μ0 I0) = some rz := by
  have fin : zden1 12 (zden zcds 12) zc232 (1226, [(4, .int (nI i)), (3, .ref (o)), (2, .ref (m)), (1, .ref (x)), (0, .ref (81))], [], c + c1 + c2, sl + s1 + s2, zwi μ2 I2) = some rz := by
    refine (ys6 1229 (y := nI (i + 6)) (L2 := [(4, .int (nI (i + 6))), (3, .ref (o)), (2, .ref (m)), (1, .ref (x)), (0, .ref (81))]) rfl rfl (nI_add i 6) rfl rfl).trans ?_
    refine (ys19 rfl).trans ?_
    exact zden1_fg (zfg_cons rfl (zfg_cons rfl (zfg_cons rfl (zfg_cons rfl (zfg_cons rfl zfg_nil))))) hk
  refine (ys4 310 (v := .ref (x)) rfl rfl rfl rfl).trans ?_
  refine (yc1 313 rfl rfl (Nat.le_of_ble_eq_true rfl) (Or.inr (by show ztg (zwi _ _) _ = _; rw [ztg_wi]; exact hx)) rfl rfl hw).trans ?_
  refine (ys4 314 (v := .ref (m)) rfl rfl rfl rfl).trans ?_
  refine (yc1 317 rfl rfl (Nat.le_of_ble_eq_true rfl) (Or.inr (by show ztg (zwi _ _) _ = _; rw [ztg_wi]; exact hm1)) rfl rfl hm).trans ?_
  refine ys18_0 320 rfl rfl (fun _ => ?_) (fun q => absurd rfl q)
  exact fin

set_option maxRecDepth 20000 in
theorem lawc_1158 {μ0 μ1 μ2 : zM} {I0 I1 I2 : zFn} {c sl c1 s1 c2 s2 i N x m o : Nat} {xs : Nat → Int32} {k : Int32} {rz : zR} (hi : i + 6 ≤ N) (hS0 : zSP μ0 I0 N xs) (hS1 : zSP μ1 I1 N xs) (hx : ztg μ0 x = 0) (hm1 : ztg μ1 m = 8) (hm2 : ztg μ2 m = 8) (hw : zden zcds 12 22 [.ref (x)] (zwi μ0 I0) = some (0, some (.int k), c1, s1, zwi μ1 I1)) (hm : zden zcds 12 180 [.ref (m)] (zwi μ1 I1) = some (0, some (.int k), c2, s2, zwi μ2 I2)) (hk : zden1 12 (zden zcds 12) zc232 (23, [(4, .int (nI (i + 6))), (3, .ref (o)), (2, .ref (m)), (1, .ref (x)), (0, .ref (81))], [], c + c1 + c2, sl + s1 + s2, zwi μ2 I2) = some rz) : zden1 12 (zden zcds 12) zc232 (1158, [(4, .int (nI i)), (3, .ref (o)), (2, .ref (m)), (1, .ref (x)), (0, .ref (81))], [], c, sl, zwi μ0 I0) = some rz := by
  have fin : zden1 12 (zden zcds 12) zc232 (1226, [(4, .int (nI i)), (3, .ref (o)), (2, .ref (m)), (1, .ref (x)), (0, .ref (81))], [], c + c1 + c2, sl + s1 + s2, zwi μ2 I2) = some rz := by
    refine (ys6 1229 (y := nI (i + 6)) (L2 := [(4, .int (nI (i + 6))), (3, .ref (o)), (2, .ref (m)), (1, .ref (x)), (0, .ref (81))]) rfl rfl (nI_add i 6) rfl rfl).trans ?_
    refine (ys19 rfl).trans ?_
    exact zden1_fg (zfg_cons rfl (zfg_cons rfl (zfg_cons rfl (zfg_cons rfl (zfg_cons rfl zfg_nil))))) hk
  refine (ys4 1159 (v := .ref (x)) rfl rfl rfl rfl).trans ?_
  refine (yc1 1162 rfl rfl (Nat.le_of_ble_eq_true rfl) (Or.inr (by show ztg (zwi _ _) _ = _; rw [ztg_wi]; exact hx)) rfl rfl hw).trans ?_
  refine (ys4 1163 (v := .ref (m)) rfl rfl rfl rfl).trans ?_
  refine (yc1 1166 rfl rfl (Nat.le_of_ble_eq_true rfl) (Or.inr (by show ztg (zwi _ _) _ = _; rw [ztg_wi]; exact hm1)) rfl rfl hm).trans ?_
  refine ys18_0 1169 rfl rfl (fun _ => ?_) (fun q => absurd rfl q)
  exact fin

