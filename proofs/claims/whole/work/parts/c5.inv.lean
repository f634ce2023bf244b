/-! WHAT HOLDS BETWEEN THE CALLS: the shape -/
def zHV (I : zFn) (w : Nat) (V : zV) : Prop := ∀ o k, o < 85 → I (w + o) k = V (zpk o).1 (zpk o).2 k
def zHF (I : zFn) (b n : Nat) (F : zFn) : Prop := ∀ j k, j < n → I (b + j) k = F j k
theorem zHV.eq {I : zFn} {w : Nat} {V : zV} (h : zHV I w V) : zpc I w V = I := by
  funext a k
  unfold zpc
  split
  · rename_i ha
    obtain ⟨o, rfl⟩ : ∃ o, a = w + o := ⟨a - w, by omega⟩
    rw [Nat.add_sub_cancel_left]
    exact (h o k (by omega)).symm
  · rfl
theorem zHF.eq {I : zFn} {b n : Nat} {F : zFn} (h : zHF I b n F) : zfl I b n F = I := by
  funext a k
  unfold zfl
  split
  · rename_i ha
    obtain ⟨o, rfl⟩ : ∃ o, a = b + o := ⟨a - b, by omega⟩
    rw [Nat.add_sub_cancel_left]
    exact (h o k (by omega)).symm
  · rfl
theorem zHV.at (I : zFn) (w : Nat) (V : zV) : zHV (zpc I w V) w V := fun o k ho => zpc_at rfl ho
theorem zHF.at (I : zFn) (b n : Nat) (F : zFn) : zHF (zfl I b n F) b n F := fun j k hj => zfl_at hj
theorem zHV.mv {I I' : zFn} {w : Nat} {V : zV} (h : zHV I w V) (e : ∀ o, o < 85 → I' (w + o) = I (w + o)) : zHV I' w V := fun o k ho => by rw [e o ho]; exact h o k ho
theorem zHF.mv {I I' : zFn} {b n : Nat} {F : zFn} (h : zHF I b n F) (e : ∀ j, j < n → I' (b + j) = I (b + j)) : zHF I' b n F := fun j k hj => by rw [e j hj]; exact h j k hj
theorem zpc_o {I : zFn} {w : Nat} {V : zV} {a : Nat} (h : a < w ∨ w + 85 ≤ a) : zpc I w V a = I a := by
  funext k
  exact zpc_out h
theorem zfl_o {I : zFn} {b n : Nat} {F : zFn} {a : Nat} (h : a < b ∨ b + n ≤ a) : zfl I b n F a = I a := by
  funext k
  exact zfl_out h
def zI5 (μ : zM) (I : zFn) (N : Nat) (xs : Nat → Int32) (n s t : Nat) (V U : zV) (T S A X Q : zFn) : Prop :=
  ((n = 92 ∧ s = 177) ∨ (n = 177 ∧ s = 92))
  ∧ (t = 268 ∨ 330 ≤ t)
  ∧ (330 ≤ μ.length ∧ t + 17 ≤ μ.length)
  ∧ (zLC μ 82 83 n s)
  ∧ (znr μ (82 + 0) = 3)
  ∧ (zRR μ 83)
  ∧ (∃ K : Nat → Nat, zen μ 86 = (23, [], (List.range 401).map (fun j => zkf (K j)), []))
  ∧ (zKS μ I)
  ∧ (znr μ (262 + 0) = 9)
  ∧ (zMS μ I)
  ∧ (zMC μ 262 t 285 307 I T)
  ∧ (ztg μ 329 = 22 ∧ znl μ 329 = 1)
  ∧ (zSP μ I N xs)
  ∧ (zHV I n V)
  ∧ (zHV I s U)
  ∧ (zHF I 285 22 S)
  ∧ (zHF I 307 22 A)
  ∧ (zHF I 262 6 X)
  ∧ (zHF I 84 5 Q)
theorem zI5.ns {μ : zM} {I : zFn} {N : Nat} {xs : Nat → Int32} {n s t : Nat} {V U : zV} {T S A X Q : zFn} (h : zI5 μ I N xs n s t V U T S A X Q) : (n = 92 ∧ s = 177) ∨ (n = 177 ∧ s = 92) := h.1
theorem zI5.tt {μ : zM} {I : zFn} {N : Nat} {xs : Nat → Int32} {n s t : Nat} {V U : zV} {T S A X Q : zFn} (h : zI5 μ I N xs n s t V U T S A X Q) : t = 268 ∨ 330 ≤ t := h.2.1
theorem zI5.ml {μ : zM} {I : zFn} {N : Nat} {xs : Nat → Int32} {n s t : Nat} {V U : zV} {T S A X Q : zFn} (h : zI5 μ I N xs n s t V U T S A X Q) : 330 ≤ μ.length ∧ t + 17 ≤ μ.length := h.2.2.1
theorem zI5.L {μ : zM} {I : zFn} {N : Nat} {xs : Nat → Int32} {n s t : Nat} {V U : zV} {T S A X Q : zFn} (h : zI5 μ I N xs n s t V U T S A X Q) : zLC μ 82 83 n s := h.2.2.2.1
theorem zI5.n3 {μ : zM} {I : zFn} {N : Nat} {xs : Nat → Int32} {n s t : Nat} {V U : zV} {T S A X Q : zFn} (h : zI5 μ I N xs n s t V U T S A X Q) : znr μ (82 + 0) = 3 := h.2.2.2.2.1
theorem zI5.R {μ : zM} {I : zFn} {N : Nat} {xs : Nat → Int32} {n s t : Nat} {V U : zV} {T S A X Q : zFn} (h : zI5 μ I N xs n s t V U T S A X Q) : zRR μ 83 := h.2.2.2.2.2.1
theorem zI5.Kx {μ : zM} {I : zFn} {N : Nat} {xs : Nat → Int32} {n s t : Nat} {V U : zV} {T S A X Q : zFn} (h : zI5 μ I N xs n s t V U T S A X Q) : ∃ K : Nat → Nat, zen μ 86 = (23, [], (List.range 401).map (fun j => zkf (K j)), []) := h.2.2.2.2.2.2.1
theorem zI5.KS {μ : zM} {I : zFn} {N : Nat} {xs : Nat → Int32} {n s t : Nat} {V U : zV} {T S A X Q : zFn} (h : zI5 μ I N xs n s t V U T S A X Q) : zKS μ I := h.2.2.2.2.2.2.2.1
theorem zI5.n9 {μ : zM} {I : zFn} {N : Nat} {xs : Nat → Int32} {n s t : Nat} {V U : zV} {T S A X Q : zFn} (h : zI5 μ I N xs n s t V U T S A X Q) : znr μ (262 + 0) = 9 := h.2.2.2.2.2.2.2.2.1
theorem zI5.MS {μ : zM} {I : zFn} {N : Nat} {xs : Nat → Int32} {n s t : Nat} {V U : zV} {T S A X Q : zFn} (h : zI5 μ I N xs n s t V U T S A X Q) : zMS μ I := h.2.2.2.2.2.2.2.2.2.1
theorem zI5.M {μ : zM} {I : zFn} {N : Nat} {xs : Nat → Int32} {n s t : Nat} {V U : zV} {T S A X Q : zFn} (h : zI5 μ I N xs n s t V U T S A X Q) : zMC μ 262 t 285 307 I T := h.2.2.2.2.2.2.2.2.2.2.1
theorem zI5.out {μ : zM} {I : zFn} {N : Nat} {xs : Nat → Int32} {n s t : Nat} {V U : zV} {T S A X Q : zFn} (h : zI5 μ I N xs n s t V U T S A X Q) : ztg μ 329 = 22 ∧ znl μ 329 = 1 := h.2.2.2.2.2.2.2.2.2.2.2.1
theorem zI5.SP {μ : zM} {I : zFn} {N : Nat} {xs : Nat → Int32} {n s t : Nat} {V U : zV} {T S A X Q : zFn} (h : zI5 μ I N xs n s t V U T S A X Q) : zSP μ I N xs := h.2.2.2.2.2.2.2.2.2.2.2.2.1
theorem zI5.hV {μ : zM} {I : zFn} {N : Nat} {xs : Nat → Int32} {n s t : Nat} {V U : zV} {T S A X Q : zFn} (h : zI5 μ I N xs n s t V U T S A X Q) : zHV I n V := h.2.2.2.2.2.2.2.2.2.2.2.2.2.1
theorem zI5.hU {μ : zM} {I : zFn} {N : Nat} {xs : Nat → Int32} {n s t : Nat} {V U : zV} {T S A X Q : zFn} (h : zI5 μ I N xs n s t V U T S A X Q) : zHV I s U := h.2.2.2.2.2.2.2.2.2.2.2.2.2.2.1
theorem zI5.hS {μ : zM} {I : zFn} {N : Nat} {xs : Nat → Int32} {n s t : Nat} {V U : zV} {T S A X Q : zFn} (h : zI5 μ I N xs n s t V U T S A X Q) : zHF I 285 22 S := h.2.2.2.2.2.2.2.2.2.2.2.2.2.2.2.1
theorem zI5.hA {μ : zM} {I : zFn} {N : Nat} {xs : Nat → Int32} {n s t : Nat} {V U : zV} {T S A X Q : zFn} (h : zI5 μ I N xs n s t V U T S A X Q) : zHF I 307 22 A := h.2.2.2.2.2.2.2.2.2.2.2.2.2.2.2.2.1
theorem zI5.hX {μ : zM} {I : zFn} {N : Nat} {xs : Nat → Int32} {n s t : Nat} {V U : zV} {T S A X Q : zFn} (h : zI5 μ I N xs n s t V U T S A X Q) : zHF I 262 6 X := h.2.2.2.2.2.2.2.2.2.2.2.2.2.2.2.2.2.1
theorem zI5.hQ {μ : zM} {I : zFn} {N : Nat} {xs : Nat → Int32} {n s t : Nat} {V U : zV} {T S A X Q : zFn} (h : zI5 μ I N xs n s t V U T S A X Q) : zHF I 84 5 Q := h.2.2.2.2.2.2.2.2.2.2.2.2.2.2.2.2.2.2
section ZI5
variable {μ μ' : zM} {I I' : zFn} {N : Nat} {xs : Nat → Int32} {n s t : Nat} {V U V' U' : zV} {T S A X Q S' A' X' Q' : zFn}
theorem zMC_I (h : zMC μ 262 t 285 307 I T) (hT : ∀ j, j < 17 → I' (t + j) = I (t + j)) : zMC μ 262 t 285 307 I' T := by
  obtain ⟨h1, h2, h3, h4, h5, h6, h7, h8⟩ := h
  exact ⟨h1, h2, h3, h4, h5, h6, fun j k hj => by rw [hT j hj]; exact h7 j k hj, h8⟩
theorem zI5.upd (h : zI5 μ I N xs n s t V U T S A X Q) (hlow : ∀ a, a < 82 → I' a = I a) (hT : ∀ j, j < 17 → I' (t + j) = I (t + j)) (hV : zHV I' n V') (hU : zHV I' s U') (hS : zHF I' 285 22 S') (hA : zHF I' 307 22 A') (hX : zHF I' 262 6 X') (hQ : zHF I' 84 5 Q') : zI5 μ I' N xs n s t V' U' T S' A' X' Q' :=
  ⟨h.ns, h.tt, h.ml, h.L, h.n3, h.R, h.Kx, zKS_cg h.KS (fun _ _ => rfl) (fun a k ha => by rw [hlow a ha]), h.n9, zMS_cg h.MS (fun _ _ => rfl) (fun a k ha => by rw [hlow a ha]), zMC_I h.M hT, h.out, ⟨h.SP.1, h.SP.2.1, h.SP.2.2.1, fun j hj => by rw [hlow 81 (by decide)]; exact h.SP.2.2.2 j hj⟩, hV, hU, hS, hA, hX, hQ⟩
/-- the class's two worlds change -/
theorem zI5.cls (h : zI5 μ I N xs n s t V U T S A X Q) (V' U' : zV) : zI5 μ (zpc (zpc I n V') s U') N xs n s t V' U' T S A X Q := by
  have hns := h.ns
  have htt := h.tt
  have o : ∀ a, (a < 92 ∨ 262 ≤ a) → zpc (zpc I n V') s U' a = I a := fun a ha => by rw [zpc_o (by omega), zpc_o (by omega)]
  refine h.upd (fun a ha => o a (by omega)) (fun j hj => o _ (by omega)) ?_ (zHV.at _ _ _) (h.hS.mv fun j hj => o _ (by omega)) (h.hA.mv fun j hj => o _ (by omega)) (h.hX.mv fun j hj => o _ (by omega)) (h.hQ.mv fun j hj => o _ (by omega))
  exact (zHV.at I n V').mv fun o ho => zpc_o (by omega)
/-- the reference's own rows, its state, the one ahead change -/
theorem zI5.mdl (h : zI5 μ I N xs n s t V U T S A X Q) (X' S' A' : zFn) : zI5 μ (zfl (zfl (zfl I 262 6 X') 285 22 S') 307 22 A') N xs n s t V U T S' A' X' Q := by
  have hns := h.ns
  have htt := h.tt
  have o : ∀ a, (a < 262 ∨ (268 ≤ a ∧ a < 285) ∨ 329 ≤ a) → zfl (zfl (zfl I 262 6 X') 285 22 S') 307 22 A' a = I a := fun a ha => by rw [zfl_o (by omega), zfl_o (by omega), zfl_o (by omega)]
  refine h.upd (fun a ha => o a (by omega)) (fun j hj => o _ (by omega)) (h.hV.mv fun j hj => o _ (by omega)) (h.hU.mv fun j hj => o _ (by omega)) ?_ (zHF.at _ _ _ _) ?_ (h.hQ.mv fun j hj => o _ (by omega))
  · exact (zHF.at (zfl I 262 6 X') 285 22 S').mv fun j hj => zfl_o (by omega)
  · exact (zHF.at I 262 6 X').mv fun j hj => by rw [zfl_o (by omega), zfl_o (by omega)]
/-- the class's tape changes -/
theorem zI5.tap (h : zI5 μ I N xs n s t V U T S A X Q) (Q' : zFn) : zI5 μ (zfl I 84 5 Q') N xs n s t V U T S A X Q' := by
  have hns := h.ns
  have htt := h.tt
  have o : ∀ a, (a < 84 ∨ 89 ≤ a) → zfl I 84 5 Q' a = I a := fun a ha => zfl_o (by omega)
  exact h.upd (fun a ha => o a (by omega)) (fun j hj => o _ (by omega)) (h.hV.mv fun j hj => o _ (by omega)) (h.hU.mv fun j hj => o _ (by omega)) (h.hS.mv fun j hj => o _ (by omega)) (h.hA.mv fun j hj => o _ (by omega)) (h.hX.mv fun j hj => o _ (by omega)) (zHF.at _ _ _ _)
theorem zI5.eqc (h : zI5 μ I N xs n s t V U T S A X Q) : zpc (zpc I n V) s U = I := by rw [h.hV.eq, h.hU.eq]
theorem zI5.eqm (h : zI5 μ I N xs n s t V U T S A X Q) : zfl (zfl (zfl I 262 6 X) 285 22 S) 307 22 A = I := by rw [h.hX.eq, h.hS.eq, h.hA.eq]
theorem zI5.eqt (h : zI5 μ I N xs n s t V U T S A X Q) : zfl I (83 + 1) 5 Q = I := h.hQ.eq
/-! the memory grows, or the row that takes answers changes -/
theorem zFS_ce {b : Nat} {T N : List Nat} (h : zFS μ b T N) (e : ∀ j, j < T.length → zen μ' (b + j) = zen μ (b + j)) : zFS μ' b T N := ⟨h.1, fun j hj => by unfold ztg zni; rw [e j hj]; exact h.2 j hj⟩
theorem zgr_cg {a k : Nat} {q : Option Nat} (h : zgr μ a k = q) (e : zen μ' a = zen μ a) : zgr μ' a k = q := by unfold zgr at *; rw [e]; exact h
theorem ztg_cg {a k : Nat} (h : ztg μ a = k) (e : zen μ' a = zen μ a) : ztg μ' a = k := by unfold ztg at *; rw [e]; exact h
theorem zni_cg {a k : Nat} (h : zni μ a = k) (e : zen μ' a = zen μ a) : zni μ' a = k := by unfold zni at *; rw [e]; exact h
theorem znr_cg {a k : Nat} (h : znr μ a = k) (e : zen μ' a = zen μ a) : znr μ' a = k := by unfold znr at *; rw [e]; exact h
theorem zWS_cg {w : Nat} (h : zWS μ w) (e : ∀ o, o < 85 → zen μ' (w + o) = zen μ (w + o)) : zWS μ' w := ⟨h.1, fun o ho => by unfold ztg zni; rw [e o ho]; exact h.2 o ho⟩
theorem zTP_cg {b : Nat} (h : zTP μ b) (e : ∀ j, j < 5 → zen μ' (b + j) = zen μ (b + j)) : zTP μ' b := by
  obtain ⟨h1, h2, h3, h4, h5, h6⟩ := h
  exact ⟨zFS_ce h1 e, zgr_cg h2 (e 0 (by decide)), zgr_cg h3 (e 0 (by decide)), zgr_cg h4 (e 0 (by decide)), zgr_cg h5 (e 0 (by decide)), znr_cg h6 (e 2 (by decide))⟩
theorem zRR_cg {r : Nat} (h : zRR μ r) (e : ∀ j, j < 9 → zen μ' (r + j) = zen μ (r + j)) : zRR μ' r := by
  obtain ⟨h1, h2, h3, h4, h5, h6⟩ := h
  exact ⟨zFS_ce h1 e, zgr_cg h2 (e 0 (by decide)), zgr_cg h3 (e 0 (by decide)), zgr_cg h4 (e 0 (by decide)), zgr_cg h5 (e 0 (by decide)), zTP_cg h6 fun j hj => by rw [show r + 1 + j = r + (1 + j) from by omega]; exact e _ (by omega)⟩
theorem zLC_cg {p r : Nat} (h : zLC μ p r n s) (e0 : zen μ' (p + 0) = zen μ (p + 0)) (e1 : ∀ j, j < 9 → zen μ' (r + j) = zen μ (r + j)) (e2 : ∀ o, o < 85 → zen μ' (n + o) = zen μ (n + o)) (e3 : ∀ o, o < 85 → zen μ' (s + o) = zen μ (s + o)) : zLC μ' p r n s := by
  obtain ⟨a1, a2, a3, a4, a5, a6, a7, a8, a9, b1, b2, b3, b4, b5⟩ := h
  exact ⟨a1, ztg_cg a2 e0, zni_cg a3 e0, zgr_cg a4 e0, zgr_cg a5 e0, zgr_cg a6 e0, zWS_cg a7 e2, zWS_cg a8 e3, a9, ztg_cg b1 (e1 0 (by decide)), zgr_cg b2 (e1 0 (by decide)), ztg_cg b3 (e1 1 (by decide)), zni_cg b4 (e1 1 (by decide)), b5⟩
theorem zMX_cg {x : Nat} (h : zMX μ x) (e : ∀ j, j < 6 → zen μ' (x + j) = zen μ (x + j)) : zMX μ' x := ⟨zFS_ce h.1 e, fun k hk => zgr_cg (h.2 k hk) (e 0 (by decide))⟩
theorem zSC_cg {x t s : Nat} {I T : zFn} (h : zSC μ x t s I T) (ex : zen μ' (x + 0) = zen μ (x + 0)) (et : ∀ j, j < 17 → zen μ' (t + j) = zen μ (t + j)) (es : ∀ j, j < 22 → zen μ' (s + j) = zen μ (s + j)) : zSC μ' x t s I T := by
  obtain ⟨h1, h2, h3, h4, h5, h6, h7, h8⟩ := h
  exact ⟨zFS_ce h1 es, fun k hk => zgr_cg (h2 k hk) (es 0 (by decide)), zgr_cg h3 (es 0 (by decide)), zFS_ce h4 et, fun k hk => zgr_cg (h5 k hk) (et 0 (by decide)), ztg_cg h6 ex, zgr_cg h7 ex, h8⟩
theorem zMC_cg {x t s q : Nat} {J T : zFn} (h : zMC μ x t s q J T) (ex : ∀ j, j < 6 → zen μ' (x + j) = zen μ (x + j)) (et : ∀ j, j < 17 → zen μ' (t + j) = zen μ (t + j)) (es : ∀ j, j < 22 → zen μ' (s + j) = zen μ (s + j)) (eq : ∀ j, j < 22 → zen μ' (q + j) = zen μ (q + j)) : zMC μ' x t s q J T := by
  obtain ⟨h1, h2, h3, h4, h5, h6, h7⟩ := h
  have e0 := ex 0 (by decide)
  exact ⟨zMX_cg h1 ex, zgr_cg h2 e0, zgr_cg h3 e0, zgr_cg h4 e0, fun I hI => zSC_cg (h5 I hI) e0 et es, fun I hI => zSC_cg (h6 I hI) e0 et eq, h7⟩
theorem zSP_cg {I' : zFn} (h : zSP μ I N xs) (e : zen μ' 81 = zen μ 81) (hI : I' 81 = I 81) : zSP μ' I' N xs := ⟨ztg_cg h.1 e, zni_cg h.2.1 e, h.2.2.1, fun j hj => by rw [hI]; exact h.2.2.2 j hj⟩
theorem zI5.ext (h : zI5 μ I N xs n s t V U T S A X Q) (hl : μ.length ≤ μ'.length) (e : ∀ a, a < μ.length → a ≠ 329 → zen μ' a = zen μ a) (ho : ztg μ' 329 = 22 ∧ znl μ' 329 = 1) (hI : ∀ a, a < μ.length → I' a = I a) : zI5 μ' I' N xs n s t V U T S A X Q := by
  have hns := h.ns
  have htt := h.tt
  have hml := h.ml
  have e' : ∀ a, a < 329 → zen μ' a = zen μ a := fun a ha => e a (by omega) (by omega)
  have et : ∀ j, j < 17 → zen μ' (t + j) = zen μ (t + j) := fun j hj => e _ (by omega) (by omega)
  obtain ⟨K, hK⟩ := h.Kx
  exact ⟨hns, htt, ⟨by omega, by omega⟩, zLC_cg h.L (e' _ (by omega)) (fun j hj => e' _ (by omega)) (fun j hj => e' _ (by omega)) (fun j hj => e' _ (by omega)), znr_cg h.n3 (e' _ (by omega)), zRR_cg h.R (fun j hj => e' _ (by omega)), ⟨K, (e' 86 (by omega)).trans hK⟩, zKS_cg h.KS (fun a ha => e' a (by omega)) (fun a k ha => by rw [hI a (by omega)]), znr_cg h.n9 (e' _ (by omega)), zMS_cg h.MS (fun a ha => e' a (by omega)) (fun a k ha => by rw [hI a (by omega)]), zMC_I (zMC_cg h.M (fun j hj => e' _ (by omega)) et (fun j hj => e' _ (by omega)) (fun j hj => e' _ (by omega))) (fun j hj => hI _ (by omega)), ho, zSP_cg h.SP (e' _ (by omega)) (hI _ (by omega)), h.hV.mv (fun j hj => hI _ (by omega)), h.hU.mv (fun j hj => hI _ (by omega)), h.hS.mv (fun j hj => hI _ (by omega)), h.hA.mv (fun j hj => hI _ (by omega)), h.hX.mv (fun j hj => hI _ (by omega)), h.hQ.mv (fun j hj => hI _ (by omega))⟩
/-- an answer is put into the row -/
theorem zI5.put (h : zI5 μ I N xs n s t V U T S A X Q) (v : Int64) : zI5 (zsl μ 329 0 v) I N xs n s t V U T S A X Q ∧ zgl (zsl μ 329 0 v) 329 0 = v := by
  have hml := h.ml.1
  have ho := h.out
  unfold znl at ho
  have e9 : zen (zsl μ 329 0 v) 329 = (ztg μ 329, (zen μ 329).2.1, (zen μ 329).2.2.1, (zen μ 329).2.2.2.set 0 v) := by
    unfold zsl
    rw [zen_set (by omega), if_pos rfl]
  refine ⟨h.ext (by unfold zsl; rw [List.length_set]; exact Nat.le_refl _) (fun a ha h9 => ?_) ⟨?_, ?_⟩ (fun _ _ => rfl), ?_⟩
  · unfold zsl
    rw [zen_set ha, if_neg (fun e => h9 e.symm)]
  · unfold ztg
    rw [e9]
    exact ho.1
  · unfold znl
    rw [e9]
    show (List.set _ _ _).length = 1
    rw [List.length_set]
    exact ho.2
  · unfold zgl
    rw [e9]
    show (List.set _ 0 v).getD 0 0 = v
    rw [List.getD_eq_getElem?_getD, List.getElem?_set_self (by omega)]
    rfl
/-- rows are made -/
theorem zI5.row (h : zI5 μ I N xs n s t V U T S A X Q) (ν : zM) (hI : ∀ a, a < μ.length → I' a = I a) : zI5 (μ ++ ν) I' N xs n s t V U T S A X Q := by
  have hml := h.ml.1
  refine h.ext (by rw [List.length_append]; omega) (fun a ha _ => zen_appL ha) ⟨?_, ?_⟩ hI
  · unfold ztg
    rw [zen_appL (by omega)]
    exact h.out.1
  · unfold znl
    rw [zen_appL (by omega)]
    exact h.out.2
end ZI5
