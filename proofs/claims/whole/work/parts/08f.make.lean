/-! rows made, Object's constructor, arraycopy -/
theorem zac_i : Jvm.Cond.arrayClass .int ∈ zT := List.mem_filter.mpr ⟨by decide +kernel, rfl⟩
theorem zac_b : Jvm.Cond.arrayClass .byte ∈ zT := List.mem_filter.mpr ⟨by decide +kernel, rfl⟩
theorem zac_l : Jvm.Cond.arrayClass .long ∈ zT := List.mem_filter.mpr ⟨by decide +kernel, rfl⟩
theorem zoi_1 : Jvm.Cond.instanceMethod objectInit ∈ zT := List.mem_filter.mpr ⟨by decide +kernel, rfl⟩
theorem zoi_2 : Jvm.Cond.code objectInit ⟨#[0xb1]⟩ 1 none ∈ zT := List.mem_filter.mpr ⟨by decide +kernel, rfl⟩
theorem zay_1 : Jvm.Cond.native arraycopyName ∈ zT := List.mem_filter.mpr ⟨by decide +kernel, rfl⟩
theorem zay_2 : Jvm.Cond.static arraycopyName ∈ zT := List.mem_filter.mpr ⟨by decide +kernel, rfl⟩
theorem zay_3 : Jvm.Cond.initialized "java/lang/System" ∈ zT := List.mem_filter.mpr ⟨by decide +kernel, rfl⟩
theorem zK_row {G : zG} {s : State} {cA : ClassId} {ty : FieldType} {i : Nat} {cl : List vw_C} {D : va_G} (hK : va_K D cl (ztys G) s) (hK2 : va_K D cl (ztys G ++ [(cA, ty)]) s) (hi : (ztys G)[i]? = some (G.2.1 i, ty)) : cA = G.2.1 i := by
  have h1 := (hK.2 i _ hi).2
  have h2 := (hK2.2 8 (cA, ty) rfl).2
  cases ty with
  | object C =>
    obtain ⟨_, _, _, _, _, h3⟩ := h1
    obtain ⟨_, _, _, _, _, h4⟩ := h2
    exact Option.some.inj (h4.symm.trans h3)
  | _ => exact Option.some.inj (h2.symm.trans h1)
section ZSN
variable {p : Program} {l : Launch} {e : Env} {R : Room} {s : State} {m : MethodId} {args : Array Value} {below : List Frame} {meth : Method} {c : Code} {Q : State → Prop} {H : Heap} {locs : List Loc} {ls : Array Slot}
variable {G : zG} {AL : List Nat} {cc : ByteArray} {nL : Nat} {own host : String} {pc : Nat} {L : zL} {st : List Value} {c0 sl : Nat} {μ : zM} {S' : zS} {len a b : Nat} {k : Int} {ext : List Nat}
set_option maxHeartbeats 1000000 in
/-- a row of numbers made -/
theorem zna (C : zCtx p s m args meth c cc nL own) (E : zEnv G s) {n : Int32} {atype : ArrayType} {ty : FieldType} {i : Nat} {e1 : zE} {a0 : vp_A} (X : zSt G nL s AL (pc, L, .int n :: st, c0, sl, μ) H locs ls) (hRc : c0 + 1 ≤ R.cells) (hRs : sl + n.toNatClampNeg ≤ R.slots)
    (hn : ¬ n < 0) (hN : n.toNatClampNeg ≤ 10000) (hac : Jvm.Cond.arrayClass (newarray.typeOf atype) ∈ zT) (hty : newarray.typeOf atype = ty) (hcb : componentBytes ty ≤ 8) (hi : (ztys G)[i]? = some (G.2.1 i, ty)) (ha : ∀ cA : ClassId, vp_cell cA a0 = arrV cA n.toNatClampNeg (fun _ => defaultValue ty)) (hd : decode cc pc = .ok (.newarray atype, 2))
    (hwe : ∀ n, zwe n e1) (he : ∀ AL', zae G AL' e1 = .inl (G.2.1 i, a0))
    (kk : zKK p l e R s m args below meth c Q G nL AL (pc + 2, L, .ref μ.length :: st, c0 + 1, sl + n.toNatClampNeg, μ ++ [e1])) : zWW p l e R s m args below meth c Q G AL (pc, L, .int n :: st, c0, sl, μ) H locs ls := by
  obtain ⟨hx, hb, -, ho, hT, -⟩ := C
  obtain ⟨ν, rfl, hl, hP, hD, hw⟩ := id X.1
  have hA : ∀ q, s.heap.size ≤ q → zA G q := fun q h => Nat.le_trans E.2.1 h
  have hby : n.toNatClampNeg * componentBytes ty ≤ 536870912 := Nat.le_trans (Nat.mul_le_mul hN hcb) (Nat.le_of_ble_eq_true rfl)
  refine va_newa (atype := atype) (a0 := a0) (ty := ty) hx hb (hT _ hac) hty E.1 hP hD X.2.1 hA ha hn rfl hby hRc hRs hd (fun q cA H1 hK1 hP1 hD1 hS1 => ?_)
  have hcA := zK_row E.1 hK1 hi
  subst hcA
  rw [← he (AL ++ [q])] at hP1 hD1
  obtain ⟨Y, hm⟩ := zst_new (pc' := pc + 2) (c1 := c0 + 1) (s1 := sl + n.toNatClampNeg) (st' := st) X hl hw (hwe _) hP1 hD1 hS1 (fun w h => List.mem_cons_of_mem _ h)
  have K := kk _ _ _ _ (zex1 AL q) Y
  unfold zWW at K
  dsimp only at K
  rw [hm] at K
  exact K
theorem zwe_n {t n : Nat} {x : List Int32} {z : List Int64} (h : 20 ≤ t ∧ t < 28) : zwe n (t, x, [], z) := ⟨Or.inr h, fun k hk => by cases hk⟩
theorem z30 (C : zCtx p s m args meth c cc nL own) (E : zEnv G s) (X : zSt G nL s AL (pc, L, st, c0, sl, μ) H locs ls)
    (hok : (match b with
      | 20 => zdec cc pc (.newarray .int) 2
      | 21 => zdec cc pc (.newarray .byte) 2
      | 22 => zdec cc pc (.newarray .long) 2
      | _ => false) = true)
    (hz : zo30 b (pc, L, st, c0, sl, μ) = some (.inl S')) (hRc : S'.2.2.2.1 ≤ R.cells) (hRs : S'.2.2.2.2.1 ≤ R.slots) (kk : zKK p l e R s m args below meth c Q G nL AL S') : zWW p l e R s m args below meth c Q G AL (pc, L, st, c0, sl, μ) H locs ls := by
  unfold zo30 at hz
  split at hz
  · rename_i pc1 L1 n st1 c1 sl1 μ1 heq
    cases heq
    split at hz
    · rename_i hc
      obtain ⟨hn, hN⟩ := hc
      cases hz
      match b, hok, kk with
      | 20, hok, kk =>
        rw [if_neg (by decide)] at kk
        refine zna (i := 0) (atype := .int) (ty := .int) (a0 := (n.toNatClampNeg, .inl (fun j => (List.replicate n.toNatClampNeg (0 : Int32)).getD j 0))) C E X hRc hRs hn hN zac_i rfl (by decide) rfl (fun cA => ?_) (zdec_ok hok) (fun _ => zwe_n (by decide)) (fun AL' => ?_) kk
        · rw [vp_cell_i]
          exact congrArg (arrV cA n.toNatClampNeg) (funext fun j => by rw [zrep]; rfl)
        · rw [zae_i4 rfl, List.length_replicate]
      | 21, hok, kk =>
        rw [if_neg (by decide)] at kk
        refine zna (i := 1) (atype := .byte) (ty := .byte) (a0 := (n.toNatClampNeg, .inl (fun j => (List.replicate n.toNatClampNeg (0 : Int32)).getD j 0))) C E X hRc hRs hn hN zac_b rfl (by decide) rfl (fun cA => ?_) (zdec_ok hok) (fun _ => zwe_n (by decide)) (fun AL' => ?_) kk
        · rw [vp_cell_i]
          exact congrArg (arrV cA n.toNatClampNeg) (funext fun j => by rw [zrep]; rfl)
        · rw [zae_b4 rfl, List.length_replicate]
      | 22, hok, kk =>
        rw [if_pos rfl] at kk
        refine zna (i := 2) (atype := .long) (ty := .long) (a0 := (n.toNatClampNeg, .inr (.inl (fun j => (List.replicate n.toNatClampNeg (0 : Int64)).getD j 0)))) C E X hRc hRs hn hN zac_l rfl (by decide) rfl (fun cA => ?_) (zdec_ok hok) (fun _ => zwe_n (by decide)) (fun AL' => ?_) kk
        · rw [vp_cell_l]
          exact congrArg (arrV cA n.toNatClampNeg) (funext fun j => by rw [zrep]; rfl)
        · rw [zae_l4 rfl, List.length_replicate]
    · cases hz
  · cases hz
set_option maxHeartbeats 1000000 in
theorem z31 (C : zCtx p s m args meth c cc nL own) (E : zEnv G s) (X : zSt G nL s AL (pc, L, st, c0, sl, μ) H locs ls)
    (hok : (zdec cc pc (.anewarray (ext.getD 0 0)) 3 && decide (23 ≤ b ∧ b < 28) && zin (.classLink own (ext.getD 0 0) (zot b)) (ext.getD 1 0)) = true)
    (hz : zo31 b (pc, L, st, c0, sl, μ) = some (.inl S')) (hRc : S'.2.2.2.1 ≤ R.cells) (hRs : S'.2.2.2.2.1 ≤ R.slots) (kk : zKK p l e R s m args below meth c Q G nL AL S') : zWW p l e R s m args below meth c Q G AL (pc, L, st, c0, sl, μ) H locs ls := by
  obtain ⟨hx, hb, -, ho, hT, -⟩ := C
  simp only [Bool.and_eq_true, decide_eq_true_eq] at hok
  obtain ⟨⟨hd, hb1, hb2⟩, hcl⟩ := hok
  unfold zo31 at hz
  split at hz
  · rename_i pc1 L1 n st1 c1 sl1 μ1 heq
    cases heq
    split at hz
    · rename_i hc
      obtain ⟨hn, hN⟩ := hc
      cases hz
      obtain ⟨ν, rfl, hl, hP, hD, hw⟩ := id X.1
      have hA : ∀ q, s.heap.size ≤ q → zA G q := fun q h => Nat.le_trans E.2.1 h
      have hby : n.toNatClampNeg * 4 ≤ 536870912 := Nat.le_trans (Nat.mul_le_mul hN (Nat.le_refl 4)) (Nat.le_of_ble_eq_true rfl)
      refine va_newq hx hb ho (hT _ (zin_T hcl rfl)) (E.2.2.2.1 b hb1 hb2) E.1 hP hD X.2.1 hA hn rfl hby hRc hRs (zdec_ok hd) (fun q cA H1 hK1 hP1 hD1 hS1 => ?_)
      have hcA := zK_row E.1 hK1 (zty_at G b hb1 hb2)
      subst hcA
      have hwe : ∀ n', zwe n' (b, [], List.replicate n.toNatClampNeg none, []) := fun n' => ⟨Or.inr ⟨by omega, hb2⟩, fun z hz => by
        have hz : some z ∈ List.replicate n.toNatClampNeg (none : Option Nat) := hz
        rw [List.mem_replicate] at hz
        cases hz.2⟩
      have he : zae G (AL ++ [q]) (b, [], List.replicate n.toNatClampNeg none, []) = .inl (G.2.1 (b - 20), n.toNatClampNeg, .inr (.inr (.inr (.inr (fun _ => none))))) := by
        rw [zae_r4 hb1 hb2, List.length_replicate]
        have : (fun j => ((List.replicate n.toNatClampNeg (none : Option Nat)).getD j none).map (zaq G (AL ++ [q]))) = fun _ => none := funext fun j => by rw [zrep]; rfl
        rw [this]
      rw [← he] at hP1 hD1
      obtain ⟨Y, hm⟩ := zst_new (pc' := pc + 3) (c1 := c0 + 1) (s1 := sl + n.toNatClampNeg) (st' := st1) X hl hw (hwe _) hP1 hD1 hS1 (fun w h => List.mem_cons_of_mem _ h)
      have K := kk _ _ _ _ (zex1 AL q) Y
      unfold zWW at K
      dsimp only at K
      rw [hm] at K
      exact K
    · cases hz
  · cases hz
theorem z33 (C : zCtx p s m args meth c cc nL own) (E : zEnv G s) (X : zSt G nL s AL (pc, L, st, c0, sl, μ) H locs ls) (hRf : 1 ≤ R.frames) (hRl : 30 ≤ R.locals)
    (hok : (zdec cc pc (.invokespecial (ext.getD 0 0)) 3 && zin (.methodLink own (ext.getD 0 0) objectInit) (ext.getD 1 0)) = true)
    (hz : zo33 (pc, L, st, c0, sl, μ) = some (.inl S')) (kk : zKK p l e R s m args below meth c Q G nL AL S') : zWW p l e R s m args below meth c Q G AL (pc, L, st, c0, sl, μ) H locs ls := by
  obtain ⟨hx, hb, hml, ho, hT, -⟩ := C
  have hu := E.2.2.2.2.2.2.2.2.2.2
  simp only [Bool.and_eq_true] at hok
  unfold zo33 at hz
  split at hz
  · rename_i pc1 L1 r st1 c1 sl1 μ1 heq
    cases heq
    split at hz
    · rename_i hc
      cases hz
      have K := kk AL H locs ls (zex AL) (zst_put X (zst_pop X))
      have hv : zva G AL (.ref r) = .ref (zaq G AL r) := by
        show (if r = zUK then G.2.2.2.1 else Value.ref (zaq G AL r)) = _
        rw [if_neg hc.2]
      show W p l e R s m args below meth c H locs c0 sl Q (F0 m pc ls (zva G AL (.ref r) :: st1.map (zva G AL)))
      rw [hv]
      refine W.objInit hx hb ho (hT _ (zin_T hok.2 rfl)) (hT _ zoi_1) (hT _ zoi_2) rfl (by rw [hml]; exact X.2.2.1.1) rfl (zdec_ok hok.1) hRf ?_ K
      show 2 * 0 + ((st1.map (zva G AL)).map fun v => v.category).sum + 12 ≤ R.locals
      rw [zcats hu]
      omega
    · cases hz
  · cases hz
set_option maxHeartbeats 1000000 in
theorem z34 (C : zCtx p s m args meth c cc nL own) (E : zEnv G s) (X : zSt G nL s AL (pc, L, st, c0, sl, μ) H locs ls) (hRf : 1 ≤ R.frames) (hRl : 30 ≤ R.locals)
    (hok : (zdec cc pc (.invokestatic (ext.getD 0 0)) 3 && zin (.methodLink own (ext.getD 0 0) arraycopyName) (ext.getD 1 0)) = true)
    (hz : zo34 (pc, L, st, c0, sl, μ) = some (.inl S')) (kk : zKK p l e R s m args below meth c Q G nL AL S') : zWW p l e R s m args below meth c Q G AL (pc, L, st, c0, sl, μ) H locs ls := by
  obtain ⟨hx, hb, hml, ho, hT, -⟩ := C
  have hu := E.2.2.2.2.2.2.2.2.2.2
  simp only [Bool.and_eq_true] at hok
  unfold zo34 at hz
  split at hz
  · rename_i pc1 L1 n dp r1 sp r0 st1 c1 sl1 μ1 heq
    cases heq
    split at hz
    · rename_i hc
      obtain ⟨hcat, hr0, hr1, ht0, ht1, hsp, hdp, hn, hb0, hb1⟩ := hc
      cases hz
      obtain ⟨ν, rfl, hl, hP, hD, hw⟩ := id X.1
      obtain ⟨-, h1, h2⟩ := zdyn (xs := G.2.2.2.2.2) (ν := ν) (r := r1) (by omega)
      obtain ⟨-, h3, h4⟩ := zdyn (xs := G.2.2.2.2.2) (ν := ν) (r := r0) (by omega)
      have hws1 := zws_at (G := G) hl h1
      have hws0 := zws_at (G := G) hl h3
      rw [zae_i ht1] at hws1
      rw [zae_i ht0] at hws0
      have hwe := hw _ (List.mem_of_getElem? h1)
      show W p l e R s m args below meth c H locs c0 sl Q (F0 m pc ls (.int n :: .int dp :: zva G AL (.ref r1) :: .int sp :: zva G AL (.ref r0) :: st1.map (zva G AL)))
      rw [zva_dyn hr0, zva_dyn hr1]
      refine va_copyi hx hb (hml.trans X.2.2.1.1.symm) ho (hT _ (zin_T hok.2 rfl)) (hT _ zay_1) (hT _ zay_2) (hT _ zay_3) E.1 hP hD X.2.1 _ _ 0 0 hws0 hws1 rfl rfl rfl hsp hdp hn hb0 hb1 (fun i _ => rfl) hRf ?_ (zdec_ok hok.1) (fun H1 locs1 hP1 hD1 hS1 => ?_)
      · rw [zcats hu]
        have : nativeFrameWords "java/lang/System" "arraycopy" 5 = 7 := by decide +kernel
        omega
      · have he : zae G AL (ztg (zm0 G.2.2.2.2.2 ++ ν) r1, zcpy (zen (zm0 G.2.2.2.2.2 ++ ν) r0).2.1 (zen (zm0 G.2.2.2.2.2 ++ ν) r1).2.1 sp.toNatClampNeg dp.toNatClampNeg n.toNatClampNeg, (zen (zm0 G.2.2.2.2.2 ++ ν) r1).2.2.1, (zen (zm0 G.2.2.2.2.2 ++ ν) r1).2.2.2) = .inl (G.2.1 0, (zen (zm0 G.2.2.2.2.2 ++ ν) r1).2.1.length, .inl (va_cpy (fun j => (zen (zm0 G.2.2.2.2.2 ++ ν) r0).2.1.getD j 0) (fun j => (zen (zm0 G.2.2.2.2.2 ++ ν) r1).2.1.getD j 0) sp.toNatClampNeg dp.toNatClampNeg n.toNatClampNeg)) := by
          rw [zae_i4 ht1, zcpy_fn hb1]
          have : (zcpy (zen (zm0 G.2.2.2.2.2 ++ ν) r0).2.1 (zen (zm0 G.2.2.2.2.2 ++ ν) r1).2.1 sp.toNatClampNeg dp.toNatClampNeg n.toNatClampNeg).length = (zen (zm0 G.2.2.2.2.2 ++ ν) r1).2.1.length := by simp [zcpy]
          rw [this]
        rw [← he] at hP1 hD1
        have K := kk AL H1 locs1 ls (zex AL)
        unfold zsI at K
        rw [zmu_set hr1] at K
        exact K (zst_set X hl hw h1 ⟨hwe.1, hwe.2⟩ hP1 hD1 hS1 (fun w h => List.mem_cons_of_mem _ (List.mem_cons_of_mem _ (List.mem_cons_of_mem _ (List.mem_cons_of_mem _ (List.mem_cons_of_mem _ h))))))
    · cases hz
  · cases hz
end ZSN
