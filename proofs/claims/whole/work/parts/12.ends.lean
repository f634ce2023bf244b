/-! ENDS: what a method returns; what it throws. -/
theorem znames : ∀ a, a < 3 → Bundle.fit (zxn a) = true ∧ (∀ n ∈ (["java/lang/RuntimeException", "java/lang/Exception"] : List String), Bundle.fit n = true) ∧
    (∀ w ∈ vx_atS "LoftPost" (zxc a) (zxn a) ["java/lang/RuntimeException", "java/lang/Exception"], w ∈ lw_tbl ∧ (goodWord w || zisN w) = true ∧ vx_ot w = true) ∧ Jvm.Cond.initialized (zxn a) ∈ lw_tbl := by decide +kernel
theorem zrets4 {ret : Option FieldType} (h : zrets 4 ret = true) : ∃ rt, ret = some rt ∧ ((∃ n, rt = .object n) ∨ ∃ t, rt = .array t) := by
  cases ret with
  | none => exact absurd h Bool.false_ne_true
  | some t =>
    cases t with
    | object n => exact ⟨_, rfl, Or.inl ⟨_, rfl⟩⟩
    | array t => exact ⟨_, rfl, Or.inr ⟨_, rfl⟩⟩
    | _ => exact absurd h Bool.false_ne_true
section ZEN
variable {p : Program} {l : Launch} {e : Env} {R : Room} {s : State} {m : MethodId} {args : Array Value} {below : List Frame} {meth : Method} {c : Code} {Q : State → Prop} {H : Heap} {locs : List Loc} {ls : Array Slot}
variable {G : zG} {AL A0 : List Nat} {cc : ByteArray} {nL : Nat} {own host : String} {pc : Nat} {L : zL} {st : List Value} {c0 sl : Nat} {μ : zM} {S' : zS} {len a b : Nat} {k : Int} {ext : List Nat} {ret : Option FieldType}
set_option maxHeartbeats 1000000 in
theorem z36 (C : zCtx p s m args meth c cc nL own) (E : zEnv G s) (hr : meth.sig.returnType = ret) (hx : zExt A0 AL) (X : zSt G nL s AL (pc, L, st, c0, sl, μ) H locs ls) (hok : (zdec cc pc (zreti b) 1 && zrets b ret) = true)
    {r : zR} (hz : zo36 b (pc, L, st, c0, sl, μ) = some (.inr r)) : r.1 = 0 ∧ zWW p l e R s m args below meth c (MQ below (zQc G A0 r.2.1 r.2.2.2.2) args s r.2.2.1 r.2.2.2.1 (zA G)) G AL (pc, L, st, c0, sl, μ) H locs ls := by
  obtain ⟨hxe, hb, -, -, -, hlk⟩ := C
  obtain ⟨B, rfl⟩ := hx
  have hu := E.2.2.2.2.2.2.2.2.2.2
  simp only [Bool.and_eq_true] at hok
  have hd := zdec_ok hok.1
  have hrt := hok.2
  unfold zo36 at hz
  split at hz
  · rename_i heq
    cases heq
    split at hz
    · rename_i hdig
      cases hz
      refine ⟨rfl, ?_⟩
      have hb0 : b = 0 := by
        match b, hdig with
        | 0, _ => rfl
        | 1, h => simp [zdig] at h
        | 2, h => simp [zdig] at h
        | 3, h => simp [zdig] at h
        | 4, h => simp [zdig] at h
        | 5, h => simp [zdig] at h
        | 6, h => simp [zdig] at h
        | 7, h => simp [zdig] at h
        | (n + 8), h => simp [zdig] at h
      subst hb0
      have hrn : ret = none := of_decide_eq_true hrt
      exact W.vret hxe hb (hr.trans hrn) (fun t ht hW => ⟨B, rfl, by rw [ht]; exact X.1, (fun w hw => by cases hw), X.2.1.F ht⟩) X.2.1.2.2 hd (hlocks := hlk)
    · cases hz
  · rename_i f1 f2 v f3 f4 f5 heq
    cases heq
    split at hz
    · rename_i hdig
      cases hz
      refine ⟨rfl, ?_⟩
      have hq : ∀ t : State, t.heap = H → s.WarmedH t.vm → zQc G A0 (some v) μ args s (.returned (some (zva G (A0 ++ B) v))) t := fun t ht hW => ⟨B, rfl, by rw [ht]; exact X.1, fun w hw => by cases hw; exact X.2.2.2.1 _ List.mem_cons_self, X.2.1.F ht⟩
      show W p l e R s m args below meth c H locs c0 sl (MQ below (zQc G A0 (some v) μ) args s c0 sl (zA G)) (F0 m pc ls [zva G (A0 ++ B) v])
      match b, v, hdig, hd, hrt, hq with
      | 1, .int x, _, hd, hrt, hq => exact W.iret hxe hb (hr.trans (of_decide_eq_true hrt)) hq X.2.1.2.2 hd (hlocks := hlk)
      | 2, .long x, _, hd, hrt, hq => exact W.lret hxe hb (hr.trans (of_decide_eq_true hrt)) hq X.2.1.2.2 hd (hlocks := hlk)
      | 3, .double x, _, hd, hrt, hq => exact W.dret hxe hb (hr.trans (of_decide_eq_true hrt)) hq X.2.1.2.2 hd (hlocks := hlk)
      | 4, .ref x, _, hd, hrt, hq =>
        have hro := zrets4 hrt
        obtain ⟨rt, h1, h2⟩ := hro
        exact W.aret hxe hb (hr.trans h1) h2 (zva_1 hu rfl) hq X.2.1.2.2 hd (hlocks := hlk)
      | 4, .null, _, hd, hrt, hq =>
        have hro := zrets4 hrt
        obtain ⟨rt, h1, h2⟩ := hro
        exact W.aret hxe hb (hr.trans h1) h2 (Or.inl rfl) hq X.2.1.2.2 hd (hlocks := hlk)
      | 5, .int x, hdig, hd, hrt, hq =>
        have hx01 : x = 0 ∨ x = 1 := of_decide_eq_true hdig
        refine W.zret hxe hb (hr.trans (of_decide_eq_true hrt)) ?_ hq X.2.1.2.2 hd (hlocks := hlk)
        rcases hx01 with rfl | rfl <;> rfl
      | 6, .int x, hdig, hd, hrt, hq =>
        have hx01 : x.toInt8.toInt32 = x := of_decide_eq_true hdig
        refine W.zret hxe hb (hr.trans (of_decide_eq_true hrt)) ?_ hq X.2.1.2.2 hd (hlocks := hlk)
        show Value.int x.toInt8.toInt32 = Value.int x
        rw [hx01]
      | 7, .int x, hdig, hd, hrt, hq =>
        have hx01 : (x.toUInt32 % 65536).toInt32 = x := of_decide_eq_true hdig
        refine W.zret hxe hb (hr.trans (of_decide_eq_true hrt)) ?_ hq X.2.1.2.2 hd (hlocks := hlk)
        have h := vp_nar_char x
        have h2 := pk_nc x
        rw [hx01] at h2
        exact h2
    · cases hz
  · cases hz
set_option maxHeartbeats 1000000 in
theorem z35 (C : zCtx p s m args meth c cc nL own) (E : zEnv G s) (hfl : l.stackTraces = false) (hxt : ∀ x ∈ c.exceptionTable.toList, False) (hx : zExt A0 AL) (X : zSt G nL s AL (pc, L, st, c0, sl, μ) H locs ls) {d : Nat} (hRf : d + 1 ≤ R.frames) (hRl : 30 * (d + 1) ≤ R.locals) {hh : List (Nat × Nat × Nat × Nat)}
    (hok : (decide (own = "LoftPost") && decide (a < 3) && zin (.classLink own (ext.getD 0 0) (zxn a)) (ext.getD 1 0) && zmsg.any (fun q => q.1 == ext.getD 2 0) && decide (ext.getD 4 0 = zxc a) && decide (hh = []) &&
        ((len == 10 && (zdec cc pc (.new (ext.getD 0 0)) 3 && zdec cc (pc + 3) .dup 1 && zdec cc (pc + 4) (.ldc (ext.getD 2 0)) 2 && zdec cc (pc + 6) (.invokespecial (ext.getD 4 0)) 3 && zdec cc (pc + 9) .athrow 1)) ||
         (len == 11 && (zdec cc pc (.new (ext.getD 0 0)) 3 && zdec cc (pc + 3) .dup 1 && zdec cc (pc + 4) (.ldc_w (ext.getD 2 0)) 3 && zdec cc (pc + 7) (.invokespecial (ext.getD 4 0)) 3 && zdec cc (pc + 10) .athrow 1)))) = true)
    {r : zR} (hz : zo35 d a (pc, L, st, c0, sl, μ) = some (.inr r)) (hRc : r.2.2.1 ≤ R.cells) (hRs : r.2.2.2.1 ≤ R.slots) :
    r.1 = a + 1 ∧ zWW p l e R s m args below meth c (vx_MQ below (fun _ _ _ _ => False) (zXc G A0 a r.2.2.2.2) args s r.2.2.1 r.2.2.2.1 (zA G)) G AL (pc, L, st, c0, sl, μ) H locs ls := by
  obtain ⟨hxe, hb, hml, ho, hT, hlk⟩ := C
  obtain ⟨B, rfl⟩ := hx
  have hu := E.2.2.2.2.2.2.2.2.2.2
  simp only [Bool.and_eq_true, decide_eq_true_eq] at hok
  obtain ⟨⟨⟨⟨⟨⟨hown, ha⟩, hcl⟩, hmsg⟩, hic⟩, -⟩, hdec⟩ := hok
  subst hown
  obtain ⟨hf1, hf2, hf3, hf4⟩ := znames a ha
  unfold zo35 at hz
  dsimp only at hz
  split at hz
  · rename_i hc
    obtain ⟨h7, hcat⟩ := hc
    cases hz
    refine ⟨rfl, ?_⟩
    obtain ⟨q, hqm, hqe⟩ := List.any_eq_true.mp hmsg
    obtain ⟨sa, hsa⟩ := E.2.2.2.2.2.2.2.2.2.1.1 q hqm
    rw [eq_of_beq hqe] at hsa
    have hini : (Cond.initialized (zxn a)).before args s = true := hT _ (List.mem_filter.mpr ⟨hf4, rfl⟩)
    have hk := hT _ (zin_T hcl rfl)
    have hat : ∀ w ∈ vx_atS "LoftPost" (ext.getD 4 0) (zxn a) ["java/lang/RuntimeException", "java/lang/Exception"], w.before args s = true := by
      rw [hic]
      intro w hw
      obtain ⟨h1, h2, -⟩ := hf3 w hw
      rw [Bool.or_eq_true] at h2
      by_cases hg : goodWord w = true
      · exact hT w (List.mem_filter.mpr ⟨h1, hg⟩)
      · have hn : zisN w = true := by
          rcases h2 with h | h
          · exact absurd h hg
          · exact h
        have hon : w.onTables = true := by
          unfold zisN at hn
          split at hn
          · rfl
          · rfl
          · simp only [Bool.and_eq_true] at hn
            exact hn.1
        exact va_Nw.use hon (E.2.2.1 w h1 hn)
    have hgood : ∀ w ∈ Cond.classLink "LoftPost" (ext.getD 0 0) (zxn a) :: Cond.initialized (zxn a) :: vx_atS "LoftPost" (ext.getD 4 0) (zxn a) ["java/lang/RuntimeException", "java/lang/Exception"], vx_ot w = true := by
      rw [hic]
      intro w hw
      rcases List.mem_cons.mp hw with rfl | hw
      · rfl
      rcases List.mem_cons.mp hw with rfl | hw
      · rfl
      exact (hf3 w hw).2.2
    have hsize : ls.size = c.maxLocals := X.2.2.1.1.trans hml.symm
    have hout : ∀ z : Nat, ∀ x ∈ c.exceptionTable.toList, covers x z = false := fun z x h => absurd (hxt x h) id
    have hfr : (["java/lang/RuntimeException", "java/lang/Exception"] : List String).length + 3 < R.frames := by
      show 2 + 3 < R.frames
      omega
    have hlo : ((st.map (zva G (A0 ++ B))).map fun v => v.category).sum + (13 * ((["java/lang/RuntimeException", "java/lang/Exception"] : List String).length + 1) + 43) ≤ R.locals := by
      rw [zcats hu]
      show _ + (13 * (2 + 1) + 43) ≤ R.locals
      omega
    have hxx : ∀ t : State, s.vm.Alike t.vm → H.size ≤ t.heap.size → (∀ q : Nat, q < H.size → t.heap[q]? = H[q]?) → zXc G A0 a μ (zxn a) s t := fun t h1 h2 h3 => by
      refine ⟨rfl, ha, B, ?_, Nat.le_trans X.2.1.1 h2, fun q h4 h5 => (h3 q (Nat.lt_of_lt_of_le h4 X.2.1.1)).trans (X.2.1.2.1 q h4 h5)⟩
      obtain ⟨ν, e1, e2, e3, e4, e5⟩ := X.1
      exact ⟨ν, e1, e2, e3.kept (fun k q hk => h3 _ (e3 k q hk).lt), e4, e5⟩
    rw [Bool.or_eq_true] at hdec
    rcases hdec with h | h
    · simp only [Bool.and_eq_true, beq_iff_eq] at h
      obtain ⟨-, ⟨⟨⟨d0, d3⟩, d4⟩, d6⟩, d9⟩ := h
      exact vx_throwS hxe hb hfl ho hf1 hf2 hk hini hsa hat hgood E.2.2.2.2.2.2.2.1 E.2.2.2.2.2.2.2.2.1 X.2.1 hsize (zdec_ok d0) (zdec_ok d3) (zdec_ok d4) (zdec_ok d6) (zdec_ok d9) (hout _) hfr hlo hRc hRs hlk hxx X.2.1.2.2 (Nat.le_refl _) (Nat.le_refl _)
    · simp only [Bool.and_eq_true, beq_iff_eq] at h
      obtain ⟨-, ⟨⟨⟨d0, d3⟩, d4⟩, d6⟩, d9⟩ := h
      exact vx_throwSW hxe hb hfl ho hf1 hf2 hk hini hsa hat hgood E.2.2.2.2.2.2.2.1 E.2.2.2.2.2.2.2.2.1 X.2.1 hsize (zdec_ok d0) (zdec_ok d3) (zdec_ok d4) (zdec_ok d6) (zdec_ok d9) (hout _) hfr hlo hRc hRs hlk hxx X.2.1.2.2 (Nat.le_refl _) (Nat.le_refl _)
  · cases hz
end ZEN
