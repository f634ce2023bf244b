/-! THE WALK: every run of the abstract machine is the JVM's. -/
theorem zden_lt {cds : Nat → Nat × List zRI} (hc : ∀ a, 232 ≤ a → (cds a).2 = []) {d a : Nat} {as : List Value} {μ : zM} {r : zR} (h : zden cds d a as μ = some r) : a < 232 := by
  rcases Nat.lt_or_ge a 232 with h1 | h1
  · exact h1
  · exfalso
    cases d with
    | zero => cases h
    | succ d =>
      rw [zden, hc a h1] at h
      split at h
      case isFalse => cases h
      obtain ⟨n, hn⟩ := zden1_iff.mp h
      cases n with
      | zero => cases hn
      | succ n => cases hn
theorem zcast : ∀ a, a < 3 → Jvm.Cond.castable (zxn a) (zxn a) ∈ lw_tbl ∧ zisN (Jvm.Cond.castable (zxn a) (zxn a)) = true := by decide +kernel
theorem zsmall : ∀ z : Nat, z < 6 → Int32.ofInt (z : Int) = Int32.ofNat z := by decide +kernel
/-- the row of the table that takes what is thrown -/
theorem zhok_find {own : String} {cc : ByteArray} {pc nL E z : Nat} : ∀ (hx : List Nat) (hh : List (Nat × Nat × Nat × Nat)) (prev : List Nat), zhok own cc pc nL prev hx hh = true → zhx hx (E + 1) = some z →
    ∃ (pre : List ExceptionTableEntry) (x : ExceptionTableEntry) (suf : List ExceptionTableEntry) (len ix : Nat), tableOf hh = pre ++ x :: suf ∧ (∀ w ∈ pre, w.catchType ≠ 0 ∧ ∃ P, Jvm.Cond.classLink own w.catchType (zxn P) ∈ lw_tbl ∧ (E, P) ∈ [(1, 0), (2, 0), (0, 2)]) ∧ (∀ P ∈ prev, (E, P - 1) ∈ [(1, 0), (2, 0), (0, 2)]) ∧
      covers x pc = true ∧ x.catchType ≠ 0 ∧ Jvm.Cond.classLink own x.catchType (zxn E) ∈ lw_tbl ∧ ix < nL ∧ ((len = 1 ∧ ix < 4 ∧ decode cc x.handlerPc = .ok (.astore_n (Fin.ofNat 4 ix), 1)) ∨ (len = 2 ∧ decode cc x.handlerPc = .ok (.astore ix, 2))) ∧
      decode cc (x.handlerPc + len) = .ok (.iconst (z : Int), 1) ∧ decode cc (x.handlerPc + len + 1) = .ok (.ireturn, 1) ∧ z < 6
  | E1 :: code :: h :: len :: ix :: r, (s0, e0, h0, ct) :: t, prev, hk, hz => by
    unfold zhok at hk
    simp only [Bool.and_eq_true, decide_eq_true_eq] at hk
    obtain ⟨⟨⟨⟨⟨⟨⟨⟨⟨⟨⟨⟨⟨h1, h2⟩, h3⟩, h4⟩, h5⟩, h6⟩, h7⟩, h8⟩, h9⟩, h10⟩, h11⟩, h12⟩, h13⟩, h14⟩ := hk
    subst h3
    unfold zhx at hz
    split at hz
    · rename_i he
      cases hz
      subst he
      refine ⟨[], ⟨s0, e0, h0, ct⟩, tableOf t, len, ix, rfl, (fun w hw => by cases hw), fun P hP => of_decide_eq_true (List.all_eq_true.mp h13 P hP), ?_, h4, h5, h8, ?_, zdec_ok h10, zdec_ok h11, h12⟩
      · simp [covers, h1, h2]
      · split at h9
        · rename_i hl
          simp only [Bool.and_eq_true, decide_eq_true_eq] at h9
          exact Or.inl ⟨hl, h9.1, zdec_ok h9.2⟩
        · simp only [Bool.and_eq_true, decide_eq_true_eq] at h9
          exact Or.inr ⟨h9.1, zdec_ok h9.2⟩
    · obtain ⟨pre, x, suf, len', ix', q1, q2, q3, q4⟩ := zhok_find r t (prev ++ [E1]) h14 hz
      refine ⟨⟨s0, e0, h0, ct⟩ :: pre, x, suf, len', ix', ?_, fun w hw => ?_, fun P hP => q3 P (List.mem_append_left _ hP), q4⟩
      · show _ :: tableOf t = _
        rw [q1]
        rfl
      · rcases List.mem_cons.mp hw with rfl | hw
        · exact ⟨h4, E1 - 1, h5, q3 E1 (List.mem_append_right _ (List.mem_singleton.mpr rfl))⟩
        · exact q2 w hw
  | _ :: _ :: _ :: _ :: _ :: _, [], _, hk, _ => by unfold zhok at hk; cases hk
  | [], _, _, _, hz => by cases hz
  | [_], _, _, _, hz => by cases hz
  | [_, _], _, _, _, hz => by cases hz
  | [_, _, _], _, _, _, hz => by cases hz
  | [_, _, _, _], _, _, _, hz => by cases hz
section ZWK
variable {p : Program} {l : Launch} {e : Env} {R : Room} {s : State} {m : MethodId} {args : Array Value} {below : List Frame} {meth : Method} {c : Code} {Q : State → Prop} {H : Heap} {locs : List Loc} {ls : Array Slot}
variable {G : zG} {AL A0 : List Nat} {cc : ByteArray} {nL : Nat} {own host : String} {pc : Nat} {L : zL} {st : List Value} {c0 sl : Nat} {μ : zM} {S' : zS} {len a b : Nat} {k : Int} {ext : List Nat} {ret : Option FieldType} {hh : List (Nat × Nat × Nat × Nat)} {cds : Nat → Nat × List zRI} {d : Nat}
theorem z32 (C : zCtx p s m args meth c cc nL own) (E : zEnv G s) (hS : zSND l cds d) (hcd : ∀ a, 232 ≤ a → (cds a).2 = []) (X : zSt G nL s AL (pc, L, st, c0, sl, μ) H locs ls) (hRf : d + 1 ≤ R.frames) (hRl : 30 * (d + 1) ≤ R.locals)
    (hok : zcall own host cc pc a b k ext = true) (hz : zo32 (zden cds d) a k.toNat (ext.getD 5 99) (pc, L, st, c0, sl, μ) = some (.inl S')) (hRc : S'.2.2.2.1 ≤ R.cells) (hRs : S'.2.2.2.2.1 ≤ R.slots)
    (kk : zKK p l e R s m args below meth c Q G nL AL S') : zWW p l e R s m args below meth c Q G AL (pc, L, st, c0, sl, μ) H locs ls := by
  unfold zo32 at hz
  dsimp only at hz
  split at hz
  · rename_i hc
    obtain ⟨hn, hcat, htag⟩ := hc
    obtain ⟨as, rest, h1, h2, h3, h4⟩ := ztake hn
    rw [h2, h3] at hz
    rw [h3] at hcat
    rw [h2] at htag
    split at hz
    · rename_i v c1 s1 μ1 hcall
      cases hz
      exact zcal C E hS X hRf hRl h1 h4 hcat htag (zden_lt hcd hcall) hcall hRc hRs hok kk
    · cases hz
  · cases hz
theorem z37n (C : zCtx p s m args meth c cc nL own) (E : zEnv G s) (hS : zSND l cds d) (hcd : ∀ a, 232 ≤ a → (cds a).2 = []) (X : zSt G nL s AL (pc, L, st, c0, sl, μ) H locs ls) (hRf : d + 1 ≤ R.frames) (hRl : 30 * (d + 1) ≤ R.locals)
    (hok : zcall own host cc pc a b k ext = true) (hz : zo37 (zden cds d) a k.toNat (ext.getD 5 99) (ext.drop 6) (pc, L, st, c0, sl, μ) = some (.inl S')) (hRc : S'.2.2.2.1 ≤ R.cells) (hRs : S'.2.2.2.2.1 ≤ R.slots)
    (kk : zKK p l e R s m args below meth c Q G nL AL S') : zWW p l e R s m args below meth c Q G AL (pc, L, st, c0, sl, μ) H locs ls := by
  unfold zo37 at hz
  dsimp only at hz
  split at hz
  · rename_i hc
    obtain ⟨hn, hcat, ht99, htag⟩ := hc
    obtain ⟨as, rest, h1, h2, h3, h4⟩ := ztake hn
    rw [h2, h3] at hz
    rw [h3] at hcat
    rw [h2] at htag
    split at hz
    · rename_i v c1 s1 μ1 hcall
      cases hz
      exact zcal C E hS X hRf hRl h1 h4 hcat (Or.inr htag) (zden_lt hcd hcall) hcall hRc hRs hok kk
    · split at hz <;> cases hz
    · cases hz
  · cases hz
set_option maxHeartbeats 1000000 in
theorem z37x (C : zCtx p s m args meth c cc nL own) (E : zEnv G s) (hSX : zSNX l cds d) (hcd : ∀ a, 232 ≤ a → (cds a).2 = []) (hr : meth.sig.returnType = ret) (hxt : c.exceptionTable.toList = tableOf hh) (hx : zExt A0 AL) (X : zSt G nL s AL (pc, L, st, c0, sl, μ) H locs ls) (hRf : d + 1 ≤ R.frames) (hRl : 30 * (d + 1) ≤ R.locals)
    (hok : (decide (b = 0) && zcall own host cc pc a b k ext && decide (ret = some .int) && zhok own cc pc nL [] (ext.drop 6) hh && decide (ext.getD 2 0 = 0)) = true) {r : zR} (hz : zo37 (zden cds d) a k.toNat (ext.getD 5 99) (ext.drop 6) (pc, L, st, c0, sl, μ) = some (.inr r)) (hRc : r.2.2.1 ≤ R.cells) (hRs : r.2.2.2.1 ≤ R.slots) :
    r.1 = 0 ∧ zWW p l e R s m args below meth c (MQ below (zQc G A0 r.2.1 r.2.2.2.2) args s r.2.2.1 r.2.2.2.1 (zA G)) G AL (pc, L, st, c0, sl, μ) H locs ls := by
  obtain ⟨hxe, hb, hml, ho, hT, hlk⟩ := id C
  have hu := E.2.2.2.2.2.2.2.2.2.2
  simp only [Bool.and_eq_true, decide_eq_true_eq] at hok
  obtain ⟨⟨⟨⟨hb0, hok⟩, hri⟩, hho⟩, hne⟩ := hok
  subst hb0
  unfold zo37 at hz
  dsimp only at hz
  split at hz
  · rename_i hc
    obtain ⟨hn, hcat, ht99, htag⟩ := hc
    obtain ⟨as, rest, h1, h2, h3, h4⟩ := ztake hn
    rw [h2, h3] at hz
    rw [h3] at hcat
    rw [h2] at htag
    subst h1
    split at hz
    · cases hz
    · rename_i E1 v c1 s1 μ1 hcall
      split at hz
      · rename_i z hzz
        cases hz
        refine ⟨rfl, ?_⟩
        have ha := zden_lt hcd hcall
        obtain ⟨hini, hmh, hpn, hmL⟩ := zmf_spec ha
        have hvw : ∀ w ∈ as, zvw μ.length w := fun w hw => X.2.2.2.1 w (List.mem_append_left _ (List.mem_reverse.mpr hw))
        unfold zcall at hok
        dsimp only at hok
        rw [Bool.and_eq_true] at hok
        obtain ⟨hlk2, hok⟩ := hok
        simp only [Bool.and_eq_true, decide_eq_true_eq] at hok
        obtain ⟨⟨⟨⟨⟨⟨⟨hd, him⟩, hse⟩, htc⟩, ht11⟩, hpar⟩, hk1⟩, hh0⟩ := hok
        have hd := zdec_ok hd
        rw [if_pos hne] at hlk2
        have hM := hSX a as μ E1 v c1 s1 μ1 ha hh0 hcall G AL hvw
        have hfix : CallFix p m c cc nL s args zT own := ⟨hxe, hb, hml, ho, hT⟩
        have hroom : d + 1 ≤ R.frames ∧ 8 + ((zm a).2.2.1 + 11) + 30 * d ≤ R.locals := ⟨hRf, by omega⟩
        have hW : 2 * (F0 m pc ls ((as.reverse ++ rest).map (zva G AL))).monitorRoom + ((rest.map (zva G AL)).map fun v => v.category).sum ≤ 8 := by
          show 2 * 0 + _ ≤ 8
          rw [zcats hu]
          omega
        obtain ⟨r0, as', rfl, ht⟩ := zhd_ref htag (by omega)
        obtain ⟨q, hq, hrv⟩ := zrecv E X ht11 ht
        rw [htc] at hrv
        have hargs : (Value.ref q :: as'.map (zva G AL)).toArray = ((Value.ref r0 :: as').map (zva G AL)).toArray := by rw [List.map_cons, hq]
        have hpre : PreV s H (zmy a).cls q (zPc G AL (.ref r0 :: as') μ) (as'.map (zva G AL)) := ⟨zPc_blind, hrv, fun U hU hW => by rw [hargs]; exact zpre E X U hU hW⟩
        have hstk : (F0 m pc ls (((Value.ref r0 :: as').reverse ++ rest).map (zva G AL))).stack = (as'.map (zva G AL)).reverse ++ .ref q :: rest.map (zva G AL) := by
          show ((Value.ref r0 :: as').reverse ++ rest).map (zva G AL) = _
          rw [zmap_rev, List.map_cons, hq, List.reverse_cons, List.append_assoc]
          rfl
        have hnn : (as'.map (zva G AL)).length = k.toNat - 1 := by
          rw [List.length_map]
          simp at h4
          omega
        have hgi : GoodIn zT (wsV own (ext.getD 0 0) (zmy a).cls (zmy a) (zmw a)) := zGI (fun w hw => by
          rcases List.mem_append.mp hw with h | h
          · rcases List.mem_cons.mp h with rfl | h
            · exact zin_T hlk2 rfl
            rcases List.mem_cons.mp h with rfl | h
            · exact zin_T him rfl
            rcases List.mem_cons.mp h with rfl | h
            · exact zin_T hse rfl
            rw [List.mem_singleton.mp h]
            exact hini
          · exact zmw_T ha w h)
        have cw := cwV (R := R) (s := s) (args := args) (own := own) (C := (zmy a).cls) (index := ext.getD 0 0) (y := zmy a) (rm := { frames := d, cells := c1, slots := s1, locals := 30 * d }) (mc := c1) (ms := s1) (k.toNat - 1) hT hgi (zcode_of hh0) rfl rfl ⟨rfl, hmh.1, hmh.2, hpar⟩ hroom
        have hrun := vx_runV (l := l) (e := e) (below := below) (meth := meth) (locs := locs) (cells := c0) (slots := sl) hfix hM cw hpre rfl hnn X.2.2.1.1 hstk hW hd ⟨hRc, hRs⟩
        intro T hTH Y
        rcases hrun T hTH Y with ⟨v9, st₀, t, T', Lc, h0, Y', hL, e1, e2, hf, -⟩ | ⟨qx, st₀, t, T', Lc, Ex, ce, h0, Y', hL, e1, e2, hXC, hce, hcv, hcl, stp⟩
        · exact hf.elim
        · obtain ⟨rfl, hE3, B2, hrel, hz2, hk2⟩ := hXC
          obtain ⟨pre, x, suf, ln, ix, q1, q2, -, q4, q5, q6, q7, q8, q9, q10, q11⟩ := zhok_find _ _ _ hho hzz
          rw [h0] at hz2 hk2
          have hS := X.2.1
          have hS1 : va_S (zA G) s.heap T'.heap (locs ++ Lc) := ⟨Nat.le_trans hS.1 (by rw [e1]; exact hz2), fun q h1 h2 => by rw [e1, hk2 q (Nat.lt_of_lt_of_le h1 hS.1) h2]; exact hS.2.1 q h1 h2, fun q hq => by
            rcases List.mem_append.mp hq with h | h
            · exact hS.2.2 q h
            · exact hL q h⟩
          obtain ⟨B, rfl⟩ := hx
          have hcst := zcast E1 hE3
          have kk : vx_W p l e R s m args below meth c T'.heap (locs ++ Lc) (c0 + c1) (sl + s1) (MQ below (zQc G A0 (some (.int (Int32.ofNat z))) μ1) args s (c0 + c1) (sl + s1) (zA G)) (F0 m pc ls (rest.map (zva G (A0 ++ B)))) qx := by
            refine vx_catch ho pre x suf (hxt.trans q1) (fun w hw => ?_) q4 q5 (hT _ (List.mem_filter.mpr ⟨q6, rfl⟩)) (va_Nw.use rfl (E.2.2.1 _ hcst.1 hcst.2)) (by rw [e1]; exact hce) hcv hcl ?_
            · obtain ⟨w1, P, w2, w3⟩ := q2 w hw
              refine Or.inr ⟨w1, zxn P, hT _ (List.mem_filter.mpr ⟨w2, rfl⟩), ?_⟩
              have hnc := E.2.2.2.2.2.2.2.2.2.1.2
              simp only [List.mem_cons, Prod.mk.injEq, List.not_mem_nil, or_false] at w3
              rcases w3 with ⟨rfl, rfl⟩ | ⟨rfl, rfl⟩ | ⟨rfl, rfl⟩
              · exact hnc.1
              · exact hnc.2.1
              · exact hnc.2.2
            · have hfin : ∀ ls2 : Array Slot, W p l e R s m args below meth c T'.heap (locs ++ Lc) (c0 + c1) (sl + s1) (MQ below (zQc G A0 (some (.int (Int32.ofNat z))) μ1) args s (c0 + c1) (sl + s1) (zA G)) (F0 m (x.handlerPc + ln) ls2 []) := fun ls2 =>
                lv_iconst hxe hb q9 (zsmall z q11) (W.iret hxe hb (hr.trans hri) (fun t2 ht2 hW2 => ⟨B ++ B2, rfl, by rw [ht2, e1, ← List.append_assoc]; exact hrel, fun w hw => by cases hw; trivial, hS1.F ht2⟩) hS1.2.2 q10 (hlocks := hlk))
              rcases q8 with ⟨rfl, w1, w2⟩ | ⟨rfl, w2⟩
              · exact lv_astore_n hxe hb w2 (zFin w1) X.2.2.1 q7 rfl (fun ls2 _ => hfin ls2)
              · exact lv_astore hxe hb w2 X.2.2.1 q7 rfl (fun ls2 _ => hfin ls2)
          obtain ⟨t2, a1, b1⟩ := kk T' rfl Y'
          exact ⟨t2, stp.trans a1, b1⟩
      · cases hz
    · cases hz
  · cases hz
end ZWK
