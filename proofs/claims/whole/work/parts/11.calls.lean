/-! CALLS: what a method's run promises, and its caller's row. -/
theorem zGI {ws : List Jvm.Cond} (h : ∀ w ∈ ws, w ∈ zT) : GoodIn zT ws := fun w hw => ⟨h w hw, good_of_word (zT_good w (h w hw))⟩
theorem zmw_T {a : Nat} (h : a < 232) : ∀ w ∈ zmw a, w ∈ zT := by
  intro w hw
  rcases List.mem_cons.mp hw with rfl | hw
  · exact List.mem_filter.mpr ⟨zcw_in h, zcw_good _⟩
  · exact hw
theorem zmf_spec {a : Nat} (h : a < 232) : (Jvm.Cond.initialized (zmy a).cls) ∈ zT ∧ ((zmy a).cls ≠ "java/lang/invoke/MethodHandle" ∧ (zmy a).cls ≠ "java/lang/invoke/VarHandle") ∧ plainName (zmy a).cls = true ∧ (zm a).2.2.1 ≤ 11 := by
  have h1 := zmf_ok a h
  unfold zmf at h1
  simp only [Bool.and_eq_true, decide_eq_true_eq] at h1
  exact ⟨zin_T h1.1.1.1.1 rfl, ⟨h1.1.1.1.2, h1.1.1.2⟩, h1.1.2, h1.2⟩
/-- level d: a run that returns is the JVM's -/
def zSND (l : Launch) (cds : Nat → Nat × List zRI) (d : Nat) : Prop := ∀ (a : Nat) (as : List Value) (μ : zM) (r : Option Value) (c1 s1 : Nat) (μ1 : zM), a < 232 → zden cds d a as μ = some (0, r, c1, s1, μ1) → ∀ (G : zG) (AL : List Nat), (∀ w ∈ as, zvw μ.length w) →
  Met l (zmy a) (zmw a) ({ frames := d, cells := c1, slots := s1, locals := 30 * d }) (zPc G AL as μ) (zQc G AL r μ1) c1 s1 (zA G)
/-- behind a throw -/
def zXc (G : zG) (AL : List Nat) (E : Nat) (μ' : zM) : String → State → State → Prop := fun X st t => X = zxn E ∧ E < 3 ∧ ∃ B, zRel G (AL ++ B) μ' t.heap ∧ va_F (zA G) st t
def zSNX (l : Launch) (cds : Nat → Nat × List zRI) (d : Nat) : Prop := ∀ (a : Nat) (as : List Value) (μ : zM) (E : Nat) (r : Option Value) (c1 s1 : Nat) (μ1 : zM), a < 232 → (zm a).2.2.2.2 = [] → zden cds d a as μ = some (E + 1, r, c1, s1, μ1) → ∀ (G : zG) (AL : List Nat), (∀ w ∈ as, zvw μ.length w) →
  vx_Met l (zmy a) (zmw a) ({ frames := d, cells := c1, slots := s1, locals := 30 * d }) (zPc G AL as μ) (fun _ _ _ _ => False) (zXc G AL E μ1) c1 s1 (zA G)
theorem zcode_of {a : Nat} (h : (zm a).2.2.2.2 = []) : zmw a = Jvm.Cond.code (zmy a) (zm a).2.1 (zm a).2.2.1 (zm a).2.2.2.1 :: zT := by
  unfold zmw zcw
  rw [if_pos h]
  rfl
theorem zcodeW_of {a : Nat} (h : (zm a).2.2.2.2 ≠ []) : zmw a = Jvm.Cond.codeWith (zmy a) (zm a).2.1 (zm a).2.2.1 (zm a).2.2.2.1 (zm a).2.2.2.2 :: zT := by
  unfold zmw zcw
  rw [if_neg h]
  rfl
theorem zhd_ref {μ : zM} {as : List Value} {t : Nat} (h : zhd μ as = t) (ht : t ≠ 98) : ∃ r as', as = .ref r :: as' ∧ ztg μ r = t := by
  unfold zhd at h
  split at h
  · exact ⟨_, _, rfl, h⟩
  · exact absurd h.symm ht
section ZCC
variable {p : Program} {l : Launch} {e : Env} {R : Room} {s : State} {m : MethodId} {args : Array Value} {below : List Frame} {meth : Method} {c : Code} {Q : State → Prop} {H : Heap} {locs : List Loc} {ls : Array Slot}
variable {G : zG} {AL : List Nat} {cc : ByteArray} {nL : Nat} {own host : String} {pc : Nat} {L : zL} {st : List Value} {c0 sl : Nat} {μ : zM} {S' : zS} {len a b : Nat} {k : Int} {ext : List Nat}
theorem zmap_rev {as rest : List Value} : ((as.reverse ++ rest).map (zva G AL)) = (as.map (zva G AL)).reverse ++ rest.map (zva G AL) := by
  rw [List.map_append, List.map_reverse]
/-- the callee's start, seen from the caller -/
theorem zpre (E : zEnv G s) (X : zSt G nL s AL (pc, L, st, c0, sl, μ) H locs ls) {as : List Value} (U : State) (hU : U.heap = H) (hW : s.WarmedH U.vm) : zPc G AL as μ (as.map (zva G AL)).toArray U :=
  ⟨rfl, zEnv_kept hW (by rw [hU]; exact X.2.1.1) (fun q h1 h2 => by rw [hU]; exact X.2.1.2.1 q h1 h2) E, by rw [hU]; exact X.1⟩
/-- the receiver -/
theorem zrecv (E : zEnv G s) (X : zSt G nL s AL (pc, L, st, c0, sl, μ) H locs ls) {r t : Nat} (ht : t < 11 ∨ t = 34) (htag : ztg μ r = t) :
    ∃ q, zva G AL (.ref r) = .ref q ∧ ∃ cellB : Cell, H[q]? = some cellB ∧ cellB.vm.isStatics = false ∧ s.vm.findClass (ztc t) = some cellB.cls := by
  obtain ⟨ν, rfl, hl, hP, hD, hw⟩ := id X.1
  rcases ht with h11 | rfl
  · obtain ⟨h0, h1, h2⟩ := zdyn (xs := G.2.2.2.2.2) (ν := ν) (r := r) (by omega)
    have hws := zws_at (G := G) hl h1
    rw [zae_obj htag h11] at hws
    refine ⟨_, zva_dyn h0, ?_⟩
    have : ztc t = zCn t := by unfold ztc; rw [if_neg (by omega)]
    rw [this]
    exact va_recv E.1 hP (zcl_at _ h11) hws
  · obtain ⟨h0, h1⟩ := zsta (xs := G.2.2.2.2.2) (ν := ν) (r := r) hw (by omega) (by omega)
    have hzs := E.2.2.2.2.2.1 r _ h1
    have he : (zen (zm0 G.2.2.2.2.2 ++ ν) r).1 = 34 := htag
    unfold zs1 at hzs
    rw [if_neg (by omega), if_pos he] at hzs
    obtain ⟨cell, q1, q2, q3, -⟩ := hzs.1.kept X.2.1.2.1
    exact ⟨_, zva_sta h0 (zno_uk h1 (by omega)), cell, q1, q2, q3⟩
theorem ztake {n : Nat} (h : n ≤ st.length) : ∃ as rest, st = as.reverse ++ rest ∧ (st.take n).reverse = as ∧ st.drop n = rest ∧ as.length = n := by
  refine ⟨(st.take n).reverse, st.drop n, ?_, rfl, rfl, ?_⟩
  · rw [List.reverse_reverse, List.take_append_drop]
  · rw [List.length_reverse, List.length_take]; omega
set_option maxHeartbeats 1000000 in
/-- a call that returns -/
theorem zcal (C : zCtx p s m args meth c cc nL own) (E : zEnv G s) {cds : Nat → Nat × List zRI} {d : Nat} (hS : zSND l cds d) (X : zSt G nL s AL (pc, L, st, c0, sl, μ) H locs ls) (hRf : d + 1 ≤ R.frames) (hRl : 30 * (d + 1) ≤ R.locals)
    {as rest : List Value} (hst : st = as.reverse ++ rest) (hlen : as.length = k.toNat) (hcat : (rest.map fun v => v.category).sum ≤ 8) (htag : ext.getD 5 99 = 99 ∨ zhd μ as = ext.getD 5 99) (ha : a < 232)
    {r : Option Value} {c1 s1 : Nat} {μ1 : zM} (hcall : zden cds d a as μ = some (0, r, c1, s1, μ1)) (hRc : c0 + c1 ≤ R.cells) (hRs : sl + s1 ≤ R.slots)
    (hok : zcall own host cc pc a b k ext = true)
    (kk : zKK p l e R s m args below meth c Q G nL AL (pc + 3, L, r.toList ++ rest, c0 + c1, sl + s1, μ1)) : zWW p l e R s m args below meth c Q G AL (pc, L, st, c0, sl, μ) H locs ls := by
  obtain ⟨hx, hb, hml, ho, hT, hlo⟩ := id C
  have hu := E.2.2.2.2.2.2.2.2.2.2
  subst hst
  have hvw : ∀ w ∈ as, zvw μ.length w := fun w hw => X.2.2.2.1 w (List.mem_append_left _ (List.mem_reverse.mpr hw))
  have hM := hS a as μ r c1 s1 μ1 ha hcall G AL hvw
  obtain ⟨hini, hmh, hpn, hmL⟩ := zmf_spec ha
  have hfix : CallFix p m c cc nL s args zT own := ⟨hx, hb, hml, ho, hT⟩
  have hroom : d + 1 ≤ R.frames ∧ 8 + ((zm a).2.2.1 + 11) + 30 * d ≤ R.locals := ⟨hRf, by omega⟩
  have hcw : ((rest.map (zva G AL)).map fun v => v.category).sum ≤ 8 := by rw [zcats hu]; exact hcat
  have hW : 2 * (F0 m pc ls ((as.reverse ++ rest).map (zva G AL))).monitorRoom + ((rest.map (zva G AL)).map fun v => v.category).sum ≤ 8 := by
    show 2 * 0 + _ ≤ 8
    omega
  have hrest : ∀ w ∈ rest, w ∈ as.reverse ++ rest := fun w h => List.mem_append_right _ h
  unfold zcall at hok
  dsimp only at hok
  rw [Bool.and_eq_true] at hok
  obtain ⟨hlk, hok⟩ := hok
  match b, hok with
  | 0, hok =>
    simp only [Bool.and_eq_true, decide_eq_true_eq] at hok
    obtain ⟨⟨⟨⟨⟨⟨⟨hd, him⟩, hse⟩, htc⟩, ht11⟩, hpar⟩, hk1⟩, hh⟩ := hok
    have hd := zdec_ok hd
    have ht : zhd μ as = ext.getD 5 99 := by
      rcases htag with h | h
      · omega
      · exact h
    obtain ⟨r0, as', rfl, ht⟩ := zhd_ref ht (by omega)
    obtain ⟨q, hq, hrv⟩ := zrecv E X ht11 ht
    rw [htc] at hrv
    have hargs : (Value.ref q :: as'.map (zva G AL)).toArray = ((Value.ref r0 :: as').map (zva G AL)).toArray := by rw [List.map_cons, hq]
    have hpre : PreV s H (zmy a).cls q (zPc G AL (.ref r0 :: as') μ) (as'.map (zva G AL)) := ⟨zPc_blind, hrv, fun U hU hW => by rw [hargs]; exact zpre E X U hU hW⟩
    have hstk : (F0 m pc ls (((Value.ref r0 :: as').reverse ++ rest).map (zva G AL))).stack = (as'.map (zva G AL)).reverse ++ .ref q :: rest.map (zva G AL) := by
      show ((Value.ref r0 :: as').reverse ++ rest).map (zva G AL) = _
      rw [zmap_rev, List.map_cons, hq, List.reverse_cons, List.append_assoc]
      rfl
    have hn : (as'.map (zva G AL)).length = k.toNat - 1 := by
      rw [List.length_map]
      simp at hlen
      omega
    by_cases hne : ext.getD 2 0 = 0
    · rw [if_pos hne] at hlk
      have hgi : GoodIn zT (wsV own (ext.getD 0 0) (zmy a).cls (zmy a) (zmw a)) := zGI (fun w hw => by
        rcases List.mem_append.mp hw with h | h
        · rcases List.mem_cons.mp h with rfl | h
          · exact zin_T hlk rfl
          rcases List.mem_cons.mp h with rfl | h
          · exact zin_T him rfl
          rcases List.mem_cons.mp h with rfl | h
          · exact zin_T hse rfl
          rw [List.mem_singleton.mp h]
          exact hini
        · exact zmw_T ha w h)
      have cw := cwV (R := R) (s := s) (args := args) (own := own) (C := (zmy a).cls) (index := ext.getD 0 0) (y := zmy a) (rm := { frames := d, cells := c1, slots := s1, locals := 30 * d }) (mc := c1) (ms := s1) (k.toNat - 1) hT hgi (zcode_of hh) rfl rfl ⟨rfl, hmh.1, hmh.2, hpar⟩ hroom
      exact zcall_ret E X hrest (va_runV (l := l) (e := e) (below := below) (meth := meth) (locs := locs) (cells := c0) (slots := sl) hfix hM cw hpre rfl hn X.2.2.1.1 hstk hW hd ⟨hRc, hRs⟩) kk
    · rw [if_neg hne] at hlk
      have hnw := E.2.2.1 _ (zin_L hlk) rfl
      have cw := va_cnB (R := R) (s := s) (args := args) (own := own) (host := host) (index := ext.getD 0 0) (y := zmy a) (rm := { frames := d, cells := c1, slots := s1, locals := 30 * d }) (mc := c1) (ms := s1) (k.toNat - 1) hT (zGI (zmw_T ha)) (zcode_of hh) rfl rfl hnw (hT _ hini) ⟨hmh.1, hmh.2, hpar⟩ hroom
      exact zcall_ret E X hrest (va_runVN (l := l) (e := e) (below := below) (meth := meth) (locs := locs) (cells := c0) (slots := sl) hfix hM ⟨cw, hT _ (zin_T him rfl), hT _ (zin_T hse rfl)⟩ hpre rfl hn X.2.2.1.1 hstk hW hd ⟨hRc, hRs⟩) kk
  | 1, hok =>
    simp only [Bool.and_eq_true, decide_eq_true_eq] at hok
    obtain ⟨⟨⟨⟨hd, hsta⟩, ht99⟩, hpar⟩, hnh⟩ := hok
    have hd := zdec_ok hd
    have hpre : PreS s H (zPc G AL as μ) (as.map (zva G AL)) := ⟨zPc_blind, fun U hU hW => zpre E X U hU hW⟩
    have hstk : (F0 m pc ls ((as.reverse ++ rest).map (zva G AL))).stack = (as.map (zva G AL)).reverse ++ rest.map (zva G AL) := zmap_rev
    have hn : (as.map (zva G AL)).length = k.toNat := by rw [List.length_map]; exact hlen
    by_cases hne : ext.getD 2 0 = 0
    · rw [if_pos hne] at hlk
      have hgi : GoodIn zT (va_wsS own (ext.getD 0 0) (zmy a) (zmw a)) := zGI (fun w hw => by
        rcases List.mem_append.mp hw with h | h
        · rcases List.mem_cons.mp h with rfl | h
          · exact zin_T hlk rfl
          rcases List.mem_cons.mp h with rfl | h
          · exact zin_T hsta rfl
          rw [List.mem_singleton.mp h]
          exact hini
        · exact zmw_T ha w h)
      by_cases hh : (zm a).2.2.2.2 = []
      · have cw := va_cwS (R := R) (s := s) (args := args) (own := own) (index := ext.getD 0 0) (y := zmy a) (rm := { frames := d, cells := c1, slots := s1, locals := 30 * d }) (mc := c1) (ms := s1) k.toNat hT hgi (zcode_of hh) rfl rfl ⟨hmh.1, hmh.2, hpar⟩ hroom
        exact zcall_ret E X hrest (va_runS (l := l) (e := e) (below := below) (meth := meth) (locs := locs) (cells := c0) (slots := sl) hfix hM cw hpre rfl hn X.2.2.1.1 hstk hW hd ⟨hRc, hRs⟩) kk
      · have cw := vx_cwSW (R := R) (s := s) (args := args) (own := own) (index := ext.getD 0 0) (y := zmy a) (rm := { frames := d, cells := c1, slots := s1, locals := 30 * d }) (mc := c1) (ms := s1) k.toNat hT hgi (zcodeW_of hh) rfl rfl ⟨hmh.1, hmh.2, hpar⟩ hroom
        exact zcall_ret E X hrest (vx_runSW (l := l) (e := e) (below := below) (meth := meth) (locs := locs) (cells := c0) (slots := sl) hfix hM cw hpre rfl hn X.2.2.1.1 hstk hW hd ⟨hRc, hRs⟩) kk
    · rw [if_neg hne] at hlk
      have hh : (zm a).2.2.2.2 = [] := by
        rcases hnh with h | h
        · exact absurd h hne
        · exact h
      have hnw := E.2.2.1 _ (zin_L hlk) rfl
      have cw := va_cnB (R := R) (s := s) (args := args) (own := own) (host := host) (index := ext.getD 0 0) (y := zmy a) (rm := { frames := d, cells := c1, slots := s1, locals := 30 * d }) (mc := c1) (ms := s1) k.toNat hT (zGI (zmw_T ha)) (zcode_of hh) rfl rfl hnw (hT _ hini) ⟨hmh.1, hmh.2, hpar⟩ hroom
      exact zcall_ret E X hrest (va_runSN (l := l) (e := e) (below := below) (meth := meth) (locs := locs) (cells := c0) (slots := sl) hfix hM ⟨cw, hT _ (zin_T hsta rfl), trivial⟩ hpre rfl hn X.2.2.1.1 hstk hW hd ⟨hRc, hRs⟩) kk
  | n + 2, hok =>
    simp only [Bool.and_eq_true, decide_eq_true_eq] at hok
    obtain ⟨⟨⟨⟨⟨⟨⟨hd, him⟩, hnm⟩, hret⟩, ht11⟩, hpar⟩, hk1⟩, hh⟩ := hok
    have hd := zdec_ok hd
    have ht : zhd μ as = ext.getD 5 99 := by
      rcases htag with h | h
      · omega
      · exact h
    obtain ⟨r0, as', rfl, ht⟩ := zhd_ref ht (by omega)
    obtain ⟨q, hq, hrv⟩ := zrecv E X (Or.inl ht11) ht
    have hargs : ((Value.ref q :: as'.map (zva G AL)) : List Value) = ((Value.ref r0 :: as').map (zva G AL)) := by rw [List.map_cons, hq]
    have hpre : PreS s H (zPc G AL (.ref r0 :: as') μ) (.ref q :: as'.map (zva G AL)) := ⟨zPc_blind, fun U hU hW => by rw [hargs]; exact zpre E X U hU hW⟩
    have hstk : (F0 m pc ls (((Value.ref r0 :: as').reverse ++ rest).map (zva G AL))).stack = (as'.map (zva G AL)).reverse ++ .ref q :: rest.map (zva G AL) := by
      show ((Value.ref r0 :: as').reverse ++ rest).map (zva G AL) = _
      rw [zmap_rev, List.map_cons, hq, List.reverse_cons, List.append_assoc]
      rfl
    have hn : (as'.map (zva G AL)).length = k.toNat - 1 := by
      rw [List.length_map]
      simp at hlen
      omega
    have hcode : zmw a = Jvm.Cond.code (zmy a) (zm a).2.1 (zm a).2.2.1 none :: zT := by rw [zcode_of hh, hret]
    by_cases hne : ext.getD 2 0 = 0
    · rw [if_pos hne] at hlk
      have cw := cwI (R := R) (s := s) (args := args) (own := own) (index := ext.getD 0 0) (y := zmy a) (rm := { frames := d, cells := c1, slots := s1, locals := 30 * d }) (mc := c1) (ms := s1) (k.toNat - 1) hT (zGI (zmw_T ha)) hcode rfl rfl (hT _ hini) (hT _ (zin_T hlk rfl)) (hT _ (zin_T him rfl)) hnm ⟨hmh.1, hmh.2, hpar⟩ hroom
      exact zcall_ret E X hrest (va_runI (l := l) (e := e) (below := below) (meth := meth) (locs := locs) (cells := c0) (slots := sl) hfix hM cw hpre rfl hn X.2.2.1.1 hstk hW hd ⟨hRc, hRs⟩) kk
    · rw [if_neg hne] at hlk
      have hnw := E.2.2.1 _ (zin_L hlk) rfl
      have cw := va_cnB (R := R) (s := s) (args := args) (own := own) (host := host) (index := ext.getD 0 0) (y := zmy a) (rm := { frames := d, cells := c1, slots := s1, locals := 30 * d }) (mc := c1) (ms := s1) (k.toNat - 1) hT (zGI (zmw_T ha)) hcode rfl rfl hnw (hT _ hini) ⟨hmh.1, hmh.2, hpar⟩ hroom
      exact zcall_ret E X hrest (va_runIN (l := l) (e := e) (below := below) (meth := meth) (locs := locs) (cells := c0) (slots := sl) hfix hM ⟨cw, hnm, hT _ (zin_T him rfl)⟩ hpre rfl hn X.2.2.1.1 hstk hW hd ⟨hRc, hRs⟩) kk
end ZCC
