/-! storing into rows, making things -/
theorem zfn_upd {l : List Int32} {b : Nat} {x : Int32} (hb : b < l.length) : (fun j => (l.set b x).getD j 0) = upd (fun j => l.getD j 0) b x := by
  funext j
  rw [zgetD_set hb]
  rfl
theorem zfn_updL {l : List Int64} {b : Nat} {x : Int64} (hb : b < l.length) : (fun j => (l.set b x).getD j 0) = vp_updL (fun j => l.getD j 0) b x := by
  funext j
  rw [zgetD_set hb]
  rfl
theorem zfn_updR {l : List (Option Nat)} {b : Nat} {x : Option Nat} {g : Nat → Nat} {y : Option Nat} (hb : b < l.length) (hy : x.map g = y) : (fun j => ((l.set b x).getD j none).map g) = va_up (fun j => (l.getD j none).map g) b y := by
  funext j
  rw [zgetD_set hb]
  unfold va_up
  split
  · exact hy
  · rfl
theorem zin_lt {j : Int32} {n : Nat} (h0 : ¬ j < 0) (h : j.toNatClampNeg < n) : vp_in j n := fun q => q.elim h0 (fun z => absurd z (by omega))
theorem zrep {α : Type} {n j : Nat} {x : α} : (List.replicate n x).getD j x = x := by
  rw [List.getD_eq_getElem?_getD]
  by_cases h : j < n
  · rw [List.getElem?_replicate, if_pos h]; rfl
  · rw [List.getElem?_replicate, if_neg h]; rfl
theorem zcpy_fn {l0 l1 : List Int32} {sp dp n : Nat} (h : dp + n ≤ l1.length) : (fun j => (zcpy l0 l1 sp dp n).getD j 0) = va_cpy (fun j => l0.getD j 0) (fun j => l1.getD j 0) sp dp n := by
  funext j
  unfold zcpy va_cpy
  rw [List.getD_eq_getElem?_getD, List.getElem?_map]
  by_cases hj : j < l1.length
  · rw [List.getElem?_range hj]
    rfl
  · rw [List.getElem?_eq_none (by rw [List.length_range]; omega), if_neg (by omega)]
    show (0 : Int32) = l1.getD j 0
    rw [List.getD_eq_getElem?_getD, List.getElem?_eq_none (by omega)]
    rfl
theorem zae_i4 {G : zG} {AL : List Nat} {t : Nat} {x : List Int32} {y : List (Option Nat)} {z : List Int64} (h : t = 20) : zae G AL (t, x, y, z) = .inl (G.2.1 0, x.length, .inl (fun j => x.getD j 0)) := zae_i (e := (t, x, y, z)) h
theorem zae_b4 {G : zG} {AL : List Nat} {t : Nat} {x : List Int32} {y : List (Option Nat)} {z : List Int64} (h : t = 21) : zae G AL (t, x, y, z) = .inl (G.2.1 1, x.length, .inl (fun j => x.getD j 0)) := zae_b (e := (t, x, y, z)) h
theorem zae_l4 {G : zG} {AL : List Nat} {t : Nat} {x : List Int32} {y : List (Option Nat)} {z : List Int64} (h : t = 22) : zae G AL (t, x, y, z) = .inl (G.2.1 2, z.length, .inr (.inl (fun j => z.getD j 0))) := zae_l (e := (t, x, y, z)) h
theorem zae_r4 {G : zG} {AL : List Nat} {t : Nat} {x : List Int32} {y : List (Option Nat)} {z : List Int64} (h1 : 23 ≤ t) (h2 : t < 28) : zae G AL (t, x, y, z) = .inl (G.2.1 (t - 20), y.length, .inr (.inr (.inr (.inr (fun j => (y.getD j none).map (zaq G AL)))))) := zae_r (e := (t, x, y, z)) rfl h1 h2
theorem zel_cls : ∀ t, ((4 ≤ t ∧ t < 8) ∨ t = 33) → (t = 33 ∧ zot (zel t) = "LoftPost$Kind") ∨ (t < 11 ∧ zot (zel t) = zCn t) := by
  intro t h
  rcases h with h | rfl
  · right
    refine ⟨by omega, ?_⟩
    have : t = 4 ∨ t = 5 ∨ t = 6 ∨ t = 7 := by omega
    rcases this with rfl | rfl | rfl | rfl <;> rfl
  · exact Or.inl ⟨rfl, rfl⟩
section ZSM
variable {p : Program} {l : Launch} {e : Env} {R : Room} {s : State} {m : MethodId} {args : Array Value} {below : List Frame} {meth : Method} {c : Code} {Q : State → Prop} {H : Heap} {locs : List Loc} {ls : Array Slot}
variable {G : zG} {AL : List Nat} {cc : ByteArray} {nL : Nat} {own host : String} {pc : Nat} {L : zL} {st : List Value} {c0 sl : Nat} {μ : zM} {S' : zS} {len a b : Nat} {k : Int} {ext : List Nat}
set_option maxHeartbeats 1000000 in
theorem z27 (C : zCtx p s m args meth c cc nL own) (E : zEnv G s) (X : zSt G nL s AL (pc, L, st, c0, sl, μ) H locs ls)
    (hok : (match b with
      | 0 => zdec cc pc .iastore 1
      | 1 => zdec cc pc .bastore 1
      | 2 => zdec cc pc .lastore 1
      | 3 => zdec cc pc .aastore 1
      | _ => false) = true)
    (hz : zo27 b (pc, L, st, c0, sl, μ) = some (.inl S')) (kk : zKK p l e R s m args below meth c Q G nL AL S') : zWW p l e R s m args below meth c Q G AL (pc, L, st, c0, sl, μ) H locs ls := by
  obtain ⟨hx, hb, -⟩ := C
  unfold zo27 at hz
  split at hz
  · rename_i pc1 L1 v j r st1 c1 sl1 μ1 heq
    cases heq
    split at hz
    · rename_i hc
      obtain ⟨hr0, hj0⟩ := hc
      obtain ⟨ν, rfl, hl, hP, hD, hw⟩ := id X.1
      have hst : ∀ w ∈ st1, w ∈ v :: Value.int j :: Value.ref r :: st1 := fun w h => List.mem_cons_of_mem _ (List.mem_cons_of_mem _ (List.mem_cons_of_mem _ h))
      show W p l e R s m args below meth c H locs c0 sl Q (F0 m pc ls (zva G AL v :: .int j :: zva G AL (.ref r) :: st1.map (zva G AL)))
      rw [zva_dyn hr0]
      split at hz
      · rename_i x
        have hd := zdec_ok hok
        split at hz
        · rename_i ht
          obtain ⟨htag, hjn⟩ := ht
          cases hz
          obtain ⟨-, h1, h2⟩ := zdyn (xs := G.2.2.2.2.2) (ν := ν) (r := r) (by omega)
          have hws := zws_at (G := G) hl h1
          rw [zae_i htag] at hws
          have hwe := hw _ (List.mem_of_getElem? h1)
          refine va_iast hx hb E.1 hP hD X.2.1 _ 0 hws rfl (zin_lt hj0 hjn) hd (fun H1 locs1 hP1 hD1 hS1 => ?_)
          have he : zae G AL (ztg (zm0 G.2.2.2.2.2 ++ ν) r, (zen (zm0 G.2.2.2.2.2 ++ ν) r).2.1.set j.toNatClampNeg x, (zen (zm0 G.2.2.2.2.2 ++ ν) r).2.2.1, (zen (zm0 G.2.2.2.2.2 ++ ν) r).2.2.2) = .inl (G.2.1 0, (zen (zm0 G.2.2.2.2.2 ++ ν) r).2.1.length, .inl (upd (fun j => (zen (zm0 G.2.2.2.2.2 ++ ν) r).2.1.getD j 0) j.toNatClampNeg x)) := by
            rw [zae_i4 htag]
            rw [List.length_set, zfn_upd hjn]
          rw [← he] at hP1 hD1
          have K := kk AL H1 locs1 ls (zex AL)
          unfold zsi at K
          rw [zmu_set hr0] at K
          exact K (zst_set X hl hw h1 ⟨hwe.1, hwe.2⟩ hP1 hD1 hS1 hst)
        · cases hz
      · rename_i x
        have hd := zdec_ok hok
        split at hz
        · rename_i ht
          obtain ⟨htag, hjn⟩ := ht
          cases hz
          obtain ⟨-, h1, h2⟩ := zdyn (xs := G.2.2.2.2.2) (ν := ν) (r := r) (by omega)
          have hws := zws_at (G := G) hl h1
          rw [zae_b htag] at hws
          have hwe := hw _ (List.mem_of_getElem? h1)
          refine va_bast hx hb E.1 hP hD X.2.1 _ 1 hws rfl (zin_lt hj0 hjn) hd (fun H1 locs1 hP1 hD1 hS1 => ?_)
          have he : zae G AL (ztg (zm0 G.2.2.2.2.2 ++ ν) r, (zen (zm0 G.2.2.2.2.2 ++ ν) r).2.1.set j.toNatClampNeg x.toInt8.toInt32, (zen (zm0 G.2.2.2.2.2 ++ ν) r).2.2.1, (zen (zm0 G.2.2.2.2.2 ++ ν) r).2.2.2) = .inl (G.2.1 1, (zen (zm0 G.2.2.2.2.2 ++ ν) r).2.1.length, .inl (upd (fun j => (zen (zm0 G.2.2.2.2.2 ++ ν) r).2.1.getD j 0) j.toNatClampNeg (vp_nar .byte x))) := by
            rw [zae_b4 htag, vp_nar_byte]
            rw [List.length_set, zfn_upd hjn]
          rw [← he] at hP1 hD1
          have K := kk AL H1 locs1 ls (zex AL)
          unfold zsi at K
          rw [zmu_set hr0] at K
          exact K (zst_set X hl hw h1 ⟨hwe.1, hwe.2⟩ hP1 hD1 hS1 hst)
        · cases hz
      · rename_i x
        have hd := zdec_ok hok
        split at hz
        · rename_i ht
          obtain ⟨htag, hjn⟩ := ht
          cases hz
          obtain ⟨-, h1, h2⟩ := zdyn (xs := G.2.2.2.2.2) (ν := ν) (r := r) (by omega)
          have hws := zws_at (G := G) hl h1
          rw [zae_l htag] at hws
          have hwe := hw _ (List.mem_of_getElem? h1)
          refine va_last hx hb E.1 hP hD X.2.1 _ 2 hws rfl (zin_lt hj0 hjn) hd (fun H1 locs1 hP1 hD1 hS1 => ?_)
          have he : zae G AL (ztg (zm0 G.2.2.2.2.2 ++ ν) r, (zen (zm0 G.2.2.2.2.2 ++ ν) r).2.1, (zen (zm0 G.2.2.2.2.2 ++ ν) r).2.2.1, (zen (zm0 G.2.2.2.2.2 ++ ν) r).2.2.2.set j.toNatClampNeg x) = .inl (G.2.1 2, (zen (zm0 G.2.2.2.2.2 ++ ν) r).2.2.2.length, .inr (.inl (vp_updL (fun j => (zen (zm0 G.2.2.2.2.2 ++ ν) r).2.2.2.getD j 0) j.toNatClampNeg x))) := by
            rw [zae_l4 htag]
            rw [List.length_set, zfn_updL hjn]
          rw [← he] at hP1 hD1
          have K := kk AL H1 locs1 ls (zex AL)
          unfold zsl at K
          rw [zmu_set hr0] at K
          exact K (zst_set X hl hw h1 ⟨hwe.1, hwe.2⟩ hP1 hD1 hS1 hst)
        · cases hz
      · rename_i q
        have hd := zdec_ok hok
        split at hz
        · rename_i ht
          obtain ⟨htq, ht1, ht2, htag, hqu, hjn⟩ := ht
          cases hz
          obtain ⟨-, h1, h2⟩ := zdyn (xs := G.2.2.2.2.2) (ν := ν) (r := r) (by omega)
          have hws := zws_at (G := G) hl h1
          rw [zae_r (t := ztg (zm0 G.2.2.2.2.2 ++ ν) r) rfl ht1 ht2] at hws
          have hwe := hw _ (List.mem_of_getElem? h1)
          have hcl := zel_cls _ htq
          have hvq : zva G AL (.ref q) = .ref (zaq G AL q) := by
            show (if q = zUK then G.2.2.2.1 else Value.ref (zaq G AL q)) = _
            rw [if_neg hqu]
          have hrecv : ∃ cellV : Cell, H[zaq G AL q]? = some cellV ∧ cellV.vm.isStatics = false ∧ s.vm.findClass (zot (ztg (zm0 G.2.2.2.2.2 ++ ν) r)) = some cellV.cls := by
            rcases hcl with ⟨h33, hn⟩ | ⟨h11, hn⟩
            · obtain ⟨h0, h3⟩ := zsta (xs := G.2.2.2.2.2) (ν := ν) (r := q) hw (by omega) (by omega)
              have hzs := E.2.2.2.2.2.1 q _ h3
              unfold zs1 at hzs
              rw [if_pos (show (zen (zm0 G.2.2.2.2.2 ++ ν) q).1 = 33 from h33)] at hzs
              obtain ⟨cell, q1, q2, q3, -⟩ := hzs.1.kept X.2.1.2.1
              have hq : zaq G AL q = G.2.2.1 q := by unfold zaq; rw [if_pos h0]
              rw [hq, htag, hn]
              exact ⟨cell, q1, q2, q3⟩
            · obtain ⟨h0, h3, h4⟩ := zdyn (xs := G.2.2.2.2.2) (ν := ν) (r := q) (Or.inl h11)
              have hwq := zws_at (G := G) hl h3
              rw [zae_obj rfl h11] at hwq
              have hq : zaq G AL q = AL.getD (q - zK0) 0 := by unfold zaq; rw [if_neg (by omega)]
              rw [hq, htag, hn]
              exact va_recv E.1 hP (zcl_at _ h11) hwq
          rw [hvq]
          refine vb_astq hx hb E.1 hP hD X.2.1 _ _ hws (zty_at G _ ht1 ht2) hrecv (fun comp c9 e1 e2 => by cases e1.symm.trans e2; exact va_asg _ _) (zin_lt hj0 hjn) hd (fun H1 locs1 hP1 hD1 hS1 => ?_)
          have he : zae G AL (ztg (zm0 G.2.2.2.2.2 ++ ν) r, (zen (zm0 G.2.2.2.2.2 ++ ν) r).2.1, (zen (zm0 G.2.2.2.2.2 ++ ν) r).2.2.1.set j.toNatClampNeg (some q), (zen (zm0 G.2.2.2.2.2 ++ ν) r).2.2.2) = .inl (G.2.1 (ztg (zm0 G.2.2.2.2.2 ++ ν) r - 20), (zen (zm0 G.2.2.2.2.2 ++ ν) r).2.2.1.length, .inr (.inr (.inr (.inr (va_up (fun j => ((zen (zm0 G.2.2.2.2.2 ++ ν) r).2.2.1.getD j none).map (zaq G AL)) j.toNatClampNeg (some (zaq G AL q))))))) := by
            rw [zae_r4 ht1 ht2]
            rw [List.length_set, zfn_updR hjn rfl]
            rfl
          rw [← he] at hP1 hD1
          have K := kk AL H1 locs1 ls (zex AL)
          unfold zsr at K
          rw [zmu_set hr0] at K
          refine K (zst_set X hl hw h1 ⟨hwe.1, fun z hz => ?_⟩ hP1 hD1 hS1 hst)
          rcases zset_mem hz with h | h
          · exact hwe.2 z h
          · cases h
            have h3 : zvw (zm0 G.2.2.2.2.2 ++ ν).length (.ref q) := X.2.2.2.1 (.ref q) List.mem_cons_self
            have h4 : q < (zm0 G.2.2.2.2.2 ++ ν).length := h3
            rw [List.length_append, zm0_len] at h4
            exact ⟨h4, hqu⟩
        · cases hz
      · cases hz
    · cases hz
  · cases hz
/-- behind a making: the ties of the new memory -/
theorem zst_new {ν : zM} {q : Nat} {e1 : zE} {st' : List Value} {pc' c1 s1 : Nat} {H1 : Heap} {locs1 : List Loc} (X : zSt G nL s AL (pc, L, st, c0, sl, zm0 G.2.2.2.2.2 ++ ν) H locs ls) (hl : AL.length = ν.length) (hw : ∀ e ∈ ν, zwe (zK0 + ν.length) e) (he : zwe (zK0 + ν.length) e1)
    (hP : va_P G.1 zcl (zws G AL ν ++ [(q, zae G (AL ++ [q]) e1)]) H1) (hD : va_D (zA G) (zws G AL ν ++ [(q, zae G (AL ++ [q]) e1)])) (hS : va_S (zA G) s.heap H1 locs1) (hst : ∀ w ∈ st', w ∈ st) :
    zSt G nL s (AL ++ [q]) (pc', L, .ref (zm0 G.2.2.2.2.2 ++ ν).length :: st', c1, s1, (zm0 G.2.2.2.2.2 ++ ν) ++ [e1]) H1 locs1 ls ∧ (Value.ref (zm0 G.2.2.2.2.2 ++ ν).length :: st').map (zva G (AL ++ [q])) = .ref q :: st'.map (zva G AL) := by
  have hlen : (zm0 G.2.2.2.2.2 ++ ν).length = zK0 + AL.length := by rw [List.length_append, zm0_len, hl]
  have hm : ∀ w, zvw (zm0 G.2.2.2.2.2 ++ ν).length w → zva G (AL ++ [q]) w = zva G AL w := fun w h => zva_ext (by rw [← hlen]; exact h)
  refine ⟨⟨⟨ν ++ [e1], List.append_assoc _ _ _, by simp [hl], by rw [zws_push hl hw]; exact hP, by rw [zws_push hl hw]; exact hD, fun x hx => ?_⟩, hS, ?_, fun w h => ?_, fun z hz => ?_⟩, ?_⟩
  · rw [List.length_append]
    rcases List.mem_append.mp hx with h | h
    · exact zwe_mono (by omega) (hw x h)
    · rw [List.mem_singleton.mp h]
      exact zwe_mono (by omega) he
  · show lv_has ls nL (zml G (AL ++ [q]) L)
    have : zml G (AL ++ [q]) L = zml G AL L := List.map_congr_left (fun z hz => by rw [hm _ (X.2.2.2.2 z hz)])
    rw [this]
    exact X.2.2.1
  · show zvw ((zm0 G.2.2.2.2.2 ++ ν) ++ [e1]).length w
    rw [List.length_append]
    rcases List.mem_cons.mp h with rfl | h
    · show (zm0 G.2.2.2.2.2 ++ ν).length < _
      exact Nat.lt_succ_self _
    · exact zvw_mono (Nat.le_add_right _ _) (X.2.2.2.1 w (hst w h))
  · show zvw ((zm0 G.2.2.2.2.2 ++ ν) ++ [e1]).length z.2
    rw [List.length_append]
    exact zvw_mono (Nat.le_add_right _ _) (X.2.2.2.2 z hz)
  · rw [List.map_cons, List.map_congr_left (fun w h => hm w (X.2.2.2.1 w (hst w h)))]
    rw [hlen, zva_dyn (Nat.le_add_right _ _), Nat.add_sub_cancel_left, List.getD_eq_getElem?_getD, List.getElem?_append_right (Nat.le_refl _), Nat.sub_self]
    rfl
theorem znf_N : ∀ c, c < 11 → (znf c).1 + (znf c).2 = zNf c := by decide +kernel
theorem zfk_0 : ∀ c, c < 11 → ∀ q ∈ zft c, (q.1 = 0 → q.2 < (znf c).1) ∧ (q.1 = 1 → q.2 < (znf c).2) := by decide +kernel
theorem zdef {ty : FieldType} : (ty = .int → defaultValue ty = .int 0) ∧ (zisR ty = true → defaultValue ty = .null) := by
  refine ⟨fun h => by rw [h]; rfl, fun h => ?_⟩
  cases ty <;> first | rfl | (simp [zisR] at h)
set_option maxHeartbeats 1000000 in
theorem z29 (C : zCtx p s m args meth c cc nL own) (E : zEnv G s) (X : zSt G nL s AL (pc, L, st, c0, sl, μ) H locs ls) (hRc : c0 + 1 ≤ R.cells) (hRs : sl + ((znf a).1 + (znf a).2) ≤ R.slots)
    (hok : (zdec cc pc (.new (ext.getD 0 0)) 3 && decide (a < 11) && zin (.classLink own (ext.getD 0 0) (zCn a)) (ext.getD 1 0) && zin (.instantiable (zCn a) (zNf a)) (ext.getD 2 0) && zin (.initialized (zCn a)) (ext.getD 3 0)) = true)
    (kk : zKK p l e R s m args below meth c Q G nL AL (pc + 3, L, .ref μ.length :: st, c0 + 1, sl + ((znf a).1 + (znf a).2), μ ++ [(a, List.replicate (znf a).1 0, List.replicate (znf a).2 none, [])])) : zWW p l e R s m args below meth c Q G AL (pc, L, st, c0, sl, μ) H locs ls := by
  obtain ⟨hx, hb, -, ho, hT, -⟩ := C
  simp only [Bool.and_eq_true, decide_eq_true_eq] at hok
  obtain ⟨⟨⟨⟨hd, ha⟩, hcl⟩, hin⟩, hini⟩ := hok
  obtain ⟨ν, rfl, hl, hP, hD, hw⟩ := id X.1
  have hA : ∀ q, s.heap.size ≤ q → zA G q := fun q h => Nat.le_trans E.2.1 h
  have hfs : ∀ AL', ∀ j, j < zNf a → defaultValue (ztt a j) = vp_V ((zft a).map (zfv G AL' (a, List.replicate (znf a).1 0, List.replicate (znf a).2 none, []))) j := by
    intro AL' j hj
    have hlj : j < (zft a).length := by rw [zft_len a ha]; exact hj
    have hfj : (zft a)[j]? = some (zft a)[j] := List.getElem?_eq_getElem hlj
    have hty := zft_ty a ha j hj
    have hzk : zfk a j = (zft a)[j] := by
      unfold zfk
      rw [if_neg (by omega), if_neg (by omega), List.getD_eq_getElem?_getD, hfj]
      rfl
    rw [hzk] at hty
    unfold vp_V
    rw [List.getD_eq_getElem?_getD, List.getElem?_map, hfj]
    show _ = zfv G AL' _ (zft a)[j]
    unfold zfv
    rcases zft_k a ha _ (List.mem_of_getElem? hfj) with h | h
    · rw [if_pos h, zdef.1 (hty.1 h)]
      show Value.int 0 = Value.int ((List.replicate (znf a).1 0).getD _ 0)
      rw [zrep]
    · rw [if_neg (by omega), zdef.2 (hty.2 h)]
      show Value.null = va_rf (((List.replicate (znf a).2 none).getD _ none).map _)
      rw [zrep]
      rfl
  have hsl : sl + zNf a ≤ R.slots := by rw [← znf_N a ha]; exact hRs
  refine va_new (D := G.1) (cl := zcl) (C := zCn a) (T := zTT a) (N := zNf a) (ci := a) (Ts := zT) (ws := zws G AL ν) (fs := (zft a).map (zfv G AL (a, List.replicate (znf a).1 0, List.replicate (znf a).2 none, []))) hx hb hT (zin_u ha) (ztt a) (zty_ok a ha) ho (hT _ (zin_T hcl rfl)) (hT _ (zin_T hin rfl)) (hT _ (zin_T hini rfl)) E.1 hP hD X.2.1 hA (zcl_at a ha) (hfs AL) hRc hsl (zdec_ok hd) (fun q H1 hP1 hD1 hS1 => ?_)
  have hwe : zwe (zK0 + ν.length) (a, List.replicate (znf a).1 0, List.replicate (znf a).2 none, []) := ⟨Or.inl ha, fun z hz => by
    have hz : some z ∈ List.replicate (znf a).2 (none : Option Nat) := hz
    rw [List.mem_replicate] at hz
    cases hz.2⟩
  have he : zae G (AL ++ [q]) (a, List.replicate (znf a).1 0, List.replicate (znf a).2 none, []) = .inr (a, (zft a).map (zfv G AL (a, List.replicate (znf a).1 0, List.replicate (znf a).2 none, []))) := by
    rw [zae_ext (n := zK0 + ν.length) (by rw [hl]) hwe, zae_obj rfl ha]
  rw [← he] at hP1 hD1
  obtain ⟨Y, hm⟩ := zst_new (pc' := pc + 3) (c1 := c0 + 1) (s1 := sl + ((znf a).1 + (znf a).2)) X hl hw hwe hP1 hD1 hS1 (fun w h => h)
  have K := kk _ _ _ _ (zex1 AL q) Y
  unfold zWW at K
  dsimp only at K
  rw [hm] at K
  rw [← znf_N a ha]
  exact K
end ZSM
