/-! writing a field; statics; making things -/
theorem zft_k : ∀ c, c < 11 → ∀ q ∈ zft c, q.1 = 0 ∨ q.1 = 1 := by decide +kernel
theorem zset_fs2 {a f : Nat} {q0 : Nat × Nat} {g g' : Nat × Nat → Value} (hn : (zft a).Nodup) (h : (zft a)[f]? = some q0) (hg : ∀ q ∈ zft a, q ≠ q0 → g' q = g q) : ((zft a).map g).set f (g' q0) = (zft a).map g' := by
  have hf : f < (zft a).length := (List.getElem?_eq_some_iff.mp h).1
  apply List.ext_getElem?
  intro j
  by_cases hj : f = j
  · subst hj
    rw [List.getElem?_set_self (by rw [List.length_map]; exact hf), List.getElem?_map, h]
    rfl
  · rw [List.getElem?_set_ne hj, List.getElem?_map, List.getElem?_map]
    cases hx : (zft a)[j]? with
    | none => rfl
    | some q =>
      show some (g q) = some (g' q)
      rw [hg q (List.mem_of_getElem? hx)]
      intro hq
      subst hq
      exact hj ((List.getElem?_inj hf hn).mp (h.trans hx.symm))
theorem zmr_spec {v : Value} {o : Option Nat} (h : zmr v = some o) : v = va_rf o ∧ ∀ k, o = some k → k ≠ zUK := by
  cases v with
  | null =>
    cases h
    exact ⟨rfl, fun k hk => by cases hk⟩
  | ref k =>
    simp only [zmr] at h
    split at h
    · cases h
    · rename_i hk
      cases h
      exact ⟨rfl, fun j hj => by cases hj; exact hk⟩
  | _ => cases h
theorem zset_mem {l : List (Option Nat)} {b : Nat} {o : Option Nat} {k : Nat} (h : some k ∈ l.set b o) : some k ∈ l ∨ o = some k := by
  rcases List.mem_or_eq_of_mem_set h with h | h
  · exact Or.inl h
  · exact Or.inr h.symm
theorem va_rf_or' (o : Option Nat) : va_rf o = .null ∨ ∃ a, va_rf o = .ref a := by
  cases o with
  | none => exact Or.inl rfl
  | some a => exact Or.inr ⟨a, rfl⟩
section ZSP
variable {p : Program} {l : Launch} {e : Env} {R : Room} {s : State} {m : MethodId} {args : Array Value} {below : List Frame} {meth : Method} {c : Code} {Q : State → Prop} {H : Heap} {locs : List Loc} {ls : Array Slot}
variable {G : zG} {AL : List Nat} {cc : ByteArray} {nL : Nat} {own host : String} {pc : Nat} {L : zL} {st : List Value} {c0 sl : Nat} {μ : zM} {S' : zS} {len a b : Nat} {k : Int} {ext : List Nat}
/-- the JVM's putfield, whichever of its three forms -/
theorem zput1 (C : zCtx p s m args meth c cc nL own) (E : zEnv G s) {f : Nat} {rest : List Value} {v : Value} {fs : List Value} {ad q0 ix nest pl : Nat} {ws : va_W} {ini : Bool} (hini : ini = true → meth.name = "<init>") (hS : va_S (zA G) s.heap H locs) (hP : va_P G.1 zcl ws H) (hD : va_D (zA G) ws) (he : ws[q0]? = some (ad, .inr (a, fs)))
    (ha : a < 11) (hf : f < zNf a) (hlk : zlf own host ix nest ((zTT a f).1, (zTT a f).2.1, (zTT a f).2.2.1) pl = true) (hfin : (if (zTT a f).2.2.2 = true then ini && decide ((zTT a f).1 = own) && decide (nest = 0) else true) = true)
    (hn : narrow (ztt a f) v = v) (hfit : fits (ztt a f) v = true) (hl : f < fs.length) (hd : decode cc pc = .ok (.putfield ix, 3))
    (kk : ∀ (H1 : Heap) (locs1 : List Loc), va_P G.1 zcl (ws.set q0 (ad, .inr (a, fs.set f v))) H1 → va_D (zA G) (ws.set q0 (ad, .inr (a, fs.set f v))) → va_S (zA G) s.heap H1 locs1 → W p l e R s m args below meth c H1 locs1 c0 sl Q (F0 m (pc + 3) ls rest)) :
    W p l e R s m args below meth c H locs c0 sl Q (F0 m pc ls (v :: .ref ad :: rest)) := by
  obtain ⟨hx, hb, -, ho, hT, -⟩ := C
  by_cases hfi : (zTT a f).2.2.2 = true
  · rw [if_pos hfi] at hfin
    simp only [Bool.and_eq_true, decide_eq_true_eq] at hfin
    obtain ⟨⟨h1, h2⟩, h3⟩ := hfin
    rw [h3] at hlk
    have hlk1 := zlf_t hT hlk
    exact va_putF (D := G.1) (cl := zcl) (C := zCn a) (T := zTT a) (N := zNf a) (ci := a) (Ts := zT) (ws := ws) (ty := ztt a f) hx hb hT (zin_u ha) (ztt a) (zty_ok a ha) (znm_ok a ha) ho E.1 hP hD hS q0 he (zcl_at a ha) f hf hlk1 (fun _ h9 => h9) hfi (hini h1) h2 (zty_ok a ha f hf) hn hfit hl hd kk
  · have hfi := Bool.eq_false_iff.mpr hfi
    by_cases hne : nest = 0
    · rw [hne] at hlk
      have hlk1 := zlf_t hT hlk
      exact va_put (D := G.1) (cl := zcl) (C := zCn a) (T := zTT a) (N := zNf a) (ci := a) (Ts := zT) (ws := ws) (ty := ztt a f) hx hb hT (zin_u ha) (ztt a) (zty_ok a ha) (znm_ok a ha) ho E.1 hP hD hS q0 he (zcl_at a ha) f hf hlk1 (fun _ h9 => h9) hfi (zty_ok a ha f hf) hn hfit hl hd kk
    · have hlk1 := zlf_u (args := args) E hne hlk
      exact va_putN (D := G.1) (cl := zcl) (C := zCn a) (T := zTT a) (N := zNf a) (ci := a) (Ts := zT) (ws := ws) (ty := ztt a f) hx hb hT (zin_u ha) (ztt a) (zty_ok a ha) (znm_ok a ha) ho E.1 hP hD hS q0 he (zcl_at a ha) f hf hlk1 (fun _ h9 => h9) hfi (zty_ok a ha f hf) hn hfit hl hd kk
/-- behind a write: the ties of the new memory -/
theorem zst_set {ν : zM} {i : Nat} {e0 e1 : zE} {st' : List Value} {pc' : Nat} {H1 : Heap} {locs1 : List Loc} (X : zSt G nL s AL (pc, L, st, c0, sl, zm0 G.2.2.2.2.2 ++ ν) H locs ls) (hl : AL.length = ν.length) (hw : ∀ e ∈ ν, zwe (zK0 + ν.length) e) (hi : ν[i]? = some e0) (he : zwe (zK0 + ν.length) e1)
    (hP : va_P G.1 zcl ((zws G AL ν).set i (AL.getD i 0, zae G AL e1)) H1) (hD : va_D (zA G) ((zws G AL ν).set i (AL.getD i 0, zae G AL e1))) (hS : va_S (zA G) s.heap H1 locs1) (hst : ∀ w ∈ st', w ∈ st) :
    zSt G nL s AL (pc', L, st', c0, sl, zm0 G.2.2.2.2.2 ++ ν.set i e1) H1 locs1 ls := by
  have hi2 : i < ν.length := (List.getElem?_eq_some_iff.mp hi).1
  have hlen : (zm0 G.2.2.2.2.2 ++ ν.set i e1).length = (zm0 G.2.2.2.2.2 ++ ν).length := by simp
  refine ⟨zRel.set hl hi2 hw he hP hD, hS, X.2.2.1, fun w hw => ?_, fun q hq => ?_⟩
  · show zvw (zm0 G.2.2.2.2.2 ++ ν.set i e1).length w
    rw [hlen]
    exact X.2.2.2.1 w (hst w hw)
  · show zvw (zm0 G.2.2.2.2.2 ++ ν.set i e1).length q.2
    rw [hlen]
    exact X.2.2.2.2 q hq
set_option maxHeartbeats 1000000 in
theorem z24 (C : zCtx p s m args meth c cc nL own) (E : zEnv G s) {ini : Bool} (hini : ini = true → meth.name = "<init>") (X : zSt G nL s AL (pc, L, st, c0, sl, μ) H locs ls)
    (hok : (zdec cc pc (.putfield (ext.getD 0 0)) 3 && zlf own host (ext.getD 0 0) (ext.getD 2 0) (zfd a (ext.getD 3 0)) (ext.getD 1 0) && decide (a < 11 ∧ ext.getD 3 0 < zNf a) && decide (zfk a (ext.getD 3 0) = (k.toNat, b)) && decide (k = 0 ∨ k = 1) && (if (zTT a (ext.getD 3 0)).2.2.2 = true then ini && decide ((zTT a (ext.getD 3 0)).1 = own) && decide (ext.getD 2 0 = 0) else true)) = true)
    (hz : zo24 a b k (pc, L, st, c0, sl, μ) = some (.inl S')) (kk : zKK p l e R s m args below meth c Q G nL AL S') : zWW p l e R s m args below meth c Q G AL (pc, L, st, c0, sl, μ) H locs ls := by
  simp only [Bool.and_eq_true, decide_eq_true_eq] at hok
  obtain ⟨⟨⟨⟨⟨hd, hlk⟩, ha, hf⟩, hfk⟩, hk⟩, hfin⟩ := hok
  have hd := zdec_ok hd
  rw [zfd_own ha] at hlk
  have hfl := zft_at ha hf hfk
  have hty := zft_ty a ha _ hf
  rw [hfk] at hty
  unfold zo24 at hz
  split at hz
  · rename_i pc1 L1 v r st1 c1 sl1 μ1 heq
    cases heq
    split at hz
    · rename_i htr
      obtain ⟨htag, hr0⟩ := htr
      obtain ⟨ν, rfl, hl, hP, hD, hw⟩ := id X.1
      obtain ⟨-, h1, h2⟩ := zdyn (xs := G.2.2.2.2.2) (ν := ν) (r := r) (by rw [htag]; exact Or.inl ha)
      have he1 : (zen (zm0 G.2.2.2.2.2 ++ ν) r).1 = a := htag
      have hws := zws_at (G := G) hl h1
      rw [zae_obj he1 ha] at hws
      have hlen : ext.getD 3 0 < ((zft a).map (zfv G AL (zen (zm0 G.2.2.2.2.2 ++ ν) r))).length := by
        rw [List.length_map]
        exact (List.getElem?_eq_some_iff.mp hfl).1
      have hwe := hw _ (List.mem_of_getElem? h1)
      show W p l e R s m args below meth c H locs c0 sl Q (F0 m pc ls (zva G AL v :: zva G AL (.ref r) :: st1.map (zva G AL)))
      rw [zva_dyn hr0]
      have hst : ∀ w ∈ st1, w ∈ v :: Value.ref r :: st1 := fun w h => List.mem_cons_of_mem _ (List.mem_cons_of_mem _ h)
      rcases hk with rfl | rfl
      · rw [if_pos rfl] at hz
        split at hz
        · rename_i x
          split at hz
          · rename_i hb
            cases hz
            have hset := zset_fs2 (g := zfv G AL (zen (zm0 G.2.2.2.2.2 ++ ν) r)) (g' := zfv G AL (ztg (zm0 G.2.2.2.2.2 ++ ν) r, (zen (zm0 G.2.2.2.2.2 ++ ν) r).2.1.set b x, (zen (zm0 G.2.2.2.2.2 ++ ν) r).2.2.1, (zen (zm0 G.2.2.2.2.2 ++ ν) r).2.2.2)) (zft_nd a ha) hfl (fun q hqm hq => by
              unfold zfv
              split
              · rename_i hq0
                show Value.int _ = Value.int _
                rw [zgetD_set hb, if_neg]
                intro h
                exact hq (Prod.ext hq0 h)
              · rfl)
            have hval : zfv G AL (ztg (zm0 G.2.2.2.2.2 ++ ν) r, (zen (zm0 G.2.2.2.2.2 ++ ν) r).2.1.set b x, (zen (zm0 G.2.2.2.2.2 ++ ν) r).2.2.1, (zen (zm0 G.2.2.2.2.2 ++ ν) r).2.2.2) ((0 : Int).toNat, b) = .int x := by
              show Value.int _ = _
              rw [zgetD_set hb, if_pos rfl]
            rw [hval] at hset
            have hti := hty.1 rfl
            refine zput1 C E hini X.2.1 hP hD hws ha hf hlk hfin (by rw [hti]; rfl) (by rw [hti]; rfl) hlen hd (fun H1 locs1 hP1 hD1 hS1 => ?_)
            rw [show zva G AL (.int x) = .int x from rfl, hset] at hP1 hD1
            rw [← zae_obj (G := G) (AL := AL) (e := (ztg (zm0 G.2.2.2.2.2 ++ ν) r, (zen (zm0 G.2.2.2.2.2 ++ ν) r).2.1.set b x, (zen (zm0 G.2.2.2.2.2 ++ ν) r).2.2.1, (zen (zm0 G.2.2.2.2.2 ++ ν) r).2.2.2)) he1 ha] at hP1 hD1
            have K := kk AL H1 locs1 ls (zex AL)
            unfold zsi at K
            rw [zmu_set hr0] at K
            exact K (zst_set X hl hw h1 ⟨hwe.1, hwe.2⟩ hP1 hD1 hS1 hst)
          · cases hz
        · cases hz
      · rw [if_neg (by decide)] at hz
        split at hz
        · rename_i o ho
          obtain ⟨rfl, hou⟩ := zmr_spec ho
          split at hz
          · rename_i hb
            cases hz
            have hset := zset_fs2 (g := zfv G AL (zen (zm0 G.2.2.2.2.2 ++ ν) r)) (g' := zfv G AL (ztg (zm0 G.2.2.2.2.2 ++ ν) r, (zen (zm0 G.2.2.2.2.2 ++ ν) r).2.1, (zen (zm0 G.2.2.2.2.2 ++ ν) r).2.2.1.set b o, (zen (zm0 G.2.2.2.2.2 ++ ν) r).2.2.2)) (zft_nd a ha) hfl (fun q hqm hq => by
              unfold zfv
              split
              · rfl
              · rename_i hq0
                show va_rf (Option.map _ _) = va_rf (Option.map _ _)
                have hq1 : q.1 = 1 := by
                  rcases zft_k a ha q hqm with h | h
                  · exact absurd h hq0
                  · exact h
                rw [zgetD_set hb, if_neg]
                intro h
                exact hq (Prod.ext hq1 h))
            have hval : zfv G AL (ztg (zm0 G.2.2.2.2.2 ++ ν) r, (zen (zm0 G.2.2.2.2.2 ++ ν) r).2.1, (zen (zm0 G.2.2.2.2.2 ++ ν) r).2.2.1.set b o, (zen (zm0 G.2.2.2.2.2 ++ ν) r).2.2.2) ((1 : Int).toNat, b) = va_rf (o.map (zaq G AL)) := by
              show va_rf (Option.map _ _) = _
              rw [zgetD_set hb, if_pos rfl]
            rw [hval] at hset
            have hti := zfits_r (hty.2 rfl) (va_rf_or' (o.map (zaq G AL)))
            rw [zva_rf hou]
            refine zput1 C E hini X.2.1 hP hD hws ha hf hlk hfin hti.1 hti.2 hlen hd (fun H1 locs1 hP1 hD1 hS1 => ?_)
            rw [hset] at hP1 hD1
            rw [← zae_obj (G := G) (AL := AL) (e := (ztg (zm0 G.2.2.2.2.2 ++ ν) r, (zen (zm0 G.2.2.2.2.2 ++ ν) r).2.1, (zen (zm0 G.2.2.2.2.2 ++ ν) r).2.2.1.set b o, (zen (zm0 G.2.2.2.2.2 ++ ν) r).2.2.2)) he1 ha] at hP1 hD1
            have K := kk AL H1 locs1 ls (zex AL)
            unfold zsr at K
            rw [zmu_set hr0] at K
            refine K (zst_set X hl hw h1 ⟨hwe.1, fun q hq => ?_⟩ hP1 hD1 hS1 hst)
            rcases zset_mem hq with h | h
            · exact hwe.2 q h
            · subst h
              have h3 := X.2.2.2.1 (va_rf (some q)) List.mem_cons_self
              have h4 : q < (zm0 G.2.2.2.2.2 ++ ν).length := h3
              rw [List.length_append, zm0_len] at h4
              exact ⟨h4, hou q rfl⟩
          · cases hz
        · cases hz
    · cases hz
  · cases hz
end ZSP
