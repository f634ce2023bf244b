/-! THE LAW, out of a run of the abstract machine that answers 1 (zPure), and of what is told of the start (zenv_start). -/
/-- what is left to prove of the abstract machine -/
def zPure : Prop := ∀ xs : List Int32, xs.length ≤ 3072 → ∃ (n c1 s1 : Nat) (μ1 : zM), zrun 12 (zden zcds 12) zc232 n (0, [(0, .ref 81)], [], 0, 0, zm0 xs) = some (0, some (.int 1), c1, s1, μ1) ∧ c1 ≤ 601024 ∧ s1 ≤ 7293034
section ZLW
variable {p : Program} {l : Launch} {e : Env} {R : Room} {s : State} {m : MethodId} {args : Array Value} {below : List Frame} {meth : Method} {c : Code} {Q : State → Prop}
variable {G : zG} {cc : ByteArray} {nL : Nat} {own host : String} {cds : Nat → Nat × List zRI} {d : Nat} {ret : Option FieldType} {ini : Bool} {cd : List zRI}
set_option maxHeartbeats 4000000 in
/-- a run to its return, whatever is asked there -/
theorem zwalkE (hS : zSND l cds d) (hcds : ∀ a, 232 ≤ a → (cds a).2 = []) (C : zCtx p s m args meth c cc nL own) (E : zEnv G s) (hini : ini = true → meth.name = "<init>") (hRf : d + 1 ≤ R.frames) (hRl : 30 * (d + 1) ≤ R.locals) (hcd : ∀ pc, zok own host cc nL ret ini [] pc (cd.getD pc zno) = true) (hown : own ≠ "LoftPost")
    {v : Int32} {c1 s1 : Nat} {μ1 : zM} (hRc : c1 ≤ R.cells) (hRs : s1 ≤ R.slots)
    (hend : ∀ (pc : Nat) (AL : List Nat) (H : Heap) (locs : List Loc) (ls : Array Slot), va_S (zA G) s.heap H locs → decode cc pc = .ok (.ireturn, 1) → W p l e R s m args below meth c H locs c1 s1 Q (F0 m pc ls [.int v])) :
    ∀ (n : Nat) (S : zS) (AL : List Nat) (H : Heap) (locs : List Loc) (ls : Array Slot), zSt G nL s AL S H locs ls → zrun d (zden cds d) cd n S = some (0, some (.int v), c1, s1, μ1) → zWW p l e R s m args below meth c Q G AL S H locs ls
  | 0, S, _, _, _, _, _, h => by cases h
  | n + 1, S, AL, H, locs, ls, X, h => by
    simp only [zrun] at h
    cases hz : zn d (zden cds d) cd S with
    | none => rw [hz] at h; cases h
    | some o =>
      rw [hz] at h
      cases o with
      | inl S' =>
        have hc := zrun_cnt h
        exact zstep hS hcds C E hini hRf hRl hcd X hz (Nat.le_trans hc.1 hRc) (Nat.le_trans hc.2 hRs) (fun AL' H' locs' ls' hx' X' => zwalkE hS hcds C E hini hRf hRl hcd hown hRc hRs hend n S' AL' H' locs' ls' X' h)
      | inr r' =>
        have hr : r' = (0, some (.int v), c1, s1, μ1) := Option.some.inj h
        subst hr
        obtain ⟨pc, L, st, c0, sl, μ⟩ := S
        have hok := hcd pc
        unfold zn at hz
        have hz : zx d (zden cds d) (cd.getD pc zno) (pc, L, st, c0, sl, μ) = some (.inr (0, some (.int v), c1, s1, μ1)) := hz
        obtain ⟨q, hq⟩ : ∃ q, q = cd.getD pc zno := ⟨_, rfl⟩
        rw [← hq] at hok hz
        obtain ⟨op, len, a, b, k, ext⟩ := q
        clear hq
        rcases zx_inr hz with rfl | rfl | rfl
        · exfalso
          have hz : zo35 d a (pc, L, st, c0, sl, μ) = some (.inr (0, some (.int v), c1, s1, μ1)) := hz
          unfold zo35 at hz
          dsimp only at hz
          split at hz <;> cases hz
        · have hz : zo36 b (pc, L, st, c0, sl, μ) = some (.inr (0, some (.int v), c1, s1, μ1)) := hz
          have hok : (zdec cc pc (zreti b) 1 && zrets b ret) = true := hok
          simp only [Bool.and_eq_true] at hok
          unfold zo36 at hz
          split at hz
          · split at hz <;> cases hz
          · rename_i f1 f2 w f3 f4 f5 heq
            cases heq
            split at hz
            · rename_i hdig
              cases hz
              have hd := zdec_ok hok.1
              have hb : zreti b = .ireturn := by
                match b, hdig with
                | 0, h => cases h
                | 1, _ => rfl
                | 2, h => cases h
                | 3, h => cases h
                | 4, h => cases h
                | 5, _ => rfl
                | 6, _ => rfl
                | 7, _ => rfl
                | (n + 8), h => cases h
              rw [hb] at hd
              exact hend pc AL H locs ls X.2.1 hd
            · cases hz
          · cases hz
        · exfalso
          have hok : (decide (b = 0) && zcall own host cc pc a b k ext && decide (ret = some .int) && zhok own cc pc nL [] (ext.drop 6) [] && decide (ext.getD 2 0 = 0)) = true := hok
          simp only [Bool.and_eq_true] at hok
          have hh := hok.1.2
          have hz : zo37 (zden cds d) a k.toNat (ext.getD 5 99) (ext.drop 6) (pc, L, st, c0, sl, μ) = some (.inr (0, some (.int v), c1, s1, μ1)) := hz
          cases hx : ext.drop 6 with
          | nil =>
            rw [hx] at hz
            unfold zo37 at hz
            dsimp only at hz
            repeat' split at hz
            all_goals first | (cases hz; done) | (rename_i hq; cases hq; done)
          | cons y ys =>
            rw [hx] at hh
            unfold zhok at hh
            split at hh
            · rename_i h1 h2; cases h2
            · rename_i h1 h2; cases h1
            · cases hh
end ZLW
theorem zflags {l : Launch} (h : l.flags = flags0) : l.stackTraces = false := by
  simp [Launch.stackTraces, h, flags0]
set_option maxHeartbeats 4000000 in
theorem whole_of_pure (hpure : zPure) {p : Program} {e : Env} {s : State} {m : MethodId} {below : List Frame} {meth : Method} {c : Code} (l : Launch) (hflags : l.flags = flags0) {b L : Nat} {xs : Nat → Int32} (hL : L ≤ 3072) (C0 : lw_At p s m meth c b L xs) : W p l e room_1 s m #[Value.ref b] below meth c s.heap [] 0 0 (lw_Z below #[Value.ref b] s) (entryFrame m ([Value.ref b] : List Value).toArray 9) := by
  obtain ⟨G, hG1, hG2, hG3, E⟩ := zenv_start hL C0
  obtain ⟨hx, hb, hr, hml, hown, hts, hX, hbl, hlocks, hgv⟩ := id C0
  obtain ⟨n, c1, s1, μ1, hrun, hc1, hs1⟩ := hpure ((List.range L).map xs) (by simpa using hL)
  have hlev := zlevels zcds_out zcds_ok (zflags hflags) 12
  have hC : zCtx p s m #[Value.ref b] meth c code 9 "LoftPostLaw" := ⟨hx, hb, hml, hown, fun w hw => hts w (List.mem_filter.mp hw).1, hlocks⟩
  have hl := lv_entry ([.ref b]) (n := 9) (Nat.le_of_ble_eq_true rfl)
  rw [lg_entry_eq]
  generalize (lg_sl ([.ref b]) ++ List.replicate (9 - (lg_sl ([.ref b])).length) Slot.unset).toArray = ls at hl ⊢
  have h81 : zva G [] (.ref 81) = .ref b := by rw [zva_sta (by decide) (by decide), hG3]
  have hlz : lv_has ls 9 (zml G [] [(0, .ref 81)]) := by
    show lv_has ls 9 [(0, zva G [] (.ref 81))]
    rw [h81]
    exact hl
  have hlen : (zm0 G.2.2.2.2.2).length = 82 := zm0_len _
  have hR : zRel G [] (zm0 ((List.range L).map xs)) s.heap := ⟨[], by rw [hG2, List.append_nil], rfl, fun k q h => by simp [zws] at h, ⟨fun i j p q h => by simp [zws] at h, fun k q h => by simp [zws] at h⟩, fun e he => by cases he⟩
  refine zwalkE (G := G) (host := zhost "LoftPostLaw") (ret := some .boolean) (ini := decide (("law" : String) = "<init>")) (cds := zcds) (d := 12) (nL := 9) hlev.1 zcds_out hC E (fun h => absurd (of_decide_eq_true h) (by decide +kernel)) (by decide) (by decide) (fun pc => zk232 pc) (by decide +kernel) hc1 hs1 (fun pc AL H locs ls hS hd => ?_) n (0, [(0, .ref 81)], [], 0, 0, zm0 ((List.range L).map xs)) [] s.heap [] ls ⟨hR, va_S.rf, hlz, (fun v hv => by cases hv), fun q hq => ?_⟩ hrun
  · refine W.widen (k := 601024) (n := 7293034) hc1 hs1 ?_
    refine va_forget (fun q hq => ?_) ?_
    · have h1 := hS.2.2 q hq
      unfold zA at h1
      rw [hG1] at h1
      exact h1
    · exact lw_ret (d0 := s.drawn) (Drawn.sameBut.refl s.drawn lw_cs) hx hb hr hlocks hd
  · rw [List.mem_singleton.mp hq]
    show 81 < (zm0 ((List.range L).map xs)).length
    rw [zm0_len]
    decide
