/-! WHAT IS TOLD OF THE START, CARRIED ON; CALLS. -/
theorem zisN_warm {w : Jvm.Cond} {s U : State} (hW : s.WarmedH U.vm) (h : zisN w = true) (hw : va_Nw w s) : va_Nw w U := by
  unfold zisN at h
  split at h
  · exact va_Nw.warmF hW hw
  · exact va_Nw.warmM hW hw
  · simp only [Bool.and_eq_true] at h
    exact va_tabs h.1 (rfl : (s.setVm U.vm).vm = U.vm) (Cond.before_shiftedFace (State.Shifted.of_warmed hW) _ h.2 hw)
theorem zs1_kept {G : zG} {s U : State} {k : Nat} {e : zE} (hvm : s.vm.Alike U.vm) (hq : ∀ a : Nat, a < s.heap.size → ¬ zA G a → U.heap[a]? = s.heap[a]?) (h : zs1 G s k e) : zs1 G U k e := by
  unfold zs1 at h ⊢
  split
  · rw [if_pos (by assumption)] at h
    exact ⟨(va_O.moved hvm h.1).kept hq, (va_OF.moved hvm h.2).kept hq⟩
  · rename_i h1
    rw [if_neg h1] at h
    split
    · rw [if_pos (by assumption)] at h
      exact ⟨(va_O.moved hvm h.1).kept hq, (va_OF.moved hvm h.2.1).kept hq, (va_OF.moved hvm h.2.2).kept hq⟩
    · rename_i h2
      rw [if_neg h2] at h
      split
      · rw [if_pos (by assumption)] at h
        exact (va_T.moved hvm h).kept hq
      · rename_i h3
        rw [if_neg h3] at h
        split
        · rw [if_pos (by assumption)] at h
          exact (va_T.moved hvm h).kept hq
        · rename_i h4
          rw [if_neg h4] at h
          split
          · rw [if_pos (by assumption)] at h
            exact (va_T.moved hvm h).kept hq
          · rename_i h5
            rw [if_neg h5] at h
            split
            · rw [if_pos (by assumption)] at h
              exact (va_T.moved hvm h).kept hq
            · trivial
theorem zEnv_kept {G : zG} {s U : State} (hW : s.WarmedH U.vm) (hsz : s.heap.size ≤ U.heap.size) (hq : ∀ a : Nat, a < s.heap.size → ¬ zA G a → U.heap[a]? = s.heap[a]?) (h : zEnv G s) : zEnv G U := by
  obtain ⟨h1, h2, h3, h4, h5, h6, h7, h8, h9, ⟨h10, h11, h12, h13⟩, h14⟩ := h
  have hvm := hW.alike
  refine ⟨va_K.moved hvm h1, Nat.le_trans h2 hsz, fun w hw hn => zisN_warm hW hn (h3 w hw hn), fun t a b => va_AO.moved hvm (h4 t a b), fun i hi => (va_Z.moved hvm (h5 i hi)).kept hq, fun k e hk => zs1_kept hvm hq (h6 k e hk), h7, (vx_Zq.moved hvm h8).kept hq, (vx_Zq.moved hvm h9).kept hq, ⟨fun q hm => ?_, h11.moved hvm, h12.moved hvm, h13.moved hvm⟩, h14⟩
  obtain ⟨sa, hs⟩ := h10 q hm
  exact ⟨sa, hs.warm hW⟩
theorem zEnv_same {G : zG} {U V : State} (hv : V.vm = U.vm) (hh : V.heap = U.heap) (h : zEnv G U) : zEnv G V := by
  have hal : U.vm.Alike V.vm := by rw [hv]; exact Vm.Alike.refl U.vm
  have hq : ∀ a : Nat, a < U.heap.size → ¬ zA G a → V.heap[a]? = U.heap[a]? := fun a _ _ => by rw [hh]
  obtain ⟨h1, h2, h3, h4, h5, h6, h7, h8, h9, ⟨h10, h11, h12, h13⟩, h14⟩ := h
  refine ⟨va_K.moved hal h1, by rw [hh]; exact h2, fun w hw hn => va_tabs ?_ hv.symm (h3 w hw hn), fun t a b => va_AO.moved hal (h4 t a b), fun i hi => (va_Z.moved hal (h5 i hi)).kept hq, fun k e hk => zs1_kept hal hq (h6 k e hk), h7, (vx_Zq.moved hal h8).kept hq, (vx_Zq.moved hal h9).kept hq, ⟨fun q hm => ?_, h11.moved hal, h12.moved hal, h13.moved hal⟩, h14⟩
  · unfold zisN at hn
    split at hn
    · rfl
    · rfl
    · simp only [Bool.and_eq_true] at hn
      exact hn.1
  · obtain ⟨sa, hs⟩ := h10 q hm
    exact ⟨sa, hs.same hv⟩
theorem zaq_extB {G : zG} {AL B : List Nat} {k : Nat} (h : k < zK0 + AL.length) : zaq G (AL ++ B) k = zaq G AL k := by
  unfold zaq
  split
  · rfl
  · rw [List.getD_eq_getElem?_getD, List.getD_eq_getElem?_getD, List.getElem?_append_left (by omega)]
theorem zva_extB {G : zG} {AL B : List Nat} {v : Value} (h : zvw (zK0 + AL.length) v) : zva G (AL ++ B) v = zva G AL v := by
  cases v with
  | ref k =>
    have e : zaq G (AL ++ B) k = zaq G AL k := zaq_extB h
    show (if k = zUK then G.2.2.2.1 else Value.ref (zaq G (AL ++ B) k)) = (if k = zUK then G.2.2.2.1 else Value.ref (zaq G AL k))
    rw [e]
  | _ => rfl
/-- where a method starts, and where it ends -/
def zPc (G : zG) (AL : List Nat) (as : List Value) (μ : zM) : Array Value → State → Prop := fun v U => v = (as.map (zva G AL)).toArray ∧ zEnv G U ∧ zRel G AL μ U.heap
def zQc (G : zG) (AL : List Nat) (r : Option Value) (μ' : zM) : Array Value → State → Outcome → State → Prop := fun _ st o t =>
  ∃ B, o = .returned (r.map (zva G (AL ++ B))) ∧ zRel G (AL ++ B) μ' t.heap ∧ (∀ w, r = some w → zvw μ'.length w) ∧ va_F (zA G) st t
theorem zPc_blind {G : zG} {AL : List Nat} {as : List Value} {μ : zM} : FrameBlind (zPc G AL as μ) := fun a U g mk h => ⟨h.1, zEnv_same (U := U) (V := U.calling g mk a) rfl rfl h.2.1, h.2.2⟩
section ZCL
variable {p : Program} {l : Launch} {e : Env} {R : Room} {s : State} {m : MethodId} {args : Array Value} {below : List Frame} {meth : Method} {c : Code} {Q : State → Prop} {H : Heap} {locs : List Loc} {ls : Array Slot}
variable {G : zG} {AL : List Nat} {cc : ByteArray} {nL : Nat} {own host : String} {pc : Nat} {L : zL} {st : List Value} {c0 sl : Nat} {μ : zM} {S' : zS} {len a b : Nat} {k : Int} {ext : List Nat}
/-- what a call's run gives -/
theorem zcall_ret {rest : List Value} {r : Option Value} {mc ms : Nat} {μ1 : zM} {st0 : List Value} {as : Array Value} (E : zEnv G s) (X : zSt G nL s AL (pc, L, st, c0, sl, μ) H locs ls) (hrest : ∀ w ∈ rest, w ∈ st)
    (hr : va_Run p l e R s m args below meth c H locs c0 sl mc ms (F0 m pc ls st0) (rest.map (zva G AL)) (zQc G AL r μ1 as) (zA G))
    (kk : zKK p l e R s m args below meth c Q G nL AL (pc + 3, L, r.toList ++ rest, c0 + mc, sl + ms, μ1)) : W p l e R s m args below meth c H locs c0 sl Q (F0 m pc ls st0) := by
  intro T hT Y
  obtain ⟨v, st₀, t, T', Lc, h0, Y', hL, e1, e2, ⟨B, ho, hrel, hvw, hz, hk⟩, stp⟩ := hr T hT Y
  have hv : v = r.map (zva G (AL ++ B)) := Outcome.returned.inj ho
  subst hv
  rw [h0] at hz hk
  have hS := X.2.1
  have hlen := X.1.len
  have hm : ∀ w, zvw μ.length w → zva G (AL ++ B) w = zva G AL w := fun w h => zva_extB (by rw [← hlen]; exact h)
  have hle : μ.length ≤ μ1.length := by
    rw [hlen, hrel.len, List.length_append]
    omega
  have hml : zml G (AL ++ B) L = zml G AL L := List.map_congr_left (fun z hz => by rw [hm _ (X.2.2.2.2 z hz)])
  have hst : (r.toList ++ rest).map (zva G (AL ++ B)) = (r.map (zva G (AL ++ B))).toList ++ rest.map (zva G AL) := by
    rw [List.map_append, List.map_congr_left (fun w h => hm w (X.2.2.2.1 w (hrest w h)))]
    cases r <;> rfl
  have hS1 : va_S (zA G) s.heap T'.heap (locs ++ Lc) := ⟨Nat.le_trans hS.1 (by rw [e1]; exact hz), fun q h1 h2 => by rw [e1, hk q (Nat.lt_of_lt_of_le h1 hS.1) h2]; exact hS.2.1 q h1 h2, fun q hq => by
    rcases List.mem_append.mp hq with h | h
    · exact hS.2.2 q h
    · exact hL q h⟩
  have K := kk (AL ++ B) T'.heap (locs ++ Lc) ls ⟨B, rfl⟩ ⟨by rw [e1]; exact hrel, hS1, by
      show lv_has ls nL (zml G (AL ++ B) L)
      rw [hml]; exact X.2.2.1, fun w hw => by
      rcases List.mem_append.mp hw with h | h
      · cases r with
        | none => cases h
        | some w0 =>
          rw [show w = w0 from List.mem_singleton.mp h]
          exact hvw w0 rfl
      · exact zvw_mono hle (X.2.2.2.1 w (hrest w h)), fun q hq => zvw_mono hle (X.2.2.2.2 q hq)⟩
  unfold zWW at K
  dsimp only at K
  rw [hst] at K
  obtain ⟨t2, a1, b1⟩ := K T' rfl Y'
  exact ⟨t2, stp t2 a1, b1⟩
end ZCL
