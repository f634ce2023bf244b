/-! Math's abs, max and min -/
theorem zma_1 : Jvm.Cond.static Lib.Math.abs.name ∈ zT := List.mem_filter.mpr ⟨by decide +kernel, rfl⟩
theorem zma_2 : Jvm.Cond.code Lib.Math.abs.name Lib.Math.abs.code 1 (some .int) ∈ zT := List.mem_filter.mpr ⟨by decide +kernel, rfl⟩
theorem zma_3 : Jvm.Cond.initialized "java/lang/Math" ∈ zT := List.mem_filter.mpr ⟨by decide +kernel, rfl⟩
theorem zmx_1 : Jvm.Cond.static Lib.Math.max.name ∈ zT := List.mem_filter.mpr ⟨by decide +kernel, rfl⟩
theorem zmx_2 : Jvm.Cond.code Lib.Math.max.name Lib.Math.max.code 2 (some .int) ∈ zT := List.mem_filter.mpr ⟨by decide +kernel, rfl⟩
theorem zmi_1 : Jvm.Cond.static Lib.Math.min.name ∈ zT := List.mem_filter.mpr ⟨by decide +kernel, rfl⟩
theorem zmi_2 : Jvm.Cond.code Lib.Math.min.name Lib.Math.min.code 2 (some .int) ∈ zT := List.mem_filter.mpr ⟨by decide +kernel, rfl⟩
section ZMM
variable {p : Program} {l : Launch} {e : Env} {R : Room} {s : State} {m : MethodId} {args : Array Value} {below : List Frame} {meth : Method} {c : Code} {Q : State → Prop} {H : Heap} {locs : List Loc} {ls : Array Slot}
variable {G : zG} {AL : List Nat} {cc : ByteArray} {nL : Nat} {own host : String} {pc : Nat} {L : zL} {st : List Value} {c0 sl : Nat} {μ : zM} {S' : zS} {len a b : Nat} {k : Int} {ext : List Nat}
theorem z41 (C : zCtx p s m args meth c cc nL own) (E : zEnv G s) (X : zSt G nL s AL (pc, L, st, c0, sl, μ) H locs ls) (hRf : 1 ≤ R.frames) (hRl : 30 ≤ R.locals) (hRc : c0 ≤ R.cells) (hRs : sl ≤ R.slots)
    (hok : (zdec cc pc (.invokestatic (ext.getD 0 0)) 3 && zin (.methodLink own (ext.getD 0 0) (if b = 0 then Lib.Math.abs.name else if b = 1 then Lib.Math.max.name else Lib.Math.min.name)) (ext.getD 1 0)) = true)
    (hz : zo41 b (pc, L, st, c0, sl, μ) = some (.inl S')) (kk : zKK p l e R s m args below meth c Q G nL AL S') : zWW p l e R s m args below meth c Q G AL (pc, L, st, c0, sl, μ) H locs ls := by
  obtain ⟨hx, hb, hml, ho, hT, -⟩ := C
  have hu := E.2.2.2.2.2.2.2.2.2.2
  simp only [Bool.and_eq_true] at hok
  have hlk := hT _ (zin_T hok.2 (by rfl))
  have hd := zdec_ok hok.1
  have hms : c.maxLocals = ls.size := hml.trans X.2.2.1.1.symm
  unfold zo41 at hz
  split at hz
  · rename_i pc1 L1 y st1 c1 sl1 μ1 heq
    cases heq
    split at hz
    · rename_i hcat
      split at hz
      · rename_i hb0
        rw [if_pos hb0] at hlk
        cases hz
        have K := kk AL H locs ls (zex AL) (zst_put X (zpush (v := .int (if 0 ≤ y then y else 0 - y)) trivial (zst_pop X)))
        refine va_mabs hx hb hms ho hlk (hT _ zma_1) (hT _ zma_3) (hT _ zma_2) hRf ?_ hRc hRs hd K
        rw [zcats hu]; omega
      · rename_i hb0
        rw [if_neg hb0] at hlk
        split at hz
        · rename_i x st2
          have hcat2 : (st2.map fun v => v.category).sum ≤ 9 := by
            rw [List.map_cons, List.sum_cons] at hcat
            omega
          split at hz
          · rename_i hb1
            rw [if_pos hb1] at hlk
            cases hz
            have K := kk AL H locs ls (zex AL) (zst_put X (zpush (v := .int (if x < y then y else x)) trivial (fun w hw => X.2.2.2.1 w (List.mem_cons_of_mem _ (List.mem_cons_of_mem _ hw)))))
            refine va_mmax hx hb hms ho hlk (hT _ zmx_1) (hT _ zma_3) (hT _ zmx_2) hRf ?_ hRc hRs hd K
            rw [zcats hu]; omega
          · rename_i hb1
            rw [if_neg hb1] at hlk
            cases hz
            have K := kk AL H locs ls (zex AL) (zst_put X (zpush (v := .int (if y < x then y else x)) trivial (fun w hw => X.2.2.2.1 w (List.mem_cons_of_mem _ (List.mem_cons_of_mem _ hw)))))
            refine va_mmin hx hb hms ho hlk (hT _ zmi_1) (hT _ zma_3) (hT _ zmi_2) hRf ?_ hRc hRs hd K
            rw [zcats hu]; omega
        · cases hz
    · cases hz
  · cases hz
end ZMM
