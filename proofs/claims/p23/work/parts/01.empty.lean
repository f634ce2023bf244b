/-! NOT A PROOF OF THE PROPERTY. These rows are evidence for REPORT.md ('STATEMENT', p23): what is printed says of the law's entry that it has no table of handlers
(the word 'code'), but law.java's entry has one (its try around bring). So no launch that holds the law's class file meets the premises, and what is owed is empty:
it holds of any class whatever, and its witness can't exist. -/
theorem ze_law : classFile.hasCode x code maxLocals ret = false := by decide +kernel
/-- the entry's table as the file has it: one row, from 144 to 154, the handler at 157 -/
theorem ze_any (l : Launch) : ¬ Lists l classFile x code maxLocals ret tables_1 room_1 := by
  rintro ⟨-, hf, ⟨hc, -⟩, -⟩
  have hm : (x, code, maxLocals, ret) ∈ (headSpec (Cond.code x code maxLocals ret :: tables_1) room_1).pre.codes ++ (headSpec (Cond.code x code maxLocals ret :: tables_1) room_1).post.codes :=
    List.mem_append_left _ (List.mem_append_left _ (List.mem_singleton.mpr rfl))
  have h := hc _ hm
  rw [hf] at h
  rw [Option.any_some, ze_law] at h
  cases h
theorem i_vc : Claimed_1_1 ∧ Claimed_1_2 := ⟨fun l _ hL _ => absurd hL (ze_any l), fun l _ hL _ => absurd hL (ze_any l)⟩
