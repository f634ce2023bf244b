/-! SOUND: a run of the abstract machine is a contract of the JVM's method. -/
section ZSD
variable {p : Program} {l : Launch} {e : Env} {R : Room} {s : State} {m : MethodId} {args : Array Value} {below : List Frame} {meth : Method} {c : Code} {Q : State → Prop}
variable {G : zG} {A0 : List Nat} {cc : ByteArray} {nL : Nat} {own host : String} {cds : Nat → Nat × List zRI} {d : Nat} {ret : Option FieldType} {hh : List (Nat × Nat × Nat × Nat)} {ini : Bool} {cd : List zRI}
set_option maxHeartbeats 4000000 in
/-- one step -/
theorem zstep (hS : zSND l cds d) (hcds : ∀ a, 232 ≤ a → (cds a).2 = []) (C : zCtx p s m args meth c cc nL own) (E : zEnv G s) (hini : ini = true → meth.name = "<init>") (hRf : d + 1 ≤ R.frames) (hRl : 30 * (d + 1) ≤ R.locals) (hcd : ∀ pc, zok own host cc nL ret ini hh pc (cd.getD pc zno) = true)
    {S S' : zS} {AL : List Nat} {H : Heap} {locs : List Loc} {ls : Array Slot} (X : zSt G nL s AL S H locs ls) (hz : zn d (zden cds d) cd S = some (.inl S')) (hRc : S'.2.2.2.1 ≤ R.cells) (hRs : S'.2.2.2.2.1 ≤ R.slots)
    (kk : zKK p l e R s m args below meth c Q G nL AL S') : zWW p l e R s m args below meth c Q G AL S H locs ls := by
  have hcnt := zx_cnt hz
  obtain ⟨pc, L, st, c0, sl, μ⟩ := S
  have hok := hcd pc
  have hR1 : 1 ≤ R.frames := by omega
  have hR2 : 30 ≤ R.locals := by omega
  have hc1 : c0 ≤ R.cells := Nat.le_trans hcnt.1 hRc
  have hs1 : sl ≤ R.slots := Nat.le_trans hcnt.2 hRs
  unfold zn at hz
  have hz : zx d (zden cds d) (cd.getD pc zno) (pc, L, st, c0, sl, μ) = some (.inl S') := hz
  obtain ⟨q, hq⟩ : ∃ q, q = cd.getD pc zno := ⟨_, rfl⟩
  rw [← hq] at hok hz
  obtain ⟨op, len, a, b, k, ext⟩ := q
  clear hq hcnt
  unfold zx at hz
  dsimp only at hz
  split at hz
  · cases hz; exact z1 C X hok kk
  · cases hz; exact z2 C X hok kk
  · cases hz; exact z3 C X hok kk
  · exact z4 C E X hok hz kk
  · exact z5 C E X hok hz kk
  · exact z6 C E X hok hz kk
  · exact z7 C X hok hz kk
  · exact z8 C X hok hz kk
  · exact z9 C X hok hz kk
  · exact z10 C X hok hz kk
  · exact z11 C X hok hz kk
  · exact z12 C X hok hz kk
  · cases hz; exact z13 C X hok kk
  · exact z14 C E X hok hz kk
  · exact z15 C E X hok hz kk
  · exact z16 C E X hok hz kk
  · exact z17 C X hok hz kk
  · exact z18 C X hok hz kk
  · cases hz; exact z19 C X hok kk
  · exact z20 C E X hok hz kk
  · exact z21 C X hok hz kk
  · exact z22 C X hok hz kk
  · exact z23 (host := host) C E X hok hz kk
  · exact z24 (host := host) C E hini X hok hz kk
  · cases hz; exact z25 (host := host) C E X hok kk
  · exact z26 C E X hok hz kk
  · exact z27 C E X hok hz kk
  · exact z28 C E X hok hz kk
  · cases hz; exact z29 C E X hRc hRs hok kk
  · exact z30 C E X hok hz hRc hRs kk
  · exact z31 C E X hok hz hRc hRs kk
  · exact z32 (host := host) C E hS hcds X hRf hRl hok hz hRc hRs kk
  · exact z33 C E X hR1 hR2 hok hz kk
  · exact z34 C E X hR1 hR2 hok hz kk
  · exfalso
    unfold zo35 at hz
    dsimp only at hz
    split at hz <;> cases hz
  · exfalso
    unfold zo36 at hz
    repeat' split at hz
    all_goals cases hz
  · exact z41 C E X hR1 hR2 hc1 hs1 hok hz kk
  · have hok : (decide (b = 0) && zcall own host cc pc a b k ext && decide (ret = some .int) && zhok own cc pc nL [] (ext.drop 6) hh && decide (ext.getD 2 0 = 0)) = true := hok
    simp only [Bool.and_eq_true] at hok
    exact z37n (host := host) C E hS hcds X hRf hRl hok.1.1.1.2 hz hRc hRs kk
  · cases hz
end ZSD
