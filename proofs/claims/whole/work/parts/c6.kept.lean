/-! WHAT STAYS: the numbers of carriers, and that no hawk is left out -/
theorem zSZ_vla {nl np nh nk : Nat} : ∀ (m i : Nat) (U : zV), zSZ U → zSZ (vlaL nl np nh nk m i U)
  | 0, _, _, h => h
  | m + 1, i, U, h => by
    rw [vlaL]
    (try dsimp only)
    split
    · exact zSZ_vla m _ _ (zSZ_cg h (zSm_pass _ _ _ _ _).2)
    · exact h
theorem zSZ_ala {V U : zV} {nl np nh nk h : Nat} (hG : zWG V nl np nh nk) (hZ : zSZ U) : zSZ (ala V U nl np nh nk h) := zSZ_vla _ _ _ (zSZ_cpW hG hZ)
theorem zSm_pas {nl np nh nk : Nat} : ∀ (m i : Nat) (V : zV), zSm V (vpas nl np nh nk m i V)
  | 0, _, V => zSm.rf V
  | m + 1, i, V => (zSm_pass V nl np nh nk).tr (zSm_pas m (i + 1) _)
theorem zSZ_afor {V U : zV} {nl np nh nk h : Nat} {x : Int32} (hG : zWG V nl np nh nk) (hZ : zSZ U) : zSZ (afor V U nl np nh nk h x).2.2 := by
  unfold afor
  (try dsimp only)
  repeat' split
  all_goals first | exact hZ | exact zSZ_ala hG hZ
theorem zSZ_aarv {V U : zV} {nl np nh nk k : Nat} (hG : zWG V nl np nh nk) (hZ : zSZ U) : zSZ (aarv V U nl np nh nk k).2 := vhtL_Z _ _ _ (zSZ_cpW hG hZ)
theorem zSm_whL {l : Nat} : ∀ (m i : Nat) (U : zV), zSm U (vwhL l m i U)
  | 0, _, U => zSm.rf U
  | m + 1, i, U => (zSm_move U l).tr (zSm_whL m (i + 1) _)
theorem zSZ_awhe {V U : zV} {l h z : Nat} (hZ : zSZ U) : zSZ (awhe V U l h z).2 := by
  refine zSZ_cg ?_ (zSm_whL h 0 (vcpL U V l z)).2
  unfold vcpL vcpL0
  dsimp only
  refine zSZ_R (by decide) (zSZ_R (by decide) ?_ _ _) _ _
  repeat (first | exact hZ | refine zSZ_u ?_ (by decide))
theorem zSZ_vbl {V : zV} {nl np nh nk k : Nat} {x : Int32} (hG : zWG V nl np nh nk) : ∀ (m i : Nat) (a b : Int32) (U : zV), zSZ U → zSZ (vblL V nl np nh nk k x m i a b U).2
  | 0, _, _, _, _, h => h
  | m + 1, i, a, b, U, h => by
    have h1 : zSZ (vhtL nl np nh nk k x (Int32.toNatClampNeg (a - 1)) 0 (vta (vcpW U V nl np nh nk) i)).2 := vhtL_Z _ _ _ (zSZ_cg (zSZ_cpW hG h) (zSm_ta _ _).2)
    rw [vblL]
    (try dsimp only)
    repeat' split
    all_goals exact zSZ_vbl hG m _ _ _ _ h1
theorem zSZ_abla {V U : zV} {nl np nh nk k : Nat} (hG : zWG V nl np nh nk) (hZ : zSZ U) : zSZ (abla V U nl np nh nk k).2 := by
  have h1 : zSZ (vhtL nl np nh nk k (V 4 k 0) (Int32.toNatClampNeg 300) 0 (vcpW U V nl np nh nk)).2 := vhtL_Z _ _ _ (zSZ_cpW hG hZ)
  unfold abla
  (try dsimp only)
  split
  all_goals exact zSZ_vbl hG _ _ _ _ _ h1
theorem zSZ_vdo {V : zV} {nl np nh nk k : Nat} {x : Int32} (hG : zWG V nl np nh nk) : ∀ (m i : Nat) (U : zV), zSZ U → zSZ (vdoL V nl np nh nk k x m i U).2
  | 0, _, _, h => h
  | m + 1, i, U, h => by
    have h1 : zSZ (vhtL nl np nh nk k ((V 4 k 2) + 1) (Int32.toNatClampNeg 100) 0 (vkf V k x (nI i) (vcpW U V nl np nh nk))).2 := vhtL_Z _ _ _ (vkf_Z V k x (zSZ_cpW hG h))
    rw [vdoL]
    (try dsimp only)
    split
    · exact zSZ_vdo hG m _ _ h1
    · exact h1
theorem zSZ_adou {V U : zV} {nl np nh nk k : Nat} (hG : zWG V nl np nh nk) (hZ : zSZ U) : zSZ (adou V U nl np nh nk k).2 := by
  unfold adou
  (try dsimp only)
  split
  · exact zSZ_vdo hG _ _ _ (vdep_Z hG hZ)
  · exact hZ
theorem zSZ_abri {V : zV} {x y : Int32} (hZ : zSZ V) : zSZ (abri V x y).2.2 := by
  unfold abri
  (try dsimp only)
  repeat' split
  all_goals repeat (first | exact hZ | refine zSZ_u ?_ (by decide))
theorem zSZ_alur {V : zV} {x y z : Int32} (hZ : zSZ V) : zSZ (alur V x y z).2.2 := by
  unfold alur
  (try dsimp only)
  repeat' split
  all_goals repeat (first | exact hZ | refine zSZ_u ?_ (by decide))
/-! the reference's number of the hawk that is left out -/
theorem raim_2 (S T : zFn) (p : Nat) : raim S T p 0 2 = S 0 2 := by
  unfold raim
  (try dsimp only)
  (repeat' split) <;> (repeat (first | rfl | rw [zup_ne' (by omega)]))
theorem rsu_2 (S T : zFn) (k p : Nat) : rsu S T k p 0 2 = S 0 2 := by
  unfold rsu
  (try dsimp only)
  (repeat' split) <;> (repeat (first | rfl | rw [zup_ne' (by omega)] | rw [raim_2]))
theorem rla_2 (S T : zFn) (p : Nat) : rla S T p 0 2 = S 0 2 := by
  unfold rla
  (try dsimp only)
  (repeat' split) <;> (repeat (first | rfl | rw [zup_ne' (by omega)] | rw [raim_2]))
theorem rfl__2 (S T : zFn) (p : Nat) : rfl_ S T p 0 2 = S 0 2 := by
  unfold rfl_
  (try dsimp only)
  (repeat' split) <;> (repeat (first | rfl | rw [zup_ne' (by omega)] | rw [raim_2] | rw [rla_2]))
theorem rpy_2 (S T : zFn) (h b : Nat) : rpy S T h b 0 2 = S 0 2 := by
  unfold rpy
  (try dsimp only)
  (repeat' split) <;> (repeat (first | rfl | rw [zup_ne' (by omega)] | rw [raim_2]))
theorem rpyw_2 (S T : zFn) (h : Nat) (b : Int32) : rpyw S T h b 0 2 = S 0 2 := by
  unfold rpyw
  split
  · rfl
  · exact rpy_2 _ _ _ _
theorem rhuL_2 (S T : zFn) (h : Nat) : ∀ (m i : Nat) (a b : Int32), rhuL S T h m i a b 0 2 = S 0 2
  | 0, _, _, _ => by
    rw [rhuL]
    exact rpyw_2 _ _ _ _
  | m + 1, i, a, b => by
    rw [rhuL]
    (try dsimp only)
    (repeat' split) <;> exact rhuL_2 S T h m _ _ _
theorem rhu_2 (S T : zFn) (h np : Nat) : rhu S T h np 0 2 = S 0 2 := by
  unfold rhu
  (try dsimp only)
  (repeat' split) <;> (repeat (first | rfl | rw [zup_ne' (by omega)] | rw [rhuL_2]))
theorem rgl_2 (S T : zFn) (k : Nat) : rgl S T k 0 2 = S 0 2 := by
  unfold rgl
  (try dsimp only)
  (repeat' split) <;> (repeat (first | rfl | rw [zup_ne' (by omega)]))
theorem rso2_2 {T : zFn} {k : Nat} : ∀ (m i : Nat) (S : zFn), rso2 T k m i S 0 2 = S 0 2
  | 0, _, _ => by rw [rso2]
  | m + 1, i, S => by
    rw [rso2]
    (try dsimp only)
    (repeat' split) <;> (rw [rso2_2 m]) <;> (repeat (first | rfl | rw [zup_ne' (by omega)] | rw [rsu_2]))
theorem rso_2 {T : zFn} : ∀ (m i : Nat) (S : zFn), rso T m i S 0 2 = S 0 2
  | 0, _, _ => by rw [rso]
  | m + 1, i, S => by
    rw [rso]
    (try dsimp only)
    (repeat' split) <;> (rw [rso_2 m]) <;> (repeat (first | rfl | rw [zup_ne' (by omega)] | rw [rso2_2]))
theorem rpl1_2 {T : zFn} : ∀ (m i : Nat) (S : zFn), rpl1 T m i S 0 2 = S 0 2
  | 0, _, _ => by rw [rpl1]
  | m + 1, i, S => by
    rw [rpl1]
    (try dsimp only)
    (repeat' split) <;> (rw [rpl1_2 m]) <;> (repeat (first | rfl | rw [zup_ne' (by omega)] | rw [rgl_2]))
theorem rpl2_2 {T : zFn} : ∀ (m i : Nat) (S : zFn), rpl2 T m i S 0 2 = S 0 2
  | 0, _, _ => by rw [rpl2]
  | m + 1, i, S => by
    rw [rpl2]
    (try dsimp only)
    (repeat' split) <;> (rw [rpl2_2 m]) <;> (repeat (first | rfl | rw [zup_ne' (by omega)] | rw [rfl__2]))
theorem rpl3_2 {T : zFn} {np : Nat} : ∀ (m i : Nat) (S : zFn), rpl3 T np m i S 0 2 = S 0 2
  | 0, _, _ => by rw [rpl3]
  | m + 1, i, S => by
    rw [rpl3]
    (try dsimp only)
    (repeat' split) <;> (rw [rpl3_2 m]) <;> (repeat (first | rfl | rw [zup_ne' (by omega)] | rw [rhu_2]))
theorem rpa_2 (S T : zFn) (nl np nh nk : Nat) : rpa S T nl np nh nk 0 2 = S 0 2 := by
  unfold rpa
  (try dsimp only)
  rw [zup_ne' (by omega), rpl3_2, rpl2_2, rso_2, rpl1_2]
theorem mpaL_2 {T : zFn} {nl np nh nk : Nat} : ∀ (m i : Nat) (S : zFn), mpaL T nl np nh nk m i S 0 2 = S 0 2
  | 0, _, _ => rfl
  | m + 1, i, S => by
    rw [mpaL]
    (try dsimp only)
    rw [mpaL_2 m, rpa_2]
theorem mpaL_I {T : zFn} {nl np nh nk : Nat} (hN : zTN T nl np nh nk) : ∀ (m i : Nat) (S : zFn), zIN T S → zIN T (mpaL T nl np nh nk m i S)
  | 0, _, _, h => h
  | m + 1, i, S, h => mpaL_I hN m (i + 1) _ (rpa_I hN h)
