section ZSU
variable {p : Program} {l : Launch} {e : Env} {R : Room} {s : State} {m : MethodId} {args : Array Value} {below : List Frame} {meth : Method} {c : Code} {Q : State → Prop} {H : Heap} {locs : List Loc} {ls : Array Slot}
variable {G : zG} {AL : List Nat} {cc : ByteArray} {nL : Nat} {own : String} {pc : Nat} {L : zL} {st : List Value} {c0 sl : Nat} {μ : zM} {S' : zS} {len a b : Nat} {k : Int} {ext : List Nat}
theorem z8 (C : zCtx p s m args meth c cc nL own) (X : zSt G nL s AL (pc, L, st, c0, sl, μ) H locs ls) (hok : zdec cc pc .idiv 1 = true)
    (hz : zo8 (pc, L, st, c0, sl, μ) = some (.inl S')) (kk : zKK p l e R s m args below meth c Q G nL AL S') : zWW p l e R s m args below meth c Q G AL (pc, L, st, c0, sl, μ) H locs ls := by
  obtain ⟨hx, hb, -⟩ := C
  unfold zo8 at hz
  split at hz
  · rename_i pc1 L1 y x st1 c1 sl1 μ1 heq
    cases heq
    split at hz
    · cases hz
    · rename_i hy
      cases hz
      exact lv_idiv hx hb (zdec_ok hok) hy (kk AL H locs ls (zex AL) (zst_put X (zpush (v := .int (x / y)) trivial (fun w hw => X.2.2.2.1 w (List.mem_cons_of_mem _ (List.mem_cons_of_mem _ hw))))))
  · cases hz
theorem z9 (C : zCtx p s m args meth c cc nL own) (X : zSt G nL s AL (pc, L, st, c0, sl, μ) H locs ls) (hok : zdec cc pc .irem 1 = true)
    (hz : zo9 (pc, L, st, c0, sl, μ) = some (.inl S')) (kk : zKK p l e R s m args below meth c Q G nL AL S') : zWW p l e R s m args below meth c Q G AL (pc, L, st, c0, sl, μ) H locs ls := by
  obtain ⟨hx, hb, -⟩ := C
  unfold zo9 at hz
  split at hz
  · rename_i pc1 L1 y x st1 c1 sl1 μ1 heq
    cases heq
    split at hz
    · cases hz
    · rename_i hy
      cases hz
      exact lv_irem hx hb (zdec_ok hok) hy (kk AL H locs ls (zex AL) (zst_put X (zpush (v := .int (x - x / y * y)) trivial (fun w hw => X.2.2.2.1 w (List.mem_cons_of_mem _ (List.mem_cons_of_mem _ hw))))))
  · cases hz
theorem z10 (C : zCtx p s m args meth c cc nL own) (X : zSt G nL s AL (pc, L, st, c0, sl, μ) H locs ls) (hok : zdec cc pc (zui b) 1 = true)
    (hz : zo10 b (pc, L, st, c0, sl, μ) = some (.inl S')) (kk : zKK p l e R s m args below meth c Q G nL AL S') : zWW p l e R s m args below meth c Q G AL (pc, L, st, c0, sl, μ) H locs ls := by
  obtain ⟨hx, hb, -⟩ := C
  unfold zo10 at hz
  split at hz
  · rename_i pc1 L1 x st1 c1 sl1 μ1 heq
    cases heq
    cases hz
    have h := zdec_ok hok
    have hv : zvw μ.length (zun b x) := zvw_ni (fun q h => by unfold zun at h; split at h <;> cases h)
    have K := kk AL H locs ls (zex AL) (zst_put X (zpush (v := zun b x) hv (fun w hw => X.2.2.2.1 w (List.mem_cons_of_mem _ hw))))
    match b, h, K with
    | 0, h, K => exact lv_i2l hx hb h rfl K
    | 1, h, K => exact lv_i2b hx hb h rfl K
    | 2, h, K => exact lv_i2d hx hb h K
    | 3, h, K => exact lv_i2c hx hb h rfl K
    | (n + 4), h, K => exact lv_ineg hx hb h K
  · cases hz
theorem z11 (C : zCtx p s m args meth c cc nL own) (X : zSt G nL s AL (pc, L, st, c0, sl, μ) H locs ls) (hok : zdec cc pc (zli b) 1 = true)
    (hz : zo11 b (pc, L, st, c0, sl, μ) = some (.inl S')) (kk : zKK p l e R s m args below meth c Q G nL AL S') : zWW p l e R s m args below meth c Q G AL (pc, L, st, c0, sl, μ) H locs ls := by
  obtain ⟨hx, hb, -⟩ := C
  unfold zo11 at hz
  split at hz
  · rename_i pc1 L1 y x st1 c1 sl1 μ1 heq
    cases heq
    cases hz
    have h := zdec_ok hok
    have hv : zvw μ.length (zlon b x y) := zvw_ni (fun q h => by unfold zlon at h; split at h <;> cases h)
    have K := kk AL H locs ls (zex AL) (zst_put X (zpush (v := zlon b x y) hv (fun w hw => X.2.2.2.1 w (List.mem_cons_of_mem _ (List.mem_cons_of_mem _ hw)))))
    match b, h, K with
    | 0, h, K => exact lv_ladd hx hb h K
    | 1, h, K => exact lv_lmul hx hb h K
    | (n + 2), h, K => exact W.lcmp hx hb h K
  · cases hz
theorem z12 (C : zCtx p s m args meth c cc nL own) (X : zSt G nL s AL (pc, L, st, c0, sl, μ) H locs ls) (hok : zdec cc pc (if b = 0 then .ddiv else .dcmp .l) 1 = true)
    (hz : zo12 b (pc, L, st, c0, sl, μ) = some (.inl S')) (kk : zKK p l e R s m args below meth c Q G nL AL S') : zWW p l e R s m args below meth c Q G AL (pc, L, st, c0, sl, μ) H locs ls := by
  obtain ⟨hx, hb, -⟩ := C
  unfold zo12 at hz
  split at hz
  · rename_i pc1 L1 y x st1 c1 sl1 μ1 heq
    cases heq
    have h := zdec_ok hok
    by_cases hb0 : b = 0
    · rw [if_pos hb0] at hz h
      split at hz
      · rename_i hn
        cases hz
        exact lv_ddiv hx hb h hn (kk AL H locs ls (zex AL) (zst_put X (zpush (v := .double (FP.ddiv x y)) trivial (fun w hw => X.2.2.2.1 w (List.mem_cons_of_mem _ (List.mem_cons_of_mem _ hw))))))
      · cases hz
    · rw [if_neg hb0] at hz h
      cases hz
      exact lv_dcmp hx hb h (kk AL H locs ls (zex AL) (zst_put X (zpush (v := .int _) trivial (fun w hw => X.2.2.2.1 w (List.mem_cons_of_mem _ (List.mem_cons_of_mem _ hw))))))
  · cases hz
theorem z13 (C : zCtx p s m args meth c cc nL own) (X : zSt G nL s AL (pc, L, st, c0, sl, μ) H locs ls) (hok : zdec cc pc (.dconst 0) 1 = true)
    (kk : zKK p l e R s m args below meth c Q G nL AL (pc + 1, L, .double FP.dconst0 :: st, c0, sl, μ)) : zWW p l e R s m args below meth c Q G AL (pc, L, st, c0, sl, μ) H locs ls := by
  obtain ⟨hx, hb, -⟩ := C
  exact lv_dconst0 hx hb (zdec_ok hok) (kk AL H locs ls (zex AL) (zst_put X (zpush (v := .double _) trivial X.2.2.2.1)))
theorem z14 (C : zCtx p s m args meth c cc nL own) (E : zEnv G s) (X : zSt G nL s AL (pc, L, st, c0, sl, μ) H locs ls) (hok : zdec cc pc .dup 1 = true)
    (hz : zo14 (pc, L, st, c0, sl, μ) = some (.inl S')) (kk : zKK p l e R s m args below meth c Q G nL AL S') : zWW p l e R s m args below meth c Q G AL (pc, L, st, c0, sl, μ) H locs ls := by
  obtain ⟨hx, hb, -⟩ := C
  have hu := E.2.2.2.2.2.2.2.2.2.2
  cases st with
  | nil => cases hz
  | cons v st =>
    simp only [zo14] at hz
    split at hz
    · rename_i hk
      cases hz
      exact lv_dup hx hb (zdec_ok hok) (by rw [zva_cat hu]; exact zkind_c hk) (kk AL H locs ls (zex AL) (zst_put X (zpush (X.2.2.2.1 v List.mem_cons_self) X.2.2.2.1)))
    · cases hz
theorem z15 (C : zCtx p s m args meth c cc nL own) (E : zEnv G s) (X : zSt G nL s AL (pc, L, st, c0, sl, μ) H locs ls) (hok : zdec cc pc .dup2 1 = true)
    (hz : zo15 (pc, L, st, c0, sl, μ) = some (.inl S')) (kk : zKK p l e R s m args below meth c Q G nL AL S') : zWW p l e R s m args below meth c Q G AL (pc, L, st, c0, sl, μ) H locs ls := by
  obtain ⟨hx, hb, -⟩ := C
  have hu := E.2.2.2.2.2.2.2.2.2.2
  cases st with
  | nil => cases hz
  | cons v st =>
    cases st with
    | nil => cases hz
    | cons w st =>
      simp only [zo15] at hz
      split at hz
      · rename_i hk
        cases hz
        exact lv_dup2_11 hx hb (zdec_ok hok) (by rw [zva_cat hu]; exact zkind_c hk.1) (by rw [zva_cat hu]; exact zkind_c hk.2) (kk AL H locs ls (zex AL) (zst_put X (zpush (X.2.2.2.1 v List.mem_cons_self) (zpush (X.2.2.2.1 w (List.mem_cons_of_mem _ List.mem_cons_self)) X.2.2.2.1))))
      · cases hz
theorem z16 (C : zCtx p s m args meth c cc nL own) (E : zEnv G s) (X : zSt G nL s AL (pc, L, st, c0, sl, μ) H locs ls) (hok : zdec cc pc .pop 1 = true)
    (hz : zo16 (pc, L, st, c0, sl, μ) = some (.inl S')) (kk : zKK p l e R s m args below meth c Q G nL AL S') : zWW p l e R s m args below meth c Q G AL (pc, L, st, c0, sl, μ) H locs ls := by
  obtain ⟨hx, hb, -⟩ := C
  have hu := E.2.2.2.2.2.2.2.2.2.2
  cases st with
  | nil => cases hz
  | cons v st =>
    simp only [zo16] at hz
    split at hz
    · rename_i hk
      cases hz
      exact lv_pop hx hb (zdec_ok hok) (by rw [zva_cat hu]; exact zkind_c hk) (kk AL H locs ls (zex AL) (zst_put X (zst_pop X)))
    · cases hz
theorem z17 (C : zCtx p s m args meth c cc nL own) (X : zSt G nL s AL (pc, L, st, c0, sl, μ) H locs ls) (hok : zdec cc pc (.ifCond (zcb b) ((a : Int) - pc)) 3 = true)
    (hz : zo17 a b (pc, L, st, c0, sl, μ) = some (.inl S')) (kk : zKK p l e R s m args below meth c Q G nL AL S') : zWW p l e R s m args below meth c Q G AL (pc, L, st, c0, sl, μ) H locs ls := by
  obtain ⟨hx, hb, -⟩ := C
  unfold zo17 at hz
  split at hz
  · rename_i pc1 L1 x st1 c1 sl1 μ1 heq
    cases heq
    cases hz
    have h := zdec_ok hok
    have K := kk AL H locs ls (zex AL) (zst_put X (zst_pop X))
    have ht : (pc : Int) + ((a : Int) - pc) = (a : Int) := by omega
    have Kt : zif b x a (pc + 3) = a → W p l e R s m args below meth c H locs c0 sl Q (F0 m a ls (st1.map (zva G AL))) := fun q => by rw [q] at K; exact K
    have Kf : zif b x a (pc + 3) = pc + 3 → W p l e R s m args below meth c H locs c0 sl Q (F0 m (pc + 3) ls (st1.map (zva G AL))) := fun q => by rw [q] at K; exact K
    match b, h, Kt, Kf with
    | 0, h, Kt, Kf => exact lv_if_eq hx hb h ht (fun q => Kt (if_pos q)) (fun q => Kf (if_neg q))
    | 1, h, Kt, Kf => exact lv_if_ne hx hb h ht (fun q => Kt (if_neg q)) (fun q => Kf (if_pos q))
    | 2, h, Kt, Kf => exact lv_if_lt hx hb h ht (fun q => Kt (if_pos q)) (fun q => Kf (if_neg q))
    | 3, h, Kt, Kf => exact lv_if_ge hx hb h ht (fun q => Kt (if_pos q)) (fun q => Kf (if_neg q))
    | 4, h, Kt, Kf => exact lv_if_gt hx hb h ht (fun q => Kt (if_pos q)) (fun q => Kf (if_neg q))
    | (n + 5), h, Kt, Kf => exact lv_if_le hx hb h ht (fun q => Kt (if_pos q)) (fun q => Kf (if_neg q))
  · cases hz
theorem z18 (C : zCtx p s m args meth c cc nL own) (X : zSt G nL s AL (pc, L, st, c0, sl, μ) H locs ls) (hok : zdec cc pc (.if_icmp (zcb b) ((a : Int) - pc)) 3 = true)
    (hz : zo18 a b (pc, L, st, c0, sl, μ) = some (.inl S')) (kk : zKK p l e R s m args below meth c Q G nL AL S') : zWW p l e R s m args below meth c Q G AL (pc, L, st, c0, sl, μ) H locs ls := by
  obtain ⟨hx, hb, -⟩ := C
  unfold zo18 at hz
  split at hz
  · rename_i pc1 L1 y x st1 c1 sl1 μ1 heq
    cases heq
    cases hz
    have h := zdec_ok hok
    have K := kk AL H locs ls (zex AL) (zst_put X (fun w hw => X.2.2.2.1 w (List.mem_cons_of_mem _ (List.mem_cons_of_mem _ hw))))
    have ht : (pc : Int) + ((a : Int) - pc) = (a : Int) := by omega
    have Kt : zic b x y a (pc + 3) = a → W p l e R s m args below meth c H locs c0 sl Q (F0 m a ls (st1.map (zva G AL))) := fun q => by rw [q] at K; exact K
    have Kf : zic b x y a (pc + 3) = pc + 3 → W p l e R s m args below meth c H locs c0 sl Q (F0 m (pc + 3) ls (st1.map (zva G AL))) := fun q => by rw [q] at K; exact K
    match b, h, Kt, Kf with
    | 0, h, Kt, Kf => exact lv_icmp_eq hx hb h ht (fun q => Kt (if_pos q)) (fun q => Kf (if_neg q))
    | 1, h, Kt, Kf => exact lv_icmp_ne hx hb h ht (fun q => Kt (if_neg q)) (fun q => Kf (if_pos q))
    | 2, h, Kt, Kf => exact lv_icmp_lt hx hb h ht (fun q => Kt (if_pos q)) (fun q => Kf (if_neg q))
    | 3, h, Kt, Kf => exact lv_icmp_ge hx hb h ht (fun q => Kt (if_pos q)) (fun q => Kf (if_neg q))
    | 4, h, Kt, Kf => exact lv_icmp_gt hx hb h ht (fun q => Kt (if_pos q)) (fun q => Kf (if_neg q))
    | (n + 5), h, Kt, Kf => exact lv_icmp_le hx hb h ht (fun q => Kt (if_pos q)) (fun q => Kf (if_neg q))
  · cases hz
theorem z19 (C : zCtx p s m args meth c cc nL own) (X : zSt G nL s AL (pc, L, st, c0, sl, μ) H locs ls) (hok : zdec cc pc (.goto ((a : Int) - pc)) 3 = true)
    (kk : zKK p l e R s m args below meth c Q G nL AL (a, L, st, c0, sl, μ)) : zWW p l e R s m args below meth c Q G AL (pc, L, st, c0, sl, μ) H locs ls := by
  obtain ⟨hx, hb, -⟩ := C
  exact lv_goto hx hb (zdec_ok hok) (by omega) (kk AL H locs ls (zex AL) (zst_put X X.2.2.2.1))
theorem z20 (C : zCtx p s m args meth c cc nL own) (E : zEnv G s) (X : zSt G nL s AL (pc, L, st, c0, sl, μ) H locs ls) (hok : zdec cc pc (.if_acmp (if b = 0 then .eq else .ne) ((a : Int) - pc)) 3 = true)
    (hz : zo20 a b (pc, L, st, c0, sl, μ) = some (.inl S')) (kk : zKK p l e R s m args below meth c Q G nL AL S') : zWW p l e R s m args below meth c Q G AL (pc, L, st, c0, sl, μ) H locs ls := by
  obtain ⟨hx, hb, -⟩ := C
  unfold zo20 at hz
  split at hz
  · rename_i pc1 L1 y x st1 c1 sl1 μ1 heq
    cases heq
    split at hz
    · rename_i hxy
      cases hz
      have h := zdec_ok hok
      have hinj := E.2.2.2.2.2.2.1
      have K := kk AL H locs ls (zex AL) (zst_put X (fun w hw => X.2.2.2.1 w (List.mem_cons_of_mem _ (List.mem_cons_of_mem _ hw))))
      have hr : ∀ z : Nat, z < 20 → zva G AL (.ref z) = va_rf (some (G.2.2.1 z)) := fun z hz => by
        show (if z = zUK then G.2.2.2.1 else Value.ref (zaq G AL z)) = .ref (G.2.2.1 z)
        rw [if_neg (by unfold zUK; omega)]
        unfold zaq
        rw [if_pos (by unfold zK0; omega)]
      have ht : (pc : Int) + ((a : Int) - pc) = (a : Int) := by omega
      have he : x = y ↔ (some (G.2.2.1 x) : Option Nat) = some (G.2.2.1 y) := ⟨fun q => by rw [q], fun q => hinj x y hxy.1 hxy.2 (Option.some.inj q)⟩
      show W p l e R s m args below meth c H locs c0 sl Q (F0 m pc ls (zva G AL (.ref y) :: zva G AL (.ref x) :: st1.map (zva G AL)))
      rw [hr x hxy.1, hr y hxy.2]
      by_cases hb0 : b = 0
      · rw [if_pos hb0] at h K
        refine lv_acmp_eq hx hb h ht (fun q => ?_) (fun q => ?_)
        · rw [if_pos (he.mpr q)] at K; exact K
        · rw [if_neg (fun z => q (he.mp z))] at K; exact K
      · rw [if_neg hb0] at h K
        refine lv_acmp_ne hx hb h ht (fun q => ?_) (fun q => ?_)
        · rw [if_neg (fun z => q (he.mp z))] at K; exact K
        · rw [if_pos (he.mpr q)] at K; exact K
    · cases hz
  · cases hz
theorem z21 (C : zCtx p s m args meth c cc nL own) (X : zSt G nL s AL (pc, L, st, c0, sl, μ) H locs ls)
    (hok : (decide (0 < ext.length) && zdec cc pc (.tableswitch ((b : Int) - pc) a ((a : Int) + ext.length - 1) (ext.map (fun t : Nat => (t : Int) - (pc : Int))).toArray) len) = true)
    (hz : zo21 a b ext (pc, L, st, c0, sl, μ) = some (.inl S')) (kk : zKK p l e R s m args below meth c Q G nL AL S') : zWW p l e R s m args below meth c Q G AL (pc, L, st, c0, sl, μ) H locs ls := by
  obtain ⟨hx, hb, -⟩ := C
  simp only [Bool.and_eq_true, decide_eq_true_eq] at hok
  obtain ⟨hlen, hd⟩ := hok
  unfold zo21 at hz
  split at hz
  · rename_i pc1 L1 x st1 c1 sl1 μ1 heq
    cases heq
    cases hz
    have h := zdec_ok hd
    have K := kk AL H locs ls (zex AL) (zst_put X (zst_pop X))
    by_cases hq : x.toInt < a ∨ (a : Int) + ext.length ≤ x.toInt
    · rw [if_pos hq] at K
      exact lv_tableOut hx hb h (by omega) (tgt := b) (by omega) K
    · rw [if_neg hq] at K
      have hi : (x.toInt - a).toNat < ext.length := by omega
      refine lv_tableIn hx hb h (off := ((ext.getD (x.toInt - a).toNat 0 : Nat) : Int) - pc) (tgt := ext.getD (x.toInt - a).toNat 0) (by omega) (by omega) ?_ (by omega) K
      rw [List.getElem?_toArray, List.getElem?_map, List.getElem?_eq_getElem hi, List.getD_eq_getElem?_getD, List.getElem?_eq_getElem hi]
      rfl
  · cases hz
theorem zlk_off {pc : Nat} {x : Int32} {d : Nat} : ∀ (ext : List Nat), ext.all (fun n => decide (n < 100000)) = true → (pc : Int) + Op.lookupswitch.offset (zps pc ext) ((d : Int) - pc) x.toInt = (zlk ext x d : Nat)
  | [], _ => by
    show (pc : Int) + ((d : Int) - pc) = d
    omega
  | [k], _ => by
    show (pc : Int) + ((d : Int) - pc) = d
    omega
  | k :: t :: r, h => by
    simp only [List.all_cons, Bool.and_eq_true, decide_eq_true_eq] at h
    have hk : (Int32.ofNat k).toInt = (k : Int) := nI_toInt (n := k) (by omega)
    by_cases hx : x = Int32.ofNat k
    · have e1 : zlk (k :: t :: r) x d = t := by rw [zlk, if_pos hx]
      rw [e1]
      have e2 : Op.lookupswitch.offset (zps pc (k :: t :: r)) ((d : Int) - pc) x.toInt = (t : Int) - pc := by
        rw [hx, hk]
        simp [zps, Op.lookupswitch.offset]
      rw [e2]; omega
    · have e1 : zlk (k :: t :: r) x d = zlk r x d := by rw [zlk, if_neg hx]
      rw [e1]
      have e2 : Op.lookupswitch.offset (zps pc (k :: t :: r)) ((d : Int) - pc) x.toInt = Op.lookupswitch.offset (zps pc r) ((d : Int) - pc) x.toInt := lv_osw hx hk
      rw [e2]
      exact zlk_off r h.2.2
theorem z22 (C : zCtx p s m args meth c cc nL own) (X : zSt G nL s AL (pc, L, st, c0, sl, μ) H locs ls)
    (hok : (decide (ext.all (fun n => decide (n < 100000))) && (((zps pc ext).zip ((zps pc ext).drop 1)).all (fun (x, y) => x.1 < y.1)) && zdec cc pc (.lookupswitch ((b : Int) - pc) (zps pc ext).toArray) len) = true)
    (hz : zo22 b ext (pc, L, st, c0, sl, μ) = some (.inl S')) (kk : zKK p l e R s m args below meth c Q G nL AL S') : zWW p l e R s m args below meth c Q G AL (pc, L, st, c0, sl, μ) H locs ls := by
  obtain ⟨hx, hb, -⟩ := C
  simp only [Bool.and_eq_true, decide_eq_true_eq] at hok
  obtain ⟨⟨ha, hs⟩, hd⟩ := hok
  unfold zo22 at hz
  split at hz
  · rename_i pc1 L1 x st1 c1 sl1 μ1 heq
    cases heq
    cases hz
    have K := kk AL H locs ls (zex AL) (zst_put X (zst_pop X))
    exact lv_lookup hx hb (zdec_ok hd) hs rfl (zlk_off ext ha) K
  · cases hz
end ZSU
