/-! reading a field -/
section ZSV
variable {p : Program} {l : Launch} {e : Env} {R : Room} {s : State} {m : MethodId} {args : Array Value} {below : List Frame} {meth : Method} {c : Code} {Q : State → Prop} {H : Heap} {locs : List Loc} {ls : Array Slot}
variable {G : zG} {AL : List Nat} {cc : ByteArray} {nL : Nat} {own host : String} {pc : Nat} {L : zL} {st : List Value} {c0 sl : Nat} {μ : zM} {S' : zS} {len a b : Nat} {k : Int} {ext : List Nat}
set_option maxHeartbeats 1000000 in
theorem z23 (C : zCtx p s m args meth c cc nL own) (E : zEnv G s) (X : zSt G nL s AL (pc, L, st, c0, sl, μ) H locs ls)
    (hok : (zdec cc pc (.getfield (ext.getD 0 0)) 3 && zlf own host (ext.getD 0 0) (ext.getD 2 0) (zfd a (ext.getD 3 0)) (ext.getD 1 0) && decide (a = 33 ∨ a = 34 ∨ (a < 11 ∧ ext.getD 3 0 < zNf a)) && decide (zfk a (ext.getD 3 0) = (k.toNat, b)) && decide (k = 0 ∨ k = 1) && decide (a < 33 ∨ ext.getD 2 0 = 0)) = true)
    (hz : zo23 a b k (pc, L, st, c0, sl, μ) = some (.inl S')) (kk : zKK p l e R s m args below meth c Q G nL AL S') : zWW p l e R s m args below meth c Q G AL (pc, L, st, c0, sl, μ) H locs ls := by
  obtain ⟨hx, hb, -, ho, hT, -⟩ := C
  simp only [Bool.and_eq_true, decide_eq_true_eq] at hok
  obtain ⟨⟨⟨⟨⟨hd, hlk⟩, hcls⟩, hfk⟩, hk⟩, hnest⟩ := hok
  have hd := zdec_ok hd
  unfold zo23 at hz
  split at hz
  · rename_i pc1 L1 r st1 c1 sl1 μ1 heq
    cases heq
    split at hz
    · rename_i htag
      cases hz
      have hR := X.1
      have hrf : ∀ j q, zgr μ r j = some q → q ≠ zUK := fun j q hq => (hR.ref hq).2
      have hpush : zvw μ.length (if k = 0 then Value.int (zgi μ r b) else va_rf (zgr μ r b)) := by
        split
        · trivial
        · cases hq : zgr μ r b with
          | none => trivial
          | some q => exact (hR.ref hq).1
      have K := kk AL H locs ls (zex AL) (zst_put X (zpush hpush (zst_pop X)))
      have K : W p l e R s m args below meth c H locs c0 sl Q (F0 m (pc + 3) ls (zva G AL (if k = 0 then Value.int (zgi μ r b) else va_rf (zgr μ r b)) :: st1.map (zva G AL))) := K
      show W p l e R s m args below meth c H locs c0 sl Q (F0 m pc ls (zva G AL (.ref r) :: st1.map (zva G AL)))
      have hval : zva G AL (if k = 0 then Value.int (zgi μ r b) else va_rf (zgr μ r b)) = (if k = 0 then Value.int (zgi μ r b) else va_rf ((zgr μ r b).map (zaq G AL))) := by
        split
        · rfl
        · exact zva_rf (fun q hq => hrf b q hq)
      rw [hval] at K
      obtain ⟨ν, rfl, hl, hP, hD, hw⟩ := hR
      have he1 : (zen (zm0 G.2.2.2.2.2 ++ ν) r).1 = a := htag
      by_cases ha : a < 11
      · have hfn : ext.getD 3 0 < zNf a := by
          rcases hcls with h | h | h
          · omega
          · omega
          · exact h.2
        obtain ⟨h0, h1, h2⟩ := zdyn (xs := G.2.2.2.2.2) (ν := ν) (r := r) (by rw [htag]; exact Or.inl ha)
        have hws := zws_at (G := G) hl h1
        rw [zae_obj he1 ha] at hws
        rw [zva_dyn h0]
        have hfl := zft_at ha hfn hfk
        have hv : ((zft a).map (zfv G AL (zen (zm0 G.2.2.2.2.2 ++ ν) r)))[ext.getD 3 0]? = some (if k = 0 then Value.int (zgi (zm0 G.2.2.2.2.2 ++ ν) r b) else va_rf ((zgr (zm0 G.2.2.2.2.2 ++ ν) r b).map (zaq G AL))) := by
          rw [List.getElem?_map, hfl]
          rcases hk with rfl | rfl <;> rfl
        rw [zfd_own ha] at hlk
        by_cases hn : ext.getD 2 0 = 0
        · rw [hn] at hlk
          have hlk1 : (Cond.fieldLink own (ext.getD 0 0) (zTT a (ext.getD 3 0)).1 (zTT a (ext.getD 3 0)).2.1 (zTT a (ext.getD 3 0)).2.2.1).before args s = true := zlf_t hT hlk
          exact va_get (D := G.1) (cl := zcl) (C := zCn a) (T := zTT a) (N := zNf a) (ci := a) (Ts := zT) (ws := zws G AL ν) hx hb hT (zin_u ha) ho E.1 hP (r - zK0) hws (zcl_at a ha) (ext.getD 3 0) hfn hlk1 (fun _ h9 => h9) hv hd K
        · have hlk1 : (Cond.fieldLinkNest own (ext.getD 0 0) (zTT a (ext.getD 3 0)).1 (zTT a (ext.getD 3 0)).2.1 (zTT a (ext.getD 3 0)).2.2.1 host).before args s = true := zlf_u E hn hlk
          exact va_getN (D := G.1) (cl := zcl) (C := zCn a) (T := zTT a) (N := zNf a) (ci := a) (Ts := zT) (ws := zws G AL ν) hx hb hT (zin_u ha) ho E.1 hP (r - zK0) hws (zcl_at a ha) (ext.getD 3 0) hfn hlk1 (fun _ h9 => h9) hv hd K
      · have hn : ext.getD 2 0 = 0 := by
          rcases hnest with h | h
          · rcases hcls with h9 | h9 | h9 <;> omega
          · exact h
        rw [hn] at hlk
        have hlk := zlf_0 hT hlk
        have ha33 : a = 33 ∨ a = 34 := by rcases hcls with h9 | h9 | h9 <;> omega
        obtain ⟨h0, h1⟩ := zsta (xs := G.2.2.2.2.2) (ν := ν) (r := r) hw (by rw [htag]; omega) (by rw [htag]; omega)
        have hzs := E.2.2.2.2.2.1 r _ h1
        have hruk : r ≠ zUK := by
          rintro rfl
          have h2 : (zm0 G.2.2.2.2.2)[zUK]? = some (99, [], [], []) := by
            rw [zm0, List.getElem?_append_left (by decide +kernel)]
            decide +kernel
          rw [h2] at h1
          rw [← Option.some.inj h1] at he1
          have : (99 : Nat) = a := he1
          omega
        rw [zva_sta h0 hruk]
        have hmem := List.mem_of_getElem? h1
        have hmap : (zgr (zm0 G.2.2.2.2.2 ++ ν) r b).map (zaq G AL) = (zgr (zm0 G.2.2.2.2.2 ++ ν) r b).map G.2.2.1 := by
          cases hq : zgr (zm0 G.2.2.2.2.2 ++ ν) r b with
          | none => rfl
          | some q =>
            have := (zm0_ref hmem (zget_mem hq)).1
            show some (zaq G AL q) = some _
            unfold zaq
            rw [if_pos this]
        rw [hmap] at K
        unfold zs1 at hzs
        rcases ha33 with rfl | rfl
        · rw [if_pos he1] at hzs
          have hfk : ((1 : Nat), (0 : Nat)) = (k.toNat, b) := hfk
          have hk1 : k = 1 := by
            rcases hk with rfl | rfl
            · cases hfk
            · rfl
          have hb0 : b = 0 := (congrArg Prod.snd hfk).symm
          subst hk1; subst hb0
          exact vk_getf hx hb hzs.2 X.2.1 ho hlk (fun _ h9 => h9) hd K
        · rw [if_neg (by omega), if_pos he1] at hzs
          by_cases hf0 : ext.getD 3 0 = 0
          · rw [hf0] at hfk hlk
            have hfk : ((1 : Nat), (0 : Nat)) = (k.toNat, b) := hfk
            have hk1 : k = 1 := by
              rcases hk with rfl | rfl
              · cases hfk
              · rfl
            have hb0 : b = 0 := (congrArg Prod.snd hfk).symm
            subst hk1; subst hb0
            exact vk_getf hx hb hzs.2.1 X.2.1 ho hlk (fun _ h9 => h9) hd K
          · unfold zfk at hfk
            rw [if_neg (by decide), if_pos rfl, if_neg hf0] at hfk
            unfold zfd at hlk
            rw [if_neg (by decide), if_pos rfl, if_neg hf0] at hlk
            have hk0 : k = 0 := by
              rcases hk with rfl | rfl
              · rfl
              · cases hfk
            have hb0 : b = 0 := (congrArg Prod.snd hfk).symm
            subst hk0; subst hb0
            exact vk_getf hx hb hzs.2.2 X.2.1 ho hlk (fun _ h9 => h9) hd K
    · cases hz
  · cases hz
end ZSV
