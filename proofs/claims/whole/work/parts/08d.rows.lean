/-! statics, rows, making things -/
theorem zty_at (G : zG) : ∀ b, 23 ≤ b → b < 28 → (ztys G)[b - 20]? = some (G.2.1 (b - 20), .object (zot b)) := by
  intro b h1 h2
  have : b = 23 ∨ b = 24 ∨ b = 25 ∨ b = 26 ∨ b = 27 := by omega
  rcases this with rfl | rfl | rfl | rfl | rfl <;> rfl
theorem zae_i {G : zG} {AL : List Nat} {e : zE} (h : e.1 = 20) : zae G AL e = .inl (G.2.1 0, e.2.1.length, .inl (fun j => e.2.1.getD j 0)) := by
  unfold zae
  rw [if_neg (by omega), if_pos h]
theorem zae_b {G : zG} {AL : List Nat} {e : zE} (h : e.1 = 21) : zae G AL e = .inl (G.2.1 1, e.2.1.length, .inl (fun j => e.2.1.getD j 0)) := by
  unfold zae
  rw [if_neg (by omega), if_neg (by omega), if_pos h]
theorem zae_l {G : zG} {AL : List Nat} {e : zE} (h : e.1 = 22) : zae G AL e = .inl (G.2.1 2, e.2.2.2.length, .inr (.inl (fun j => e.2.2.2.getD j 0))) := by
  unfold zae
  rw [if_neg (by omega), if_neg (by omega), if_neg (by omega), if_pos h]
theorem zae_r {G : zG} {AL : List Nat} {e : zE} {t : Nat} (h : e.1 = t) (h1 : 23 ≤ t) (h2 : t < 28) : zae G AL e = .inl (G.2.1 (t - 20), e.2.2.1.length, .inr (.inr (.inr (.inr (fun j => (e.2.2.1.getD j none).map (zaq G AL)))))) := by
  unfold zae
  rw [if_neg (by omega), if_neg (by omega), if_neg (by omega), if_neg (by omega), h]
section ZSR
variable {p : Program} {l : Launch} {e : Env} {R : Room} {s : State} {m : MethodId} {args : Array Value} {below : List Frame} {meth : Method} {c : Code} {Q : State → Prop} {H : Heap} {locs : List Loc} {ls : Array Slot}
variable {G : zG} {AL : List Nat} {cc : ByteArray} {nL : Nat} {own host : String} {pc : Nat} {L : zL} {st : List Value} {c0 sl : Nat} {μ : zM} {S' : zS} {len a b : Nat} {k : Int} {ext : List Nat}
theorem z25 (C : zCtx p s m args meth c cc nL own) (E : zEnv G s) (X : zSt G nL s AL (pc, L, st, c0, sl, μ) H locs ls)
    (hok : (zdec cc pc (.getstatic (ext.getD 0 0)) 3 && decide (a < 24) && zlf own host (ext.getD 0 0) (ext.getD 2 0) (zsn.getD a ("", "", "")) (ext.getD 1 0)) = true)
    (kk : zKK p l e R s m args below meth c Q G nL AL (pc + 3, L, zsv a :: st, c0, sl, μ)) : zWW p l e R s m args below meth c Q G AL (pc, L, st, c0, sl, μ) H locs ls := by
  obtain ⟨hx, hb, -, ho, hT, -⟩ := C
  simp only [Bool.and_eq_true, decide_eq_true_eq] at hok
  obtain ⟨⟨hd, ha⟩, hlk⟩ := hok
  have hd := zdec_ok hd
  have hZ := E.2.2.2.2.1 a ha
  have hlen := X.1.len
  have hv : zvw μ.length (zsv a) := by
    rw [hlen]
    unfold zsv zK0 zUK
    split
    · show a < _; omega
    · split
      · trivial
      · show (22 : Nat) < _; omega
  have hva : zva G AL (zsv a) = zva G [] (zsv a) := by
    have key : ∀ z : Nat, z < 82 → zva G AL (.ref z) = zva G [] (.ref z) := fun z hz => by
      show (if z = zUK then G.2.2.2.1 else Value.ref (zaq G AL z)) = (if z = zUK then G.2.2.2.1 else Value.ref (zaq G [] z))
      unfold zaq
      rw [if_pos (show z < zK0 from hz), if_pos (show z < zK0 from hz)]
    unfold zsv
    split
    · exact key a (by omega)
    · split
      · rfl
      · exact key zUK (by decide)
  have K := kk AL H locs ls (zex AL) (zst_put X (zpush hv X.2.2.2.1))
  have K : W p l e R s m args below meth c H locs c0 sl Q (F0 m (pc + 3) ls (zva G AL (zsv a) :: st.map (zva G AL))) := K
  rw [hva] at K
  by_cases hn : ext.getD 2 0 = 0
  · rw [hn] at hlk
    exact va_gets hx hb hZ X.2.1 ho (zlf_0 hT hlk) (fun _ h => h) hd K
  · exact va_getsN hx hb hZ X.2.1 ho (zlf_1 E hn hlk) (fun _ h => h) hd K
/-- the unknown one is no row, no text -/
theorem zno_uk {xs : List Int32} {e0 : zE} {r : Nat} (h : (zm0 xs)[r]? = some e0) (he : e0.1 ≠ 99) : r ≠ zUK := by
  rintro rfl
  have h2 : (zm0 xs)[zUK]? = some (99, [], [], []) := by
    rw [zm0, List.getElem?_append_left (by decide +kernel)]
    decide +kernel
  rw [h2] at h
  exact he (by rw [← Option.some.inj h])
theorem zmap_sta {xs : List Int32} {e0 : zE} {r j : Nat} (h : (zm0 xs)[r]? = some e0) : (e0.2.2.1.getD j none).map (zaq G AL) = (e0.2.2.1.getD j none).map G.2.2.1 := by
  cases hq : e0.2.2.1.getD j none with
  | none => rfl
  | some q =>
    have := (zm0_ref (List.mem_of_getElem? h) (zget_mem hq)).1
    show some (zaq G AL q) = some _
    unfold zaq
    rw [if_pos this]
set_option maxHeartbeats 1000000 in
theorem z26 (C : zCtx p s m args meth c cc nL own) (E : zEnv G s) (X : zSt G nL s AL (pc, L, st, c0, sl, μ) H locs ls)
    (hok : (match b with
      | 0 => zdec cc pc .iaload 1
      | 1 => zdec cc pc .baload 1
      | 2 => zdec cc pc .laload 1
      | 3 => zdec cc pc .aaload 1
      | _ => false) = true)
    (hz : zo26 b (pc, L, st, c0, sl, μ) = some (.inl S')) (kk : zKK p l e R s m args below meth c Q G nL AL S') : zWW p l e R s m args below meth c Q G AL (pc, L, st, c0, sl, μ) H locs ls := by
  obtain ⟨hx, hb, -⟩ := C
  unfold zo26 at hz
  split at hz
  · rename_i pc1 L1 j r st1 c1 sl1 μ1 heq
    cases heq
    obtain ⟨ν, rfl, hl, hP, hD, hw⟩ := id X.1
    have hst : ∀ w ∈ st1, zvw (zm0 G.2.2.2.2.2 ++ ν).length w := fun w h => X.2.2.2.1 w (List.mem_cons_of_mem _ (List.mem_cons_of_mem _ h))
    show W p l e R s m args below meth c H locs c0 sl Q (F0 m pc ls (.int j :: zva G AL (.ref r) :: st1.map (zva G AL)))
    match b, hok, hz with
    | 0, hok, hz =>
      have hd := zdec_ok hok
      rw [if_pos rfl] at hz
      split at hz
      · rename_i hc
        obtain ⟨htag, hin⟩ := hc
        cases hz
        have K := kk AL H locs ls (zex AL) (zst_put X (zpush (v := .int _) trivial hst))
        rcases htag with h20 | h30
        · obtain ⟨h0, h1, h2⟩ := zdyn (xs := G.2.2.2.2.2) (ν := ν) (r := r) (by omega)
          have hws := zws_at (G := G) hl h1
          rw [zae_i h20] at hws
          rw [zva_dyn h0]
          exact va_iald hx hb E.1 hP _ 0 hws rfl hin hd K
        · obtain ⟨h0, h1⟩ := zsta (xs := G.2.2.2.2.2) (ν := ν) (r := r) hw (by omega) (by omega)
          have hzs := E.2.2.2.2.2.1 r _ h1
          have he : (zen (zm0 G.2.2.2.2.2 ++ ν) r).1 = 30 := h30
          unfold zs1 at hzs
          rw [if_neg (by omega), if_neg (by omega), if_pos he] at hzs
          rw [zva_sta h0 (zno_uk h1 (by omega))]
          exact va_ti hx hb hzs X.2.1 hin rfl hd K
      · cases hz
    | 1, hok, hz =>
      have hd := zdec_ok hok
      rw [if_neg (by decide), if_pos rfl] at hz
      split at hz
      · rename_i hc
        obtain ⟨htag, hin⟩ := hc
        cases hz
        have K := kk AL H locs ls (zex AL) (zst_put X (zpush (v := .int _) trivial hst))
        rcases htag with h20 | h30
        · obtain ⟨h0, h1, h2⟩ := zdyn (xs := G.2.2.2.2.2) (ν := ν) (r := r) (by omega)
          have hws := zws_at (G := G) hl h1
          rw [zae_b h20] at hws
          rw [zva_dyn h0]
          exact va_bald hx hb E.1 hP _ 1 hws rfl hin hd K
        · obtain ⟨h0, h1⟩ := zsta (xs := G.2.2.2.2.2) (ν := ν) (r := r) hw (by omega) (by omega)
          have hzs := E.2.2.2.2.2.1 r _ h1
          have he : (zen (zm0 G.2.2.2.2.2 ++ ν) r).1 = 31 := h30
          unfold zs1 at hzs
          rw [if_neg (by omega), if_neg (by omega), if_neg (by omega), if_pos he] at hzs
          rw [zva_sta h0 (zno_uk h1 (by omega))]
          exact va_tb hx hb hzs X.2.1 hin rfl hd K
      · cases hz
    | 2, hok, hz =>
      have hd := zdec_ok hok
      rw [if_neg (by decide), if_neg (by decide), if_pos rfl] at hz
      split at hz
      · rename_i hc
        obtain ⟨htag, hin⟩ := hc
        cases hz
        have K := kk AL H locs ls (zex AL) (zst_put X (zpush (v := .long _) trivial hst))
        obtain ⟨h0, h1, h2⟩ := zdyn (xs := G.2.2.2.2.2) (ν := ν) (r := r) (by omega)
        have hws := zws_at (G := G) hl h1
        rw [zae_l htag] at hws
        rw [zva_dyn h0]
        exact va_lald hx hb E.1 hP _ 2 hws rfl hin hd K
      · cases hz
    | 3, hok, hz =>
      have hd := zdec_ok hok
      rw [if_neg (by decide), if_neg (by decide), if_neg (by decide)] at hz
      split at hz
      · rename_i hc
        obtain ⟨htag, hin⟩ := hc
        cases hz
        have hR := X.1
        have hrf : ∀ j q, zgr (zm0 G.2.2.2.2.2 ++ ν) r j = some q → q ≠ zUK := fun j q hq => (hR.ref hq).2
        have hpush : zvw (zm0 G.2.2.2.2.2 ++ ν).length (va_rf (zgr (zm0 G.2.2.2.2.2 ++ ν) r j.toNatClampNeg)) := by
          cases hq : zgr (zm0 G.2.2.2.2.2 ++ ν) r j.toNatClampNeg with
          | none => trivial
          | some q => exact (hR.ref hq).1
        have K := kk AL H locs ls (zex AL) (zst_put X (zpush hpush hst))
        have K : W p l e R s m args below meth c H locs c0 sl Q (F0 m (pc + 1) ls (zva G AL (va_rf (zgr (zm0 G.2.2.2.2.2 ++ ν) r j.toNatClampNeg)) :: st1.map (zva G AL))) := K
        rw [zva_rf (fun q hq => hrf _ q hq)] at K
        by_cases hdy : 23 ≤ ztg (zm0 G.2.2.2.2.2 ++ ν) r ∧ ztg (zm0 G.2.2.2.2.2 ++ ν) r < 28
        · obtain ⟨h0, h1, h2⟩ := zdyn (xs := G.2.2.2.2.2) (ν := ν) (r := r) (by omega)
          have hws := zws_at (G := G) hl h1
          rw [zae_r rfl hdy.1 hdy.2] at hws
          rw [zva_dyn h0]
          exact va_aldq hx hb E.1 hP _ _ hws (zty_at G _ hdy.1 hdy.2) hin hd K
        · have htag : ztg (zm0 G.2.2.2.2.2 ++ ν) r = 32 ∨ ztg (zm0 G.2.2.2.2.2 ++ ν) r = 35 := by omega
          obtain ⟨h0, h1⟩ := zsta (xs := G.2.2.2.2.2) (ν := ν) (r := r) hw (by omega) (by omega)
          have hzs := E.2.2.2.2.2.1 r _ h1
          have hm := zmap_sta (G := G) (AL := AL) (j := j.toNatClampNeg) h1
          have K : W p l e R s m args below meth c H locs c0 sl Q (F0 m (pc + 1) ls (va_rf (((zen (zm0 G.2.2.2.2.2 ++ ν) r).2.2.1.getD j.toNatClampNeg none).map (zaq G AL)) :: st1.map (zva G AL))) := K
          rw [hm] at K
          unfold zs1 at hzs
          rcases htag with h | h
          · have he : (zen (zm0 G.2.2.2.2.2 ++ ν) r).1 = 32 := h
            rw [if_neg (by omega), if_neg (by omega), if_neg (by omega), if_neg (by omega), if_pos he] at hzs
            rw [zva_sta h0 (zno_uk h1 (by omega))]
            exact vb_tq hx hb hzs X.2.1 hin rfl hd K
          · have he : (zen (zm0 G.2.2.2.2.2 ++ ν) r).1 = 35 := h
            rw [if_neg (by omega), if_neg (by omega), if_neg (by omega), if_neg (by omega), if_neg (by omega), if_pos he] at hzs
            rw [zva_sta h0 (zno_uk h1 (by omega))]
            exact vb_tq hx hb hzs X.2.1 hin rfl hd K
      · cases hz
  · cases hz
set_option maxHeartbeats 1000000 in
theorem z28 (C : zCtx p s m args meth c cc nL own) (E : zEnv G s) (X : zSt G nL s AL (pc, L, st, c0, sl, μ) H locs ls) (hok : zdec cc pc .arraylength 1 = true)
    (hz : zo28 (pc, L, st, c0, sl, μ) = some (.inl S')) (kk : zKK p l e R s m args below meth c Q G nL AL S') : zWW p l e R s m args below meth c Q G AL (pc, L, st, c0, sl, μ) H locs ls := by
  obtain ⟨hx, hb, -⟩ := C
  have hd := zdec_ok hok
  unfold zo28 at hz
  split at hz
  · rename_i pc1 L1 r st1 c1 sl1 μ1 heq
    cases heq
    split at hz
    · rename_i n hn
      cases hz
      obtain ⟨ν, rfl, hl, hP, hD, hw⟩ := id X.1
      have K := kk AL H locs ls (zex AL) (zst_put X (zpush (v := .int _) trivial (zst_pop X)))
      show W p l e R s m args below meth c H locs c0 sl Q (F0 m pc ls (zva G AL (.ref r) :: st1.map (zva G AL)))
      unfold zal at hn
      dsimp only at hn
      by_cases hs : 30 ≤ ztg (zm0 G.2.2.2.2.2 ++ ν) r
      · have h99 : ztg (zm0 G.2.2.2.2.2 ++ ν) r ≠ 99 := by
          intro h
          rw [h] at hn
          simp at hn
        obtain ⟨h0, h1⟩ := zsta (xs := G.2.2.2.2.2) (ν := ν) (r := r) hw hs h99
        have hzs := E.2.2.2.2.2.1 r _ h1
        rw [zva_sta h0 (zno_uk h1 h99)]
        unfold zs1 at hzs
        split at hn
        · rename_i ht
          cases hn
          by_cases h30 : (zen (zm0 G.2.2.2.2.2 ++ ν) r).1 = 30
          · rw [if_neg (by omega), if_neg (by omega), if_pos h30] at hzs
            exact va_tlen hx hb hzs X.2.1 rfl hd K
          · have h31 : (zen (zm0 G.2.2.2.2.2 ++ ν) r).1 = 31 := by
              unfold ztg at hs ht
              omega
            rw [if_neg (by omega), if_neg (by omega), if_neg (by omega), if_pos h31] at hzs
            exact va_tlen hx hb hzs X.2.1 rfl hd K
        · split at hn
          · omega
          · split at hn
            · rename_i ht
              cases hn
              by_cases h32 : (zen (zm0 G.2.2.2.2.2 ++ ν) r).1 = 32
              · rw [if_neg (by omega), if_neg (by omega), if_neg (by omega), if_neg (by omega), if_pos h32] at hzs
                exact va_tlen hx hb hzs X.2.1 rfl hd K
              · have h35 : (zen (zm0 G.2.2.2.2.2 ++ ν) r).1 = 35 := by
                  unfold ztg at hs ht
                  omega
                rw [if_neg (by omega), if_neg (by omega), if_neg (by omega), if_neg (by omega), if_neg (by omega), if_pos h35] at hzs
                exact va_tlen hx hb hzs X.2.1 rfl hd K
            · cases hn
      · have hdt : 20 ≤ ztg (zm0 G.2.2.2.2.2 ++ ν) r ∧ ztg (zm0 G.2.2.2.2.2 ++ ν) r < 28 := by
          split at hn
          · omega
          · split at hn
            · omega
            · split at hn
              · omega
              · cases hn
        obtain ⟨h0, h1, h2⟩ := zdyn (xs := G.2.2.2.2.2) (ν := ν) (r := r) (Or.inr hdt)
        have hws := zws_at (G := G) hl h1
        rw [zva_dyn h0]
        split at hn
        · rename_i ht
          cases hn
          by_cases h20 : (zen (zm0 G.2.2.2.2.2 ++ ν) r).1 = 20
          · rw [zae_i h20] at hws
            exact va_alen hx hb E.1 hP _ 0 hws rfl rfl hd K
          · have h21 : (zen (zm0 G.2.2.2.2.2 ++ ν) r).1 = 21 := by
              unfold ztg at hdt ht
              omega
            rw [zae_b h21] at hws
            exact va_alen hx hb E.1 hP _ 1 hws rfl rfl hd K
        · split at hn
          · rename_i ht
            cases hn
            rw [zae_l ht] at hws
            exact va_alen hx hb E.1 hP _ 2 hws rfl rfl hd K
          · split at hn
            · rename_i ht
              cases hn
              have hdy : 23 ≤ ztg (zm0 G.2.2.2.2.2 ++ ν) r ∧ ztg (zm0 G.2.2.2.2.2 ++ ν) r < 28 := by omega
              rw [zae_r rfl hdy.1 hdy.2] at hws
              exact va_alen hx hb E.1 hP _ _ hws (zty_at G _ hdy.1 hdy.2) rfl hd K
            · cases hn
    · cases hz
  · cases hz
end ZSR
