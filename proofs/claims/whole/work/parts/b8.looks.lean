/-! THE REFERENCE'S SECOND LOOK: every token that may stand there -/
theorem c_err {d : Nat} {x u : Nat} {X T J : zFn} {μ : zM} (hX : zMX μ x) (hU : zUU μ x u) {t : Nat} (ht : t < 401) (hV : ∀ j, j ≤ t → zTK X j) (h : zOK X t T) : zden zcds (d + 7) 152 [.ref (x + 0), .int (nI t)] (zwi μ (zfl (zfl J x 6 X) u 17 T)) = some (0, some (.int (zstp X t T).1), 0, 0, zwi μ (zfl (zfl J x 6 X) u 17 (zstp X t T).2)) := by
  rcases h with hr | ⟨hr, hk, l, hl6, hl⟩ | ⟨hr, hk, l, s, hl6, hs6, hl, hs⟩ | ⟨hr, hk, l, s, hl6, hs6, hl, hs⟩ | ⟨hr, hk, l, hl6, hl⟩ | ⟨hr, hk, h, hh6, hh⟩ | ⟨hr, hk, h, hh6, hh⟩ | ⟨hr, p, hp20, hp⟩ | ⟨hr, p, hp20, hp⟩ | ⟨hr, k, hk12, hk⟩ | ⟨hr, k, hk12, hk⟩ | ⟨hr, k, hk12, hk, hr2⟩
  · have e : zstp X t T = (0, T) := by
      unfold zstp
      rw [if_pos hr]
    have h0 : reo0 T X t = 0 := by
      unfold reo0
      split <;> rfl
    have h1 := c_eo0 (d := d + 1) (J := J) (T := T) hX hU ht hV hr
    rw [h0] at h1
    rw [e]
    exact h1
  · have e : zstp X t T = reo1 T X t l := by
      unfold zstp
      rw [if_neg (show ¬ X 5 t = 0 from by rw [hr]; decide), if_pos hr]
      rw [hl, nI_clamp (by omega)]
    rw [e]
    exact c_eo1 (d := d + 1) hX hU ht hV hk hr hl hl6
  · have e : zstp X t T = reo5 T X t l := by
      unfold zstp
      rw [if_neg (show ¬ X 5 t = 0 from by rw [hr]; decide), if_neg (show ¬ X 5 t = 1 from by rw [hr]; decide), if_pos hr]
      rw [(show (T 0 0).toNatClampNeg - 1 = l from by rw [hl, nI_clamp (by omega)]; rfl)]
    rw [e]
    exact c_eo5 (d := d + 1) hX hU ht hV hk hr hl hl6 hs hs6
  · rcases hr with hr | hr
    · have e : zstp X t T = reo6 T X t l s := by
        unfold zstp
        rw [if_neg (show ¬ X 5 t = 0 from by rw [hr]; decide), if_neg (show ¬ X 5 t = 1 from by rw [hr]; decide), if_neg (show ¬ X 5 t = 5 from by rw [hr]; decide), if_pos hr]
        rw [(show (T 0 0).toNatClampNeg - 1 = l from by rw [hl, nI_clamp (by omega)]; rfl), (show (T 1 l).toNatClampNeg - 1 = s from by rw [hs, nI_clamp (by omega)]; rfl)]
      rw [e]
      exact c_eo6 (d := d + 1) hX hU ht hV hk hr hl hl6 hs hs6
    · have e : zstp X t T = reo7 T X t l s := by
        unfold zstp
        rw [if_neg (show ¬ X 5 t = 0 from by rw [hr]; decide), if_neg (show ¬ X 5 t = 1 from by rw [hr]; decide), if_neg (show ¬ X 5 t = 5 from by rw [hr]; decide), if_neg (show ¬ X 5 t = 6 from by rw [hr]; decide), if_pos hr]
        rw [(show (T 0 0).toNatClampNeg - 1 = l from by rw [hl, nI_clamp (by omega)]; rfl), (show (T 1 l).toNatClampNeg - 1 = s from by rw [hs, nI_clamp (by omega)]; rfl)]
      rw [e]
      exact c_eo7 (d := d + 1) hX hU ht hV hk hr hl hl6 hs hs6
  · have e : zstp X t T = reo8 T X t l := by
      unfold zstp
      rw [if_neg (show ¬ X 5 t = 0 from by rw [hr]; decide), if_neg (show ¬ X 5 t = 1 from by rw [hr]; decide), if_neg (show ¬ X 5 t = 5 from by rw [hr]; decide), if_neg (show ¬ X 5 t = 6 from by rw [hr]; decide), if_neg (show ¬ X 5 t = 7 from by rw [hr]; decide), if_pos hr]
      rw [(show (T 0 0).toNatClampNeg - 1 = l from by rw [hl, nI_clamp (by omega)]; rfl)]
    rw [e]
    exact c_eo8 (d := d + 1) hX hU ht hV hk hr hl hl6
  · have e : zstp X t T = reo4 T X t h := by
      unfold zstp
      rw [if_neg (show ¬ X 5 t = 0 from by rw [hr]; decide), if_neg (show ¬ X 5 t = 1 from by rw [hr]; decide), if_neg (show ¬ X 5 t = 5 from by rw [hr]; decide), if_neg (show ¬ X 5 t = 6 from by rw [hr]; decide), if_neg (show ¬ X 5 t = 7 from by rw [hr]; decide), if_neg (show ¬ X 5 t = 8 from by rw [hr]; decide), if_pos hr]
      rw [hh, nI_clamp (by omega)]
    rw [e]
    exact c_eo4 (d := d + 1) hX hU ht hV hk hr hh hh6
  · rcases hr with hr | hr | hr | hr
    · have e : zstp X t T = reo13 T X t h := by
        unfold zstp
        rw [if_neg (show ¬ X 5 t = 0 from by rw [hr]; decide), if_neg (show ¬ X 5 t = 1 from by rw [hr]; decide), if_neg (show ¬ X 5 t = 5 from by rw [hr]; decide), if_neg (show ¬ X 5 t = 6 from by rw [hr]; decide), if_neg (show ¬ X 5 t = 7 from by rw [hr]; decide), if_neg (show ¬ X 5 t = 8 from by rw [hr]; decide), if_neg (show ¬ X 5 t = 4 from by rw [hr]; decide), if_pos hr]
        rw [(show (T 0 2).toNatClampNeg - 1 = h from by rw [hh, nI_clamp (by omega)]; rfl)]
      rw [e]
      exact c_eo13 (d := d + 1) hX hU ht hV hk hr hh hh6
    · have e : zstp X t T = reo14 T X t h := by
        unfold zstp
        rw [if_neg (show ¬ X 5 t = 0 from by rw [hr]; decide), if_neg (show ¬ X 5 t = 1 from by rw [hr]; decide), if_neg (show ¬ X 5 t = 5 from by rw [hr]; decide), if_neg (show ¬ X 5 t = 6 from by rw [hr]; decide), if_neg (show ¬ X 5 t = 7 from by rw [hr]; decide), if_neg (show ¬ X 5 t = 8 from by rw [hr]; decide), if_neg (show ¬ X 5 t = 4 from by rw [hr]; decide), if_neg (show ¬ X 5 t = 13 from by rw [hr]; decide), if_pos hr]
        rw [(show (T 0 2).toNatClampNeg - 1 = h from by rw [hh, nI_clamp (by omega)]; rfl)]
      rw [e]
      exact c_eo14 (d := d + 1) hX hU ht hV hk hr hh hh6
    · have e : zstp X t T = reo15 T X t h := by
        unfold zstp
        rw [if_neg (show ¬ X 5 t = 0 from by rw [hr]; decide), if_neg (show ¬ X 5 t = 1 from by rw [hr]; decide), if_neg (show ¬ X 5 t = 5 from by rw [hr]; decide), if_neg (show ¬ X 5 t = 6 from by rw [hr]; decide), if_neg (show ¬ X 5 t = 7 from by rw [hr]; decide), if_neg (show ¬ X 5 t = 8 from by rw [hr]; decide), if_neg (show ¬ X 5 t = 4 from by rw [hr]; decide), if_neg (show ¬ X 5 t = 13 from by rw [hr]; decide), if_neg (show ¬ X 5 t = 14 from by rw [hr]; decide), if_pos hr]
        rw [(show (T 0 2).toNatClampNeg - 1 = h from by rw [hh, nI_clamp (by omega)]; rfl)]
      rw [e]
      exact c_eo15 (d := d + 1) hX hU ht hV hk hr hh hh6
    · have e : zstp X t T = reo16 T X t h := by
        unfold zstp
        rw [if_neg (show ¬ X 5 t = 0 from by rw [hr]; decide), if_neg (show ¬ X 5 t = 1 from by rw [hr]; decide), if_neg (show ¬ X 5 t = 5 from by rw [hr]; decide), if_neg (show ¬ X 5 t = 6 from by rw [hr]; decide), if_neg (show ¬ X 5 t = 7 from by rw [hr]; decide), if_neg (show ¬ X 5 t = 8 from by rw [hr]; decide), if_neg (show ¬ X 5 t = 4 from by rw [hr]; decide), if_neg (show ¬ X 5 t = 13 from by rw [hr]; decide), if_neg (show ¬ X 5 t = 14 from by rw [hr]; decide), if_neg (show ¬ X 5 t = 15 from by rw [hr]; decide), if_pos hr]
        rw [(show (T 0 2).toNatClampNeg - 1 = h from by rw [hh, nI_clamp (by omega)]; rfl)]
      rw [e]
      exact c_eo16 (d := d + 1) hX hU ht hV hk hr hh hh6
  · have e : zstp X t T = rep2 T X t 0 p := by
      unfold zstp
      rw [if_neg (show ¬ X 5 t = 0 from by rw [hr]; decide), if_neg (show ¬ X 5 t = 1 from by rw [hr]; decide), if_neg (show ¬ X 5 t = 5 from by rw [hr]; decide), if_neg (show ¬ X 5 t = 6 from by rw [hr]; decide), if_neg (show ¬ X 5 t = 7 from by rw [hr]; decide), if_neg (show ¬ X 5 t = 8 from by rw [hr]; decide), if_neg (show ¬ X 5 t = 4 from by rw [hr]; decide), if_neg (show ¬ X 5 t = 13 from by rw [hr]; decide), if_neg (show ¬ X 5 t = 14 from by rw [hr]; decide), if_neg (show ¬ X 5 t = 15 from by rw [hr]; decide), if_neg (show ¬ X 5 t = 16 from by rw [hr]; decide), if_pos hr]
      rw [hp, nI_clamp (by omega)]
    rw [e]
    exact c_er2 hX hU ht hV hr (fun v _ => c_ep2 (d := d + 1) (v := v) hX hU ht hV hr hp hp20)
  · rcases hr with hr | hr | ⟨hr, hk⟩ | ⟨hr, hk⟩
    · have e : zstp X t T = rep9 T X t 0 p := by
        unfold zstp
        rw [if_neg (show ¬ X 5 t = 0 from by rw [hr]; decide), if_neg (show ¬ X 5 t = 1 from by rw [hr]; decide), if_neg (show ¬ X 5 t = 5 from by rw [hr]; decide), if_neg (show ¬ X 5 t = 6 from by rw [hr]; decide), if_neg (show ¬ X 5 t = 7 from by rw [hr]; decide), if_neg (show ¬ X 5 t = 8 from by rw [hr]; decide), if_neg (show ¬ X 5 t = 4 from by rw [hr]; decide), if_neg (show ¬ X 5 t = 13 from by rw [hr]; decide), if_neg (show ¬ X 5 t = 14 from by rw [hr]; decide), if_neg (show ¬ X 5 t = 15 from by rw [hr]; decide), if_neg (show ¬ X 5 t = 16 from by rw [hr]; decide), if_neg (show ¬ X 5 t = 2 from by rw [hr]; decide), if_pos hr]
        rw [(show (T 0 1).toNatClampNeg - 1 = p from by rw [hp, nI_clamp (by omega)]; rfl)]
      rw [e]
      exact c_er9 hX hU ht hV hr (fun v _ => c_ep9 (d := d + 1) (v := v) hX hU ht hV hr hp hp20)
    · have e : zstp X t T = rep10 T X t 0 p := by
        unfold zstp
        rw [if_neg (show ¬ X 5 t = 0 from by rw [hr]; decide), if_neg (show ¬ X 5 t = 1 from by rw [hr]; decide), if_neg (show ¬ X 5 t = 5 from by rw [hr]; decide), if_neg (show ¬ X 5 t = 6 from by rw [hr]; decide), if_neg (show ¬ X 5 t = 7 from by rw [hr]; decide), if_neg (show ¬ X 5 t = 8 from by rw [hr]; decide), if_neg (show ¬ X 5 t = 4 from by rw [hr]; decide), if_neg (show ¬ X 5 t = 13 from by rw [hr]; decide), if_neg (show ¬ X 5 t = 14 from by rw [hr]; decide), if_neg (show ¬ X 5 t = 15 from by rw [hr]; decide), if_neg (show ¬ X 5 t = 16 from by rw [hr]; decide), if_neg (show ¬ X 5 t = 2 from by rw [hr]; decide), if_neg (show ¬ X 5 t = 9 from by rw [hr]; decide), if_pos hr]
        rw [(show (T 0 1).toNatClampNeg - 1 = p from by rw [hp, nI_clamp (by omega)]; rfl)]
      rw [e]
      exact c_er10 hX hU ht hV hr (fun v _ => c_ep10 (d := d + 1) (v := v) hX hU ht hV hr hp hp20)
    · have e : zstp X t T = rep11 T X t (rnoL X t (rmn X t) 0 0) p := by
        unfold zstp
        rw [if_neg (show ¬ X 5 t = 0 from by rw [hr]; decide), if_neg (show ¬ X 5 t = 1 from by rw [hr]; decide), if_neg (show ¬ X 5 t = 5 from by rw [hr]; decide), if_neg (show ¬ X 5 t = 6 from by rw [hr]; decide), if_neg (show ¬ X 5 t = 7 from by rw [hr]; decide), if_neg (show ¬ X 5 t = 8 from by rw [hr]; decide), if_neg (show ¬ X 5 t = 4 from by rw [hr]; decide), if_neg (show ¬ X 5 t = 13 from by rw [hr]; decide), if_neg (show ¬ X 5 t = 14 from by rw [hr]; decide), if_neg (show ¬ X 5 t = 15 from by rw [hr]; decide), if_neg (show ¬ X 5 t = 16 from by rw [hr]; decide), if_neg (show ¬ X 5 t = 2 from by rw [hr]; decide), if_neg (show ¬ X 5 t = 9 from by rw [hr]; decide), if_neg (show ¬ X 5 t = 10 from by rw [hr]; decide), if_pos hr]
        rw [(show (T 0 1).toNatClampNeg - 1 = p from by rw [hp, nI_clamp (by omega)]; rfl)]
      rw [e]
      exact c_er11 hX hU ht hV hr (fun v hv => by rw [hv hk]; exact c_ep11 (d := d + 1) hX hU ht hV hr hp hp20)
    · have e : zstp X t T = rep12 T X t (rnoL X t (rmn X t) 0 0) p := by
        unfold zstp
        rw [if_neg (show ¬ X 5 t = 0 from by rw [hr]; decide), if_neg (show ¬ X 5 t = 1 from by rw [hr]; decide), if_neg (show ¬ X 5 t = 5 from by rw [hr]; decide), if_neg (show ¬ X 5 t = 6 from by rw [hr]; decide), if_neg (show ¬ X 5 t = 7 from by rw [hr]; decide), if_neg (show ¬ X 5 t = 8 from by rw [hr]; decide), if_neg (show ¬ X 5 t = 4 from by rw [hr]; decide), if_neg (show ¬ X 5 t = 13 from by rw [hr]; decide), if_neg (show ¬ X 5 t = 14 from by rw [hr]; decide), if_neg (show ¬ X 5 t = 15 from by rw [hr]; decide), if_neg (show ¬ X 5 t = 16 from by rw [hr]; decide), if_neg (show ¬ X 5 t = 2 from by rw [hr]; decide), if_neg (show ¬ X 5 t = 9 from by rw [hr]; decide), if_neg (show ¬ X 5 t = 10 from by rw [hr]; decide), if_neg (show ¬ X 5 t = 11 from by rw [hr]; decide), if_pos hr]
        rw [(show (T 0 1).toNatClampNeg - 1 = p from by rw [hp, nI_clamp (by omega)]; rfl)]
      rw [e]
      exact c_er12 hX hU ht hV hr (fun v hv => by rw [hv hk]; exact c_ep12 (d := d + 1) hX hU ht hV hr hp hp20)
  · have e : zstp X t T = rep3 T X t 0 k := by
      unfold zstp
      rw [if_neg (show ¬ X 5 t = 0 from by rw [hr]; decide), if_neg (show ¬ X 5 t = 1 from by rw [hr]; decide), if_neg (show ¬ X 5 t = 5 from by rw [hr]; decide), if_neg (show ¬ X 5 t = 6 from by rw [hr]; decide), if_neg (show ¬ X 5 t = 7 from by rw [hr]; decide), if_neg (show ¬ X 5 t = 8 from by rw [hr]; decide), if_neg (show ¬ X 5 t = 4 from by rw [hr]; decide), if_neg (show ¬ X 5 t = 13 from by rw [hr]; decide), if_neg (show ¬ X 5 t = 14 from by rw [hr]; decide), if_neg (show ¬ X 5 t = 15 from by rw [hr]; decide), if_neg (show ¬ X 5 t = 16 from by rw [hr]; decide), if_neg (show ¬ X 5 t = 2 from by rw [hr]; decide), if_neg (show ¬ X 5 t = 9 from by rw [hr]; decide), if_neg (show ¬ X 5 t = 10 from by rw [hr]; decide), if_neg (show ¬ X 5 t = 11 from by rw [hr]; decide), if_neg (show ¬ X 5 t = 12 from by rw [hr]; decide), if_pos hr]
      rw [hk, nI_clamp (by omega)]
    rw [e]
    exact c_er3 hX hU ht hV hr (fun v _ => c_ep3 (d := d + 1) (v := v) hX hU ht hV hr hk hk12)
  · have e : zstp X t T = rep17 T X t 0 k := by
      unfold zstp
      rw [if_neg (show ¬ X 5 t = 0 from by rw [hr]; decide), if_neg (show ¬ X 5 t = 1 from by rw [hr]; decide), if_neg (show ¬ X 5 t = 5 from by rw [hr]; decide), if_neg (show ¬ X 5 t = 6 from by rw [hr]; decide), if_neg (show ¬ X 5 t = 7 from by rw [hr]; decide), if_neg (show ¬ X 5 t = 8 from by rw [hr]; decide), if_neg (show ¬ X 5 t = 4 from by rw [hr]; decide), if_neg (show ¬ X 5 t = 13 from by rw [hr]; decide), if_neg (show ¬ X 5 t = 14 from by rw [hr]; decide), if_neg (show ¬ X 5 t = 15 from by rw [hr]; decide), if_neg (show ¬ X 5 t = 16 from by rw [hr]; decide), if_neg (show ¬ X 5 t = 2 from by rw [hr]; decide), if_neg (show ¬ X 5 t = 9 from by rw [hr]; decide), if_neg (show ¬ X 5 t = 10 from by rw [hr]; decide), if_neg (show ¬ X 5 t = 11 from by rw [hr]; decide), if_neg (show ¬ X 5 t = 12 from by rw [hr]; decide), if_neg (show ¬ X 5 t = 3 from by rw [hr]; decide), if_pos hr]
      rw [(show (T 0 3).toNatClampNeg - 1 = k from by rw [hk, nI_clamp (by omega)]; rfl)]
    rw [e]
    exact c_er17 hX hU ht hV hr (fun v _ => c_ep17 (d := d + 1) (v := v) hX hU ht hV hr hk hk12)
  · rcases hr2 with hn | ⟨hr, p, j, hp20, hp, hj6, hs, hz⟩ | ⟨hr, p, j, z, q0, hp20, hp, hj6, hs, hz20, hz, hf, hq0, hq20⟩
    · rcases hr with hr | hr
      · have e : zstp X t T = (3, T) := by
          unfold zstp
          rw [if_neg (show ¬ X 5 t = 0 from by rw [hr]; decide), if_neg (show ¬ X 5 t = 1 from by rw [hr]; decide), if_neg (show ¬ X 5 t = 5 from by rw [hr]; decide), if_neg (show ¬ X 5 t = 6 from by rw [hr]; decide), if_neg (show ¬ X 5 t = 7 from by rw [hr]; decide), if_neg (show ¬ X 5 t = 8 from by rw [hr]; decide), if_neg (show ¬ X 5 t = 4 from by rw [hr]; decide), if_neg (show ¬ X 5 t = 13 from by rw [hr]; decide), if_neg (show ¬ X 5 t = 14 from by rw [hr]; decide), if_neg (show ¬ X 5 t = 15 from by rw [hr]; decide), if_neg (show ¬ X 5 t = 16 from by rw [hr]; decide), if_neg (show ¬ X 5 t = 2 from by rw [hr]; decide), if_neg (show ¬ X 5 t = 9 from by rw [hr]; decide), if_neg (show ¬ X 5 t = 10 from by rw [hr]; decide), if_neg (show ¬ X 5 t = 11 from by rw [hr]; decide), if_neg (show ¬ X 5 t = 12 from by rw [hr]; decide), if_neg (show ¬ X 5 t = 3 from by rw [hr]; decide), if_neg (show ¬ X 5 t = 17 from by rw [hr]; decide), if_pos hn]
        rw [e]
        exact c_er18 hX hU ht hV hr (fun v _ => c_eq18 hX hU ht hV hr hk (c_ecn (d := d) hX hU ht hV hn))
      · have e : zstp X t T = (3, T) := by
          unfold zstp
          rw [if_neg (show ¬ X 5 t = 0 from by rw [hr]; decide), if_neg (show ¬ X 5 t = 1 from by rw [hr]; decide), if_neg (show ¬ X 5 t = 5 from by rw [hr]; decide), if_neg (show ¬ X 5 t = 6 from by rw [hr]; decide), if_neg (show ¬ X 5 t = 7 from by rw [hr]; decide), if_neg (show ¬ X 5 t = 8 from by rw [hr]; decide), if_neg (show ¬ X 5 t = 4 from by rw [hr]; decide), if_neg (show ¬ X 5 t = 13 from by rw [hr]; decide), if_neg (show ¬ X 5 t = 14 from by rw [hr]; decide), if_neg (show ¬ X 5 t = 15 from by rw [hr]; decide), if_neg (show ¬ X 5 t = 16 from by rw [hr]; decide), if_neg (show ¬ X 5 t = 2 from by rw [hr]; decide), if_neg (show ¬ X 5 t = 9 from by rw [hr]; decide), if_neg (show ¬ X 5 t = 10 from by rw [hr]; decide), if_neg (show ¬ X 5 t = 11 from by rw [hr]; decide), if_neg (show ¬ X 5 t = 12 from by rw [hr]; decide), if_neg (show ¬ X 5 t = 3 from by rw [hr]; decide), if_neg (show ¬ X 5 t = 17 from by rw [hr]; decide), if_pos hn]
        rw [e]
        exact c_er19 hX hU ht hV hr (fun v _ => c_eq19 hX hU ht hV hr hk (c_ecn (d := d) hX hU ht hV hn))
    · have e : zstp X t T = rec18 T X t k j p := by
        unfold zstp
        rw [if_neg (show ¬ X 5 t = 0 from by rw [hr]; decide), if_neg (show ¬ X 5 t = 1 from by rw [hr]; decide), if_neg (show ¬ X 5 t = 5 from by rw [hr]; decide), if_neg (show ¬ X 5 t = 6 from by rw [hr]; decide), if_neg (show ¬ X 5 t = 7 from by rw [hr]; decide), if_neg (show ¬ X 5 t = 8 from by rw [hr]; decide), if_neg (show ¬ X 5 t = 4 from by rw [hr]; decide), if_neg (show ¬ X 5 t = 13 from by rw [hr]; decide), if_neg (show ¬ X 5 t = 14 from by rw [hr]; decide), if_neg (show ¬ X 5 t = 15 from by rw [hr]; decide), if_neg (show ¬ X 5 t = 16 from by rw [hr]; decide), if_neg (show ¬ X 5 t = 2 from by rw [hr]; decide), if_neg (show ¬ X 5 t = 9 from by rw [hr]; decide), if_neg (show ¬ X 5 t = 10 from by rw [hr]; decide), if_neg (show ¬ X 5 t = 11 from by rw [hr]; decide), if_neg (show ¬ X 5 t = 12 from by rw [hr]; decide), if_neg (show ¬ X 5 t = 3 from by rw [hr]; decide), if_neg (show ¬ X 5 t = 17 from by rw [hr]; decide), if_neg (show ¬ rnmL X t 2 t 0 0 = -1 from by rw [hp]; exact nI_m1 hp20), if_pos hr, (show (T 0 3).toNatClampNeg - 1 = k from by rw [hk, nI_clamp (by omega)]; rfl), (show (T 14 k).toNatClampNeg = j from by rw [hs, nI_clamp (by omega)]), (show (rnmL X t 2 t 0 0).toNatClampNeg = p from by rw [hp, nI_clamp (by omega)])]
      rw [e]
      exact c_er18 hX hU ht hV hr (fun v _ => c_eq18 hX hU ht hV hr hk (c_ec18 (d := d) hX hU ht hV hr hp hp20 hk12 hs hj6 hz))
    · have e : zstp X t T = rec19 T X t k j z p q0 := by
        unfold zstp
        rw [if_neg (show ¬ X 5 t = 0 from by rw [hr]; decide), if_neg (show ¬ X 5 t = 1 from by rw [hr]; decide), if_neg (show ¬ X 5 t = 5 from by rw [hr]; decide), if_neg (show ¬ X 5 t = 6 from by rw [hr]; decide), if_neg (show ¬ X 5 t = 7 from by rw [hr]; decide), if_neg (show ¬ X 5 t = 8 from by rw [hr]; decide), if_neg (show ¬ X 5 t = 4 from by rw [hr]; decide), if_neg (show ¬ X 5 t = 13 from by rw [hr]; decide), if_neg (show ¬ X 5 t = 14 from by rw [hr]; decide), if_neg (show ¬ X 5 t = 15 from by rw [hr]; decide), if_neg (show ¬ X 5 t = 16 from by rw [hr]; decide), if_neg (show ¬ X 5 t = 2 from by rw [hr]; decide), if_neg (show ¬ X 5 t = 9 from by rw [hr]; decide), if_neg (show ¬ X 5 t = 10 from by rw [hr]; decide), if_neg (show ¬ X 5 t = 11 from by rw [hr]; decide), if_neg (show ¬ X 5 t = 12 from by rw [hr]; decide), if_neg (show ¬ X 5 t = 3 from by rw [hr]; decide), if_neg (show ¬ X 5 t = 17 from by rw [hr]; decide), if_neg (show ¬ rnmL X t 2 t 0 0 = -1 from by rw [hp]; exact nI_m1 hp20), if_neg (show ¬ X 5 t = 18 from by rw [hr]; decide), (show (T 0 3).toNatClampNeg - 1 = k from by rw [hk, nI_clamp (by omega)]; rfl), (show (T 14 k).toNatClampNeg - 1 = j from by rw [hs, nI_clamp (by omega)]; rfl), (show (T 15 (6 * k + j)).toNatClampNeg = z from by rw [hz, nI_clamp (by omega)]), (show (rnmL X t 2 t 0 0).toNatClampNeg = p from by rw [hp, nI_clamp (by omega)]), (show (T 16 (120 * k + 20 * j)).toNatClampNeg = q0 from by rw [hq0, nI_clamp (by omega)])]
      rw [e]
      refine c_er19 hX hU ht hV hr (fun v _ => c_eq19 hX hU ht hV hr hk ?_)
      rcases Nat.lt_or_ge z 20 with hz2 | hz2
      · exact c_ec19 (d := d) hX hU ht hV hr hp hp20 hk12 hs hj6 hz hz2 hq0 hq20
      · have hz3 : z = 20 := by omega
        subst hz3
        exact c_ec19f (d := d) hX hU ht hV hr hp hp20 hk12 hs hj6 hz hz20 (by decide) hq0 hq20 (fun h => hf rfl h)

