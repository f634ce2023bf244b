/-! THE REFERENCE: is it a text? -/
theorem rop_b (X : zFn) (q z : Int32) : (rop X q z).1 = 0 ∨ (rop X q z).1 = 1 := by
  by_cases hc0 : X 2 (zsf (X 0 3) 401) = q
  · obtain ⟨X1, hX1⟩ : ∃ z_, xat X = z_ := ⟨_, rfl⟩
    by_cases hc2 : X1 2 (zsf (X1 0 3) 401) = 21
    · obtain ⟨X2, hX2⟩ : ∃ z_, xas X1 z = z_ := ⟨_, rfl⟩
      rw [show rop X q z = (1, X2) from by subst hX2 hX1; unfold rop; (try dsimp only); rw [if_pos hc0, if_pos hc2]]; exact Or.inr rfl
    · rw [show rop X q z = (0, X1) from by subst hX1; unfold rop; (try dsimp only); rw [if_pos hc0, if_neg hc2]]; exact Or.inl rfl
  · rw [show rop X q z = (1, X) from by unfold rop; (try dsimp only); rw [if_neg hc0]]; exact Or.inr rfl

theorem zTF_401 {X : zFn} {m : Nat} (h : zTF X m) : zTF X 401 := by
  obtain ⟨e, t, h1, h2, h3, h4, h5⟩ := h
  exact ⟨e, t, h1, h2, h3, h4, by omega⟩

def rll : Nat → zFn → Int32 × zFn
  | 0, X => (0, X)
  | m + 1, X =>
    if X 2 (zsf (X 0 3) 401) = 2 then
      let X1 := xas X 5
      let r2 := rsp X1 6
      if r2.1 = 0 then
        (0, r2.2)
      else
        rll m r2.2
    else
      let r3 := rop X 3 8
      (r3.1, r3.2)

theorem l_rll {d c sl : Nat} {x : Nat} {J : zFn} {μ : zM} (hX : zMX μ x) : ∀ (m : Nat) (X : zFn), zTF X m → zden1 (d + 3) (zden zcds (d + 3)) zc144 (29, [(0, .ref (x + 0))], [], c, sl, zwi μ (zfl J x 6 X)) = some (0, some (.int ((rll m X).1)), c, sl, zwi μ (zfl J x 6 ((rll m X).2)))
  | 0, X, hT => by exact absurd hT zTF_0
  | m + 1, X, hT => by
    refine (ys4 30 (v := .ref (x + 0)) rfl rfl rfl rfl).trans ?_
    refine (ys1 31 (x := 2) rfl rfl rfl).trans ?_
    refine (ys1 32 (x := 5) rfl rfl rfl).trans ?_
    by_cases h32 : X 2 (zsf (X 0 3) 401) = 2
    · refine (yc3 35 rfl rfl (Nat.le_of_ble_eq_true rfl) (Or.inr (by show ztg (zwi _ _) _ = _; rw [ztg_wi]; exact (zFS.tag hX.1 (j := 0) (by decide) rfl))) rfl rfl (c_ea1 hX hT h32)).trans ?_
      generalize hX1 : xas X 5 = X1
      have hTX1 : zTF X1 m := by rw [← hX1]; exact zTF_up hT h32 (by decide) (xas_3 _ _) (xas_2 _ _)
      refine ys17_0 38 rfl rfl (fun h35 => absurd h35 (by decide)) (fun h35 => ?_)
      refine (ys4 39 (v := .ref (x + 0)) rfl rfl rfl rfl).trans ?_
      refine (ys1 41 (x := 6) rfl rfl rfl).trans ?_
      refine (yc2 44 rfl rfl (Nat.le_of_ble_eq_true rfl) (Or.inr (by show ztg (zwi _ _) _ = _; rw [ztg_wi]; exact (zFS.tag hX.1 (j := 0) (by decide) rfl))) rfl rfl (c_rsp hX hTX1)).trans ?_
      generalize hr2 : rsp X1 6 = r2
      have hTr22 : zTF r2.2 m := by rw [← hr2]; exact rsp_T hTX1
      refine ys17_1 47 rfl rfl (fun h44 => ?_) (fun h44 => ?_)
      · refine (ys1 48 (x := 0) rfl rfl rfl).trans ?_
        refine (ys36 rfl (by decide)).trans ?_
        rw [show rll (m + 1) X = (0, r2.2) from by subst hr2 hX1; rw [rll]; (try dsimp only); rw [if_pos h32, if_pos h44]]; (first | done | rfl)
      · rw [show rll (m + 1) X = rll m r2.2 from by subst hr2 hX1; rw [rll]; (try dsimp only); rw [if_pos h32, if_neg h44]]; exact l_rll hX m r2.2 hTr22
    · refine (yc3 35 rfl rfl (Nat.le_of_ble_eq_true rfl) (Or.inr (by show ztg (zwi _ _) _ = _; rw [ztg_wi]; exact (zFS.tag hX.1 (j := 0) (by decide) rfl))) rfl rfl (c_ea0 hX hT h32)).trans ?_
      refine ys17_0 38 rfl rfl (fun h35 => ?_) (fun h35 => absurd (by decide) h35)
      refine (ys4 50 (v := .ref (x + 0)) rfl rfl rfl rfl).trans ?_
      refine (ys1 51 (x := 3) rfl rfl rfl).trans ?_
      refine (ys1 53 (x := 8) rfl rfl rfl).trans ?_
      refine (yc3 56 rfl rfl (Nat.le_of_ble_eq_true rfl) (Or.inr (by show ztg (zwi _ _) _ = _; rw [ztg_wi]; exact (zFS.tag hX.1 (j := 0) (by decide) rfl))) rfl rfl (c_rop hX hT (by decide))).trans ?_
      generalize hr3 : rop X 3 8 = r3
      have hTr32 : zTF r3.2 (m + 1) := by rw [← hr3]; exact rop_T hT
      refine (ys36 rfl (by exact decide_eq_true (by rw [← hr3]; first | exact rop_b _ _ _ | exact rll_b _ _ | exact rle_b _ _))).trans ?_
      rw [show rll (m + 1) X = (r3.1, r3.2) from by subst hr3; rw [rll]; (try dsimp only); rw [if_neg h32]]; (first | done | rfl)

theorem rll_T : ∀ (m : Nat) (X : zFn), zTF X m → zTF (rll m X).2 m
  | 0, X, hT => absurd hT zTF_0
  | m + 1, X, hT => by
    by_cases hc0 : X 2 (zsf (X 0 3) 401) = 2
    · obtain ⟨X1, hX1⟩ : ∃ z_, xas X 5 = z_ := ⟨_, rfl⟩
      have hTX1 : zTF X1 m := by rw [← hX1]; exact zTF_up hT hc0 (by decide) (xas_3 _ _) (xas_2 _ _)
      obtain ⟨r2, hr2⟩ : ∃ z_, rsp X1 6 = z_ := ⟨_, rfl⟩
      have hTr22 : zTF r2.2 m := by rw [← hr2]; exact rsp_T hTX1
      by_cases hc5 : r2.1 = 0
      · rw [show rll (m + 1) X = (0, r2.2) from by subst hr2 hX1; rw [rll]; (try dsimp only); rw [if_pos hc0, if_pos hc5]]; exact zTF_le (hTr22) (by omega)
      · rw [show rll (m + 1) X = rll m r2.2 from by subst hr2 hX1; rw [rll]; (try dsimp only); rw [if_pos hc0, if_neg hc5]]; exact zTF_le (rll_T m _ hTr22) (by omega)
    · obtain ⟨r3, hr3⟩ : ∃ z_, rop X 3 8 = z_ := ⟨_, rfl⟩
      have hTr32 : zTF r3.2 (m + 1) := by rw [← hr3]; exact rop_T hT
      rw [show rll (m + 1) X = (r3.1, r3.2) from by subst hr3; rw [rll]; (try dsimp only); rw [if_neg hc0]]; exact zTF_le (hTr32) (by omega)

theorem rll_b : ∀ (m : Nat) (X : zFn), (rll m X).1 = 0 ∨ (rll m X).1 = 1
  | 0, X => Or.inl (by rw [rll])
  | m + 1, X => by
    by_cases hc0 : X 2 (zsf (X 0 3) 401) = 2
    · obtain ⟨X1, hX1⟩ : ∃ z_, xas X 5 = z_ := ⟨_, rfl⟩
      obtain ⟨r2, hr2⟩ : ∃ z_, rsp X1 6 = z_ := ⟨_, rfl⟩
      by_cases hc3 : r2.1 = 0
      · rw [show rll (m + 1) X = (0, r2.2) from by subst hr2 hX1; rw [rll]; (try dsimp only); rw [if_pos hc0, if_pos hc3]]; exact Or.inl rfl
      · rw [show rll (m + 1) X = rll m r2.2 from by subst hr2 hX1; rw [rll]; (try dsimp only); rw [if_pos hc0, if_neg hc3]]; exact rll_b m _
    · obtain ⟨r3, hr3⟩ : ∃ z_, rop X 3 8 = z_ := ⟨_, rfl⟩
      rw [show rll (m + 1) X = (r3.1, r3.2) from by subst hr3; rw [rll]; (try dsimp only); rw [if_neg hc0]]; exact (by rw [← hr3]; exact rop_b _ _ _)

def rlof (X : zFn) : Int32 × zFn :=
  if X 2 (zsf (X 0 3) 401) = 20 then
    let X1 := xas X 1
    if X1 2 (zsf (X1 0 3) 401) = 1 then
      let X2 := xat X1
      let r3 := rsp X2 6
      if r3.1 = 0 then
        (0, r3.2)
      else
        rll 401 r3.2
    else
      (0, X1)
  else
    (0, X)

theorem c_rlof {d : Nat} {x : Nat} {X J : zFn} {μ : zM} (hX : zMX μ x) {m : Nat} (hT : zTF X m) : zden zcds (d + 4) 144 [.ref (x + 0)] (zwi μ (zfl J x 6 X)) = some (0, some (.int ((rlof X).1)), 0, 0, zwi μ (zfl J x 6 ((rlof X).2))) := by
  refine (zd_in (d := d + 3) (cd := zc144) (nL := 1) (L := [(0, .ref (x + 0))]) rfl (Nat.le_of_ble_eq_true rfl) rfl).trans ?_
  refine (ys4 1 (v := .ref (x + 0)) rfl rfl rfl rfl).trans ?_
  refine (ys1 3 (x := 20) rfl rfl rfl).trans ?_
  refine (ys1 4 (x := 1) rfl rfl rfl).trans ?_
  by_cases h4 : X 2 (zsf (X 0 3) 401) = 20
  · refine (yc3 7 rfl rfl (Nat.le_of_ble_eq_true rfl) (Or.inr (by show ztg (zwi _ _) _ = _; rw [ztg_wi]; exact (zFS.tag hX.1 (j := 0) (by decide) rfl))) rfl rfl (c_ea1 hX hT h4)).trans ?_
    generalize hX1 : xas X 1 = X1
    have hTX1 : zTF X1 m := by rw [← hX1]; exact zTF_w hT h4 (by decide) (xas_3 _ _) (xas_2 _ _)
    refine ys17_0 10 rfl rfl (fun h7 => absurd h7 (by decide)) (fun h7 => ?_)
    refine (ys4 11 (v := .ref (x + 0)) rfl rfl rfl rfl).trans ?_
    refine (ys1 12 (x := 1) rfl rfl rfl).trans ?_
    by_cases h12 : X1 2 (zsf (X1 0 3) 401) = 1
    · refine (yc2 15 rfl rfl (Nat.le_of_ble_eq_true rfl) (Or.inr (by show ztg (zwi _ _) _ = _; rw [ztg_wi]; exact (zFS.tag hX.1 (j := 0) (by decide) rfl))) rfl rfl (c_et1 hX hTX1 h12)).trans ?_
      generalize hX2 : xat X1 = X2
      have hTX2 : zTF X2 m := by rw [← hX2]; exact zTF_w hTX1 h12 (by decide) (xat_3 _) (xat_2 _)
      refine ys17_0 18 rfl rfl (fun h15 => absurd h15 (by decide)) (fun h15 => ?_)
      refine (ys4 19 (v := .ref (x + 0)) rfl rfl rfl rfl).trans ?_
      refine (ys1 21 (x := 6) rfl rfl rfl).trans ?_
      refine (yc2 24 rfl rfl (Nat.le_of_ble_eq_true rfl) (Or.inr (by show ztg (zwi _ _) _ = _; rw [ztg_wi]; exact (zFS.tag hX.1 (j := 0) (by decide) rfl))) rfl rfl (c_rsp hX hTX2)).trans ?_
      generalize hr3 : rsp X2 6 = r3
      have hTr32 : zTF r3.2 m := by rw [← hr3]; exact rsp_T hTX2
      refine ys17_1 27 rfl rfl (fun h24 => ?_) (fun h24 => ?_)
      · refine (ys1 28 (x := 0) rfl rfl rfl).trans ?_
        refine (ys36 rfl (by decide)).trans ?_
        rw [show rlof X = (0, r3.2) from by subst hr3 hX2 hX1; unfold rlof; (try dsimp only); rw [if_pos h4, if_pos h12, if_pos h24]]; (first | done | rfl)
      · rw [show rlof X = rll 401 r3.2 from by subst hr3 hX2 hX1; unfold rlof; (try dsimp only); rw [if_pos h4, if_pos h12, if_neg h24]]; exact l_rll hX 401 _ (zTF_401 hTr32)
    · refine (yc2 15 rfl rfl (Nat.le_of_ble_eq_true rfl) (Or.inr (by show ztg (zwi _ _) _ = _; rw [ztg_wi]; exact (zFS.tag hX.1 (j := 0) (by decide) rfl))) rfl rfl (c_et0 hX hTX1 h12)).trans ?_
      refine ys17_0 18 rfl rfl (fun h15 => ?_) (fun h15 => absurd (by decide) h15)
      refine (ys1 28 (x := 0) rfl rfl rfl).trans ?_
      refine (ys36 rfl (by decide)).trans ?_
      rw [show rlof X = (0, X1) from by subst hX1; unfold rlof; (try dsimp only); rw [if_pos h4, if_neg h12]]; (first | done | rfl)
  · refine (yc3 7 rfl rfl (Nat.le_of_ble_eq_true rfl) (Or.inr (by show ztg (zwi _ _) _ = _; rw [ztg_wi]; exact (zFS.tag hX.1 (j := 0) (by decide) rfl))) rfl rfl (c_ea0 hX hT h4)).trans ?_
    refine ys17_0 10 rfl rfl (fun h7 => ?_) (fun h7 => absurd (by decide) h7)
    refine (ys1 28 (x := 0) rfl rfl rfl).trans ?_
    refine (ys36 rfl (by decide)).trans ?_
    rw [show rlof X = (0, X) from by unfold rlof; (try dsimp only); rw [if_neg h4]]; (first | done | rfl)

def rpig (X : zFn) : Int32 × zFn :=
  if X 2 (zsf (X 0 3) 401) = 20 then
    let X1 := xas X 2
    if X1 2 (zsf (X1 0 3) 401) = 5 then
      let X2 := xat X1
      if X2 2 (zsf (X2 0 3) 401) = 20 then
        let X3 := xas X2 9
        if X3 2 (zsf (X3 0 3) 401) = 6 then
          let X4 := xat X3
          if X4 2 (zsf (X4 0 3) 401) = 20 then
            let X5 := xas X4 10
            let r6 := rop X5 3 11
            if r6.1 = 0 then
              (0, r6.2)
            else
              let r7 := rop r6.2 7 12
              if r7.1 = 0 then
                (0, r7.2)
              else
                (1, r7.2)
          else
            (0, X4)
        else
          let r8 := rop X3 3 11
          if r8.1 = 0 then
            (0, r8.2)
          else
            let r9 := rop r8.2 7 12
            if r9.1 = 0 then
              (0, r9.2)
            else
              (1, r9.2)
      else
        (0, X2)
    else
      (0, X1)
  else
    (0, X)

theorem c_rpig {d : Nat} {x : Nat} {X J : zFn} {μ : zM} (hX : zMX μ x) {m : Nat} (hT : zTF X m) : zden zcds (d + 4) 145 [.ref (x + 0)] (zwi μ (zfl J x 6 X)) = some (0, some (.int ((rpig X).1)), 0, 0, zwi μ (zfl J x 6 ((rpig X).2))) := by
  refine (zd_in (d := d + 3) (cd := zc145) (nL := 1) (L := [(0, .ref (x + 0))]) rfl (Nat.le_of_ble_eq_true rfl) rfl).trans ?_
  refine (ys4 1 (v := .ref (x + 0)) rfl rfl rfl rfl).trans ?_
  refine (ys1 3 (x := 20) rfl rfl rfl).trans ?_
  refine (ys1 4 (x := 2) rfl rfl rfl).trans ?_
  by_cases h4 : X 2 (zsf (X 0 3) 401) = 20
  · refine (yc3 7 rfl rfl (Nat.le_of_ble_eq_true rfl) (Or.inr (by show ztg (zwi _ _) _ = _; rw [ztg_wi]; exact (zFS.tag hX.1 (j := 0) (by decide) rfl))) rfl rfl (c_ea1 hX hT h4)).trans ?_
    generalize hX1 : xas X 2 = X1
    have hTX1 : zTF X1 m := by rw [← hX1]; exact zTF_w hT h4 (by decide) (xas_3 _ _) (xas_2 _ _)
    refine ys17_0 10 rfl rfl (fun h7 => absurd h7 (by decide)) (fun h7 => ?_)
    refine (ys4 11 (v := .ref (x + 0)) rfl rfl rfl rfl).trans ?_
    refine (ys1 12 (x := 5) rfl rfl rfl).trans ?_
    by_cases h12 : X1 2 (zsf (X1 0 3) 401) = 5
    · refine (yc2 15 rfl rfl (Nat.le_of_ble_eq_true rfl) (Or.inr (by show ztg (zwi _ _) _ = _; rw [ztg_wi]; exact (zFS.tag hX.1 (j := 0) (by decide) rfl))) rfl rfl (c_et1 hX hTX1 h12)).trans ?_
      generalize hX2 : xat X1 = X2
      have hTX2 : zTF X2 m := by rw [← hX2]; exact zTF_w hTX1 h12 (by decide) (xat_3 _) (xat_2 _)
      refine ys17_0 18 rfl rfl (fun h15 => absurd h15 (by decide)) (fun h15 => ?_)
      refine (ys4 19 (v := .ref (x + 0)) rfl rfl rfl rfl).trans ?_
      refine (ys1 21 (x := 20) rfl rfl rfl).trans ?_
      refine (ys1 23 (x := 9) rfl rfl rfl).trans ?_
      by_cases h23 : X2 2 (zsf (X2 0 3) 401) = 20
      · refine (yc3 26 rfl rfl (Nat.le_of_ble_eq_true rfl) (Or.inr (by show ztg (zwi _ _) _ = _; rw [ztg_wi]; exact (zFS.tag hX.1 (j := 0) (by decide) rfl))) rfl rfl (c_ea1 hX hTX2 h23)).trans ?_
        generalize hX3 : xas X2 9 = X3
        have hTX3 : zTF X3 m := by rw [← hX3]; exact zTF_w hTX2 h23 (by decide) (xas_3 _ _) (xas_2 _ _)
        refine ys17_1 29 rfl rfl (fun h26 => absurd h26 (by decide)) (fun h26 => ?_)
        refine (ys4 32 (v := .ref (x + 0)) rfl rfl rfl rfl).trans ?_
        refine (ys1 34 (x := 6) rfl rfl rfl).trans ?_
        by_cases h34 : X3 2 (zsf (X3 0 3) 401) = 6
        · refine (yc2 37 rfl rfl (Nat.le_of_ble_eq_true rfl) (Or.inr (by show ztg (zwi _ _) _ = _; rw [ztg_wi]; exact (zFS.tag hX.1 (j := 0) (by decide) rfl))) rfl rfl (c_et1 hX hTX3 h34)).trans ?_
          generalize hX4 : xat X3 = X4
          have hTX4 : zTF X4 m := by rw [← hX4]; exact zTF_w hTX3 h34 (by decide) (xat_3 _) (xat_2 _)
          refine ys17_0 40 rfl rfl (fun h37 => absurd h37 (by decide)) (fun h37 => ?_)
          refine (ys4 41 (v := .ref (x + 0)) rfl rfl rfl rfl).trans ?_
          refine (ys1 43 (x := 20) rfl rfl rfl).trans ?_
          refine (ys1 45 (x := 10) rfl rfl rfl).trans ?_
          by_cases h45 : X4 2 (zsf (X4 0 3) 401) = 20
          · refine (yc3 48 rfl rfl (Nat.le_of_ble_eq_true rfl) (Or.inr (by show ztg (zwi _ _) _ = _; rw [ztg_wi]; exact (zFS.tag hX.1 (j := 0) (by decide) rfl))) rfl rfl (c_ea1 hX hTX4 h45)).trans ?_
            generalize hX5 : xas X4 10 = X5
            have hTX5 : zTF X5 m := by rw [← hX5]; exact zTF_w hTX4 h45 (by decide) (xas_3 _ _) (xas_2 _ _)
            refine ys17_0 51 rfl rfl (fun h48 => absurd h48 (by decide)) (fun h48 => ?_)
            refine (ys4 52 (v := .ref (x + 0)) rfl rfl rfl rfl).trans ?_
            refine (ys1 53 (x := 3) rfl rfl rfl).trans ?_
            refine (ys1 55 (x := 11) rfl rfl rfl).trans ?_
            refine (yc3 58 rfl rfl (Nat.le_of_ble_eq_true rfl) (Or.inr (by show ztg (zwi _ _) _ = _; rw [ztg_wi]; exact (zFS.tag hX.1 (j := 0) (by decide) rfl))) rfl rfl (c_rop hX hTX5 (by decide))).trans ?_
            generalize hr6 : rop X5 3 11 = r6
            have hTr62 : zTF r6.2 m := by rw [← hr6]; exact rop_T hTX5
            refine ys17_0 61 rfl rfl (fun h58 => ?_) (fun h58 => ?_)
            · refine (ys1 77 (x := 0) rfl rfl rfl).trans ?_
              refine (ys36 rfl (by decide)).trans ?_
              rw [show rpig X = (0, r6.2) from by subst hr6 hX5 hX4 hX3 hX2 hX1; unfold rpig; (try dsimp only); rw [if_pos h4, if_pos h12, if_pos h23, if_pos h34, if_pos h45, if_pos h58]]; (first | done | rfl)
            · refine (ys4 62 (v := .ref (x + 0)) rfl rfl rfl rfl).trans ?_
              refine (ys1 64 (x := 7) rfl rfl rfl).trans ?_
              refine (ys1 66 (x := 12) rfl rfl rfl).trans ?_
              refine (yc3 69 rfl rfl (Nat.le_of_ble_eq_true rfl) (Or.inr (by show ztg (zwi _ _) _ = _; rw [ztg_wi]; exact (zFS.tag hX.1 (j := 0) (by decide) rfl))) rfl rfl (c_rop hX hTr62 (by decide))).trans ?_
              generalize hr7 : rop r6.2 7 12 = r7
              have hTr72 : zTF r7.2 m := by rw [← hr7]; exact rop_T hTr62
              refine ys17_0 72 rfl rfl (fun h69 => ?_) (fun h69 => ?_)
              · refine (ys1 77 (x := 0) rfl rfl rfl).trans ?_
                refine (ys36 rfl (by decide)).trans ?_
                rw [show rpig X = (0, r7.2) from by subst hr7 hr6 hX5 hX4 hX3 hX2 hX1; unfold rpig; (try dsimp only); rw [if_pos h4, if_pos h12, if_pos h23, if_pos h34, if_pos h45, if_neg h58, if_pos h69]]; (first | done | rfl)
              · refine (ys1 73 (x := 1) rfl rfl rfl).trans ?_
                refine (ys19 rfl).trans ?_
                refine (ys36 rfl (by decide)).trans ?_
                rw [show rpig X = (1, r7.2) from by subst hr7 hr6 hX5 hX4 hX3 hX2 hX1; unfold rpig; (try dsimp only); rw [if_pos h4, if_pos h12, if_pos h23, if_pos h34, if_pos h45, if_neg h58, if_neg h69]]; (first | done | rfl)
          · refine (yc3 48 rfl rfl (Nat.le_of_ble_eq_true rfl) (Or.inr (by show ztg (zwi _ _) _ = _; rw [ztg_wi]; exact (zFS.tag hX.1 (j := 0) (by decide) rfl))) rfl rfl (c_ea0 hX hTX4 h45)).trans ?_
            refine ys17_0 51 rfl rfl (fun h48 => ?_) (fun h48 => absurd (by decide) h48)
            refine (ys1 77 (x := 0) rfl rfl rfl).trans ?_
            refine (ys36 rfl (by decide)).trans ?_
            rw [show rpig X = (0, X4) from by subst hX4 hX3 hX2 hX1; unfold rpig; (try dsimp only); rw [if_pos h4, if_pos h12, if_pos h23, if_pos h34, if_neg h45]]; (first | done | rfl)
        · refine (yc2 37 rfl rfl (Nat.le_of_ble_eq_true rfl) (Or.inr (by show ztg (zwi _ _) _ = _; rw [ztg_wi]; exact (zFS.tag hX.1 (j := 0) (by decide) rfl))) rfl rfl (c_et0 hX hTX3 h34)).trans ?_
          refine ys17_0 40 rfl rfl (fun h37 => ?_) (fun h37 => absurd (by decide) h37)
          refine (ys4 52 (v := .ref (x + 0)) rfl rfl rfl rfl).trans ?_
          refine (ys1 53 (x := 3) rfl rfl rfl).trans ?_
          refine (ys1 55 (x := 11) rfl rfl rfl).trans ?_
          refine (yc3 58 rfl rfl (Nat.le_of_ble_eq_true rfl) (Or.inr (by show ztg (zwi _ _) _ = _; rw [ztg_wi]; exact (zFS.tag hX.1 (j := 0) (by decide) rfl))) rfl rfl (c_rop hX hTX3 (by decide))).trans ?_
          generalize hr8 : rop X3 3 11 = r8
          have hTr82 : zTF r8.2 m := by rw [← hr8]; exact rop_T hTX3
          refine ys17_0 61 rfl rfl (fun h58 => ?_) (fun h58 => ?_)
          · refine (ys1 77 (x := 0) rfl rfl rfl).trans ?_
            refine (ys36 rfl (by decide)).trans ?_
            rw [show rpig X = (0, r8.2) from by subst hr8 hX3 hX2 hX1; unfold rpig; (try dsimp only); rw [if_pos h4, if_pos h12, if_pos h23, if_neg h34, if_pos h58]]; (first | done | rfl)
          · refine (ys4 62 (v := .ref (x + 0)) rfl rfl rfl rfl).trans ?_
            refine (ys1 64 (x := 7) rfl rfl rfl).trans ?_
            refine (ys1 66 (x := 12) rfl rfl rfl).trans ?_
            refine (yc3 69 rfl rfl (Nat.le_of_ble_eq_true rfl) (Or.inr (by show ztg (zwi _ _) _ = _; rw [ztg_wi]; exact (zFS.tag hX.1 (j := 0) (by decide) rfl))) rfl rfl (c_rop hX hTr82 (by decide))).trans ?_
            generalize hr9 : rop r8.2 7 12 = r9
            have hTr92 : zTF r9.2 m := by rw [← hr9]; exact rop_T hTr82
            refine ys17_0 72 rfl rfl (fun h69 => ?_) (fun h69 => ?_)
            · refine (ys1 77 (x := 0) rfl rfl rfl).trans ?_
              refine (ys36 rfl (by decide)).trans ?_
              rw [show rpig X = (0, r9.2) from by subst hr9 hr8 hX3 hX2 hX1; unfold rpig; (try dsimp only); rw [if_pos h4, if_pos h12, if_pos h23, if_neg h34, if_neg h58, if_pos h69]]; (first | done | rfl)
            · refine (ys1 73 (x := 1) rfl rfl rfl).trans ?_
              refine (ys19 rfl).trans ?_
              refine (ys36 rfl (by decide)).trans ?_
              rw [show rpig X = (1, r9.2) from by subst hr9 hr8 hX3 hX2 hX1; unfold rpig; (try dsimp only); rw [if_pos h4, if_pos h12, if_pos h23, if_neg h34, if_neg h58, if_neg h69]]; (first | done | rfl)
      · refine (yc3 26 rfl rfl (Nat.le_of_ble_eq_true rfl) (Or.inr (by show ztg (zwi _ _) _ = _; rw [ztg_wi]; exact (zFS.tag hX.1 (j := 0) (by decide) rfl))) rfl rfl (c_ea0 hX hTX2 h23)).trans ?_
        refine ys17_1 29 rfl rfl (fun h26 => ?_) (fun h26 => absurd (by decide) h26)
        refine (ys1 30 (x := 0) rfl rfl rfl).trans ?_
        refine (ys36 rfl (by decide)).trans ?_
        rw [show rpig X = (0, X2) from by subst hX2 hX1; unfold rpig; (try dsimp only); rw [if_pos h4, if_pos h12, if_neg h23]]; (first | done | rfl)
    · refine (yc2 15 rfl rfl (Nat.le_of_ble_eq_true rfl) (Or.inr (by show ztg (zwi _ _) _ = _; rw [ztg_wi]; exact (zFS.tag hX.1 (j := 0) (by decide) rfl))) rfl rfl (c_et0 hX hTX1 h12)).trans ?_
      refine ys17_0 18 rfl rfl (fun h15 => ?_) (fun h15 => absurd (by decide) h15)
      refine (ys1 30 (x := 0) rfl rfl rfl).trans ?_
      refine (ys36 rfl (by decide)).trans ?_
      rw [show rpig X = (0, X1) from by subst hX1; unfold rpig; (try dsimp only); rw [if_pos h4, if_neg h12]]; (first | done | rfl)
  · refine (yc3 7 rfl rfl (Nat.le_of_ble_eq_true rfl) (Or.inr (by show ztg (zwi _ _) _ = _; rw [ztg_wi]; exact (zFS.tag hX.1 (j := 0) (by decide) rfl))) rfl rfl (c_ea0 hX hT h4)).trans ?_
    refine ys17_0 10 rfl rfl (fun h7 => ?_) (fun h7 => absurd (by decide) h7)
    refine (ys1 30 (x := 0) rfl rfl rfl).trans ?_
    refine (ys36 rfl (by decide)).trans ?_
    rw [show rpig X = (0, X) from by unfold rpig; (try dsimp only); rw [if_neg h4]]; (first | done | rfl)

def rhaw (X : zFn) : Int32 × zFn :=
  if X 2 (zsf (X 0 3) 401) = 1 then
    let X1 := xat X
    let r2 := rsp X1 13
    if r2.1 = 0 then
      (0, r2.2)
    else
      if r2.2 2 (zsf (r2.2 0 3) 401) = 9 then
        let X3 := xat r2.2
        if X3 2 (zsf (X3 0 3) 401) = 21 then
          let X4 := xas X3 15
          let r5 := rop X4 10 16
          if r5.1 = 0 then
            (0, r5.2)
          else
            (1, r5.2)
        else
          (0, X3)
      else
        (0, r2.2)
  else
    (0, X)

theorem c_rhaw {d : Nat} {x : Nat} {X J : zFn} {μ : zM} (hX : zMX μ x) {m : Nat} (hT : zTF X m) : zden zcds (d + 4) 146 [.ref (x + 0)] (zwi μ (zfl J x 6 X)) = some (0, some (.int ((rhaw X).1)), 0, 0, zwi μ (zfl J x 6 ((rhaw X).2))) := by
  refine (zd_in (d := d + 3) (cd := zc146) (nL := 1) (L := [(0, .ref (x + 0))]) rfl (Nat.le_of_ble_eq_true rfl) rfl).trans ?_
  refine (ys4 1 (v := .ref (x + 0)) rfl rfl rfl rfl).trans ?_
  refine (ys1 2 (x := 1) rfl rfl rfl).trans ?_
  by_cases h2 : X 2 (zsf (X 0 3) 401) = 1
  · refine (yc2 5 rfl rfl (Nat.le_of_ble_eq_true rfl) (Or.inr (by show ztg (zwi _ _) _ = _; rw [ztg_wi]; exact (zFS.tag hX.1 (j := 0) (by decide) rfl))) rfl rfl (c_et1 hX hT h2)).trans ?_
    generalize hX1 : xat X = X1
    have hTX1 : zTF X1 m := by rw [← hX1]; exact zTF_w hT h2 (by decide) (xat_3 _) (xat_2 _)
    refine ys17_0 8 rfl rfl (fun h5 => absurd h5 (by decide)) (fun h5 => ?_)
    refine (ys4 9 (v := .ref (x + 0)) rfl rfl rfl rfl).trans ?_
    refine (ys1 11 (x := 13) rfl rfl rfl).trans ?_
    refine (yc2 14 rfl rfl (Nat.le_of_ble_eq_true rfl) (Or.inr (by show ztg (zwi _ _) _ = _; rw [ztg_wi]; exact (zFS.tag hX.1 (j := 0) (by decide) rfl))) rfl rfl (c_rsp hX hTX1)).trans ?_
    generalize hr2 : rsp X1 13 = r2
    have hTr22 : zTF r2.2 m := by rw [← hr2]; exact rsp_T hTX1
    refine ys17_0 17 rfl rfl (fun h14 => ?_) (fun h14 => ?_)
    · refine (ys1 53 (x := 0) rfl rfl rfl).trans ?_
      refine (ys36 rfl (by decide)).trans ?_
      rw [show rhaw X = (0, r2.2) from by subst hr2 hX1; unfold rhaw; (try dsimp only); rw [if_pos h2, if_pos h14]]; (first | done | rfl)
    · refine (ys4 18 (v := .ref (x + 0)) rfl rfl rfl rfl).trans ?_
      refine (ys1 20 (x := 9) rfl rfl rfl).trans ?_
      by_cases h20 : r2.2 2 (zsf (r2.2 0 3) 401) = 9
      · refine (yc2 23 rfl rfl (Nat.le_of_ble_eq_true rfl) (Or.inr (by show ztg (zwi _ _) _ = _; rw [ztg_wi]; exact (zFS.tag hX.1 (j := 0) (by decide) rfl))) rfl rfl (c_et1 hX hTr22 h20)).trans ?_
        generalize hX3 : xat r2.2 = X3
        have hTX3 : zTF X3 m := by rw [← hX3]; exact zTF_w hTr22 h20 (by decide) (xat_3 _) (xat_2 _)
        refine ys17_0 26 rfl rfl (fun h23 => absurd h23 (by decide)) (fun h23 => ?_)
        refine (ys4 27 (v := .ref (x + 0)) rfl rfl rfl rfl).trans ?_
        refine (ys1 29 (x := 21) rfl rfl rfl).trans ?_
        refine (ys1 31 (x := 15) rfl rfl rfl).trans ?_
        by_cases h31 : X3 2 (zsf (X3 0 3) 401) = 21
        · refine (yc3 34 rfl rfl (Nat.le_of_ble_eq_true rfl) (Or.inr (by show ztg (zwi _ _) _ = _; rw [ztg_wi]; exact (zFS.tag hX.1 (j := 0) (by decide) rfl))) rfl rfl (c_ea1 hX hTX3 h31)).trans ?_
          generalize hX4 : xas X3 15 = X4
          have hTX4 : zTF X4 m := by rw [← hX4]; exact zTF_w hTX3 h31 (by decide) (xas_3 _ _) (xas_2 _ _)
          refine ys17_0 37 rfl rfl (fun h34 => absurd h34 (by decide)) (fun h34 => ?_)
          refine (ys4 38 (v := .ref (x + 0)) rfl rfl rfl rfl).trans ?_
          refine (ys1 40 (x := 10) rfl rfl rfl).trans ?_
          refine (ys1 42 (x := 16) rfl rfl rfl).trans ?_
          refine (yc3 45 rfl rfl (Nat.le_of_ble_eq_true rfl) (Or.inr (by show ztg (zwi _ _) _ = _; rw [ztg_wi]; exact (zFS.tag hX.1 (j := 0) (by decide) rfl))) rfl rfl (c_rop hX hTX4 (by decide))).trans ?_
          generalize hr5 : rop X4 10 16 = r5
          have hTr52 : zTF r5.2 m := by rw [← hr5]; exact rop_T hTX4
          refine ys17_0 48 rfl rfl (fun h45 => ?_) (fun h45 => ?_)
          · refine (ys1 53 (x := 0) rfl rfl rfl).trans ?_
            refine (ys36 rfl (by decide)).trans ?_
            rw [show rhaw X = (0, r5.2) from by subst hr5 hX4 hX3 hr2 hX1; unfold rhaw; (try dsimp only); rw [if_pos h2, if_neg h14, if_pos h20, if_pos h31, if_pos h45]]; (first | done | rfl)
          · refine (ys1 49 (x := 1) rfl rfl rfl).trans ?_
            refine (ys19 rfl).trans ?_
            refine (ys36 rfl (by decide)).trans ?_
            rw [show rhaw X = (1, r5.2) from by subst hr5 hX4 hX3 hr2 hX1; unfold rhaw; (try dsimp only); rw [if_pos h2, if_neg h14, if_pos h20, if_pos h31, if_neg h45]]; (first | done | rfl)
        · refine (yc3 34 rfl rfl (Nat.le_of_ble_eq_true rfl) (Or.inr (by show ztg (zwi _ _) _ = _; rw [ztg_wi]; exact (zFS.tag hX.1 (j := 0) (by decide) rfl))) rfl rfl (c_ea0 hX hTX3 h31)).trans ?_
          refine ys17_0 37 rfl rfl (fun h34 => ?_) (fun h34 => absurd (by decide) h34)
          refine (ys1 53 (x := 0) rfl rfl rfl).trans ?_
          refine (ys36 rfl (by decide)).trans ?_
          rw [show rhaw X = (0, X3) from by subst hX3 hr2 hX1; unfold rhaw; (try dsimp only); rw [if_pos h2, if_neg h14, if_pos h20, if_neg h31]]; (first | done | rfl)
      · refine (yc2 23 rfl rfl (Nat.le_of_ble_eq_true rfl) (Or.inr (by show ztg (zwi _ _) _ = _; rw [ztg_wi]; exact (zFS.tag hX.1 (j := 0) (by decide) rfl))) rfl rfl (c_et0 hX hTr22 h20)).trans ?_
        refine ys17_0 26 rfl rfl (fun h23 => ?_) (fun h23 => absurd (by decide) h23)
        refine (ys1 53 (x := 0) rfl rfl rfl).trans ?_
        refine (ys36 rfl (by decide)).trans ?_
        rw [show rhaw X = (0, r2.2) from by subst hr2 hX1; unfold rhaw; (try dsimp only); rw [if_pos h2, if_neg h14, if_neg h20]]; (first | done | rfl)
  · refine (yc2 5 rfl rfl (Nat.le_of_ble_eq_true rfl) (Or.inr (by show ztg (zwi _ _) _ = _; rw [ztg_wi]; exact (zFS.tag hX.1 (j := 0) (by decide) rfl))) rfl rfl (c_et0 hX hT h2)).trans ?_
    refine ys17_0 8 rfl rfl (fun h5 => ?_) (fun h5 => absurd (by decide) h5)
    refine (ys1 53 (x := 0) rfl rfl rfl).trans ?_
    refine (ys36 rfl (by decide)).trans ?_
    rw [show rhaw X = (0, X) from by unfold rhaw; (try dsimp only); rw [if_neg h2]]; (first | done | rfl)

def rle : Nat → zFn → Int32 × zFn
  | 0, X => (0, X)
  | m + 1, X =>
    if X 2 (zsf (X 0 3) 401) = 13 then
      let X1 := xat X
      if X1 2 (zsf (X1 0 3) 401) = 20 then
        let X2 := xas X1 19
        rle m X2
      else
        (0, X1)
    else
      if X 2 (zsf (X 0 3) 401) = 22 then
        let X3 := xat X
        if X3 2 (zsf (X3 0 3) 401) = 20 then
          let X4 := xas X3 18
          rle m X4
        else
          (0, X3)
      else
        (1, X)

theorem l_rle {d c sl : Nat} {x : Nat} {J : zFn} {μ : zM} (hX : zMX μ x) : ∀ (m : Nat) (X : zFn), zTF X m → zden1 (d + 3) (zden zcds (d + 3)) zc147 (54, [(0, .ref (x + 0))], [], c, sl, zwi μ (zfl J x 6 X)) = some (0, some (.int ((rle m X).1)), c, sl, zwi μ (zfl J x 6 ((rle m X).2)))
  | 0, X, hT => by exact absurd hT zTF_0
  | m + 1, X, hT => by
    refine (ys4 55 (v := .ref (x + 0)) rfl rfl rfl rfl).trans ?_
    refine (ys1 57 (x := 13) rfl rfl rfl).trans ?_
    by_cases h57 : X 2 (zsf (X 0 3) 401) = 13
    · refine (yc2 60 rfl rfl (Nat.le_of_ble_eq_true rfl) (Or.inr (by show ztg (zwi _ _) _ = _; rw [ztg_wi]; exact (zFS.tag hX.1 (j := 0) (by decide) rfl))) rfl rfl (c_et1 hX hT h57)).trans ?_
      generalize hX1 : xat X = X1
      have hTX1 : zTF X1 m := by rw [← hX1]; exact zTF_up hT h57 (by decide) (xat_3 _) (xat_2 _)
      refine ys17_0 63 rfl rfl (fun h60 => absurd h60 (by decide)) (fun h60 => ?_)
      refine (ys4 64 (v := .ref (x + 0)) rfl rfl rfl rfl).trans ?_
      refine (ys1 66 (x := 20) rfl rfl rfl).trans ?_
      refine (ys1 68 (x := 19) rfl rfl rfl).trans ?_
      by_cases h68 : X1 2 (zsf (X1 0 3) 401) = 20
      · refine (yc3 71 rfl rfl (Nat.le_of_ble_eq_true rfl) (Or.inr (by show ztg (zwi _ _) _ = _; rw [ztg_wi]; exact (zFS.tag hX.1 (j := 0) (by decide) rfl))) rfl rfl (c_ea1 hX hTX1 h68)).trans ?_
        generalize hX2 : xas X1 19 = X2
        have hTX2 : zTF X2 m := by rw [← hX2]; exact zTF_w hTX1 h68 (by decide) (xas_3 _ _) (xas_2 _ _)
        refine ys17_1 74 rfl rfl (fun h71 => absurd h71 (by decide)) (fun h71 => ?_)
        rw [show rle (m + 1) X = rle m X2 from by subst hX2 hX1; rw [rle]; (try dsimp only); rw [if_pos h57, if_pos h68]]; exact l_rle hX m X2 hTX2
      · refine (yc3 71 rfl rfl (Nat.le_of_ble_eq_true rfl) (Or.inr (by show ztg (zwi _ _) _ = _; rw [ztg_wi]; exact (zFS.tag hX.1 (j := 0) (by decide) rfl))) rfl rfl (c_ea0 hX hTX1 h68)).trans ?_
        refine ys17_1 74 rfl rfl (fun h71 => ?_) (fun h71 => absurd (by decide) h71)
        refine (ys1 75 (x := 0) rfl rfl rfl).trans ?_
        refine (ys36 rfl (by decide)).trans ?_
        rw [show rle (m + 1) X = (0, X1) from by subst hX1; rw [rle]; (try dsimp only); rw [if_pos h57, if_neg h68]]; (first | done | rfl)
    · refine (yc2 60 rfl rfl (Nat.le_of_ble_eq_true rfl) (Or.inr (by show ztg (zwi _ _) _ = _; rw [ztg_wi]; exact (zFS.tag hX.1 (j := 0) (by decide) rfl))) rfl rfl (c_et0 hX hT h57)).trans ?_
      refine ys17_0 63 rfl rfl (fun h60 => ?_) (fun h60 => absurd (by decide) h60)
      refine (ys4 77 (v := .ref (x + 0)) rfl rfl rfl rfl).trans ?_
      refine (ys1 79 (x := 22) rfl rfl rfl).trans ?_
      by_cases h79 : X 2 (zsf (X 0 3) 401) = 22
      · refine (yc2 82 rfl rfl (Nat.le_of_ble_eq_true rfl) (Or.inr (by show ztg (zwi _ _) _ = _; rw [ztg_wi]; exact (zFS.tag hX.1 (j := 0) (by decide) rfl))) rfl rfl (c_et1 hX hT h79)).trans ?_
        generalize hX3 : xat X = X3
        have hTX3 : zTF X3 m := by rw [← hX3]; exact zTF_up hT h79 (by decide) (xat_3 _) (xat_2 _)
        refine ys17_1 85 rfl rfl (fun h82 => absurd h82 (by decide)) (fun h82 => ?_)
        refine (ys4 42 (v := .ref (x + 0)) rfl rfl rfl rfl).trans ?_
        refine (ys1 44 (x := 20) rfl rfl rfl).trans ?_
        refine (ys1 46 (x := 18) rfl rfl rfl).trans ?_
        by_cases h46 : X3 2 (zsf (X3 0 3) 401) = 20
        · refine (yc3 49 rfl rfl (Nat.le_of_ble_eq_true rfl) (Or.inr (by show ztg (zwi _ _) _ = _; rw [ztg_wi]; exact (zFS.tag hX.1 (j := 0) (by decide) rfl))) rfl rfl (c_ea1 hX hTX3 h46)).trans ?_
          generalize hX4 : xas X3 18 = X4
          have hTX4 : zTF X4 m := by rw [← hX4]; exact zTF_w hTX3 h46 (by decide) (xas_3 _ _) (xas_2 _ _)
          refine ys17_1 52 rfl rfl (fun h49 => absurd h49 (by decide)) (fun h49 => ?_)
          rw [show rle (m + 1) X = rle m X4 from by subst hX4 hX3; rw [rle]; (try dsimp only); rw [if_neg h57, if_pos h79, if_pos h46]]; exact l_rle hX m X4 hTX4
        · refine (yc3 49 rfl rfl (Nat.le_of_ble_eq_true rfl) (Or.inr (by show ztg (zwi _ _) _ = _; rw [ztg_wi]; exact (zFS.tag hX.1 (j := 0) (by decide) rfl))) rfl rfl (c_ea0 hX hTX3 h46)).trans ?_
          refine ys17_1 52 rfl rfl (fun h49 => ?_) (fun h49 => absurd (by decide) h49)
          refine (ys1 53 (x := 0) rfl rfl rfl).trans ?_
          refine (ys36 rfl (by decide)).trans ?_
          rw [show rle (m + 1) X = (0, X3) from by subst hX3; rw [rle]; (try dsimp only); rw [if_neg h57, if_pos h79, if_neg h46]]; (first | done | rfl)
      · refine (yc2 82 rfl rfl (Nat.le_of_ble_eq_true rfl) (Or.inr (by show ztg (zwi _ _) _ = _; rw [ztg_wi]; exact (zFS.tag hX.1 (j := 0) (by decide) rfl))) rfl rfl (c_et0 hX hT h79)).trans ?_
        refine ys17_1 85 rfl rfl (fun h82 => ?_) (fun h82 => absurd (by decide) h82)
        refine (ys1 86 (x := 1) rfl rfl rfl).trans ?_
        refine (ys36 rfl (by decide)).trans ?_
        rw [show rle (m + 1) X = (1, X) from by rw [rle]; (try dsimp only); rw [if_neg h57, if_neg h79]]; (first | done | rfl)

theorem rle_T : ∀ (m : Nat) (X : zFn), zTF X m → zTF (rle m X).2 m
  | 0, X, hT => absurd hT zTF_0
  | m + 1, X, hT => by
    by_cases hc0 : X 2 (zsf (X 0 3) 401) = 13
    · obtain ⟨X1, hX1⟩ : ∃ z_, xat X = z_ := ⟨_, rfl⟩
      have hTX1 : zTF X1 m := by rw [← hX1]; exact zTF_up hT hc0 (by decide) (xat_3 _) (xat_2 _)
      by_cases hc3 : X1 2 (zsf (X1 0 3) 401) = 20
      · obtain ⟨X2, hX2⟩ : ∃ z_, xas X1 19 = z_ := ⟨_, rfl⟩
        have hTX2 : zTF X2 m := by rw [← hX2]; exact zTF_w hTX1 hc3 (by decide) (xas_3 _ _) (xas_2 _ _)
        rw [show rle (m + 1) X = rle m X2 from by subst hX2 hX1; rw [rle]; (try dsimp only); rw [if_pos hc0, if_pos hc3]]; exact zTF_le (rle_T m _ hTX2) (by omega)
      · rw [show rle (m + 1) X = (0, X1) from by subst hX1; rw [rle]; (try dsimp only); rw [if_pos hc0, if_neg hc3]]; exact zTF_le (hTX1) (by omega)
    · by_cases hc8 : X 2 (zsf (X 0 3) 401) = 22
      · obtain ⟨X3, hX3⟩ : ∃ z_, xat X = z_ := ⟨_, rfl⟩
        have hTX3 : zTF X3 m := by rw [← hX3]; exact zTF_up hT hc8 (by decide) (xat_3 _) (xat_2 _)
        by_cases hc11 : X3 2 (zsf (X3 0 3) 401) = 20
        · obtain ⟨X4, hX4⟩ : ∃ z_, xas X3 18 = z_ := ⟨_, rfl⟩
          have hTX4 : zTF X4 m := by rw [← hX4]; exact zTF_w hTX3 hc11 (by decide) (xas_3 _ _) (xas_2 _ _)
          rw [show rle (m + 1) X = rle m X4 from by subst hX4 hX3; rw [rle]; (try dsimp only); rw [if_neg hc0, if_pos hc8, if_pos hc11]]; exact zTF_le (rle_T m _ hTX4) (by omega)
        · rw [show rle (m + 1) X = (0, X3) from by subst hX3; rw [rle]; (try dsimp only); rw [if_neg hc0, if_pos hc8, if_neg hc11]]; exact zTF_le (hTX3) (by omega)
      · rw [show rle (m + 1) X = (1, X) from by rw [rle]; (try dsimp only); rw [if_neg hc0, if_neg hc8]]; exact zTF_le (hT) (by omega)

theorem rle_b : ∀ (m : Nat) (X : zFn), (rle m X).1 = 0 ∨ (rle m X).1 = 1
  | 0, X => Or.inl (by rw [rle])
  | m + 1, X => by
    by_cases hc0 : X 2 (zsf (X 0 3) 401) = 13
    · obtain ⟨X1, hX1⟩ : ∃ z_, xat X = z_ := ⟨_, rfl⟩
      by_cases hc2 : X1 2 (zsf (X1 0 3) 401) = 20
      · obtain ⟨X2, hX2⟩ : ∃ z_, xas X1 19 = z_ := ⟨_, rfl⟩
        rw [show rle (m + 1) X = rle m X2 from by subst hX2 hX1; rw [rle]; (try dsimp only); rw [if_pos hc0, if_pos hc2]]; exact rle_b m _
      · rw [show rle (m + 1) X = (0, X1) from by subst hX1; rw [rle]; (try dsimp only); rw [if_pos hc0, if_neg hc2]]; exact Or.inl rfl
    · by_cases hc6 : X 2 (zsf (X 0 3) 401) = 22
      · obtain ⟨X3, hX3⟩ : ∃ z_, xat X = z_ := ⟨_, rfl⟩
        by_cases hc8 : X3 2 (zsf (X3 0 3) 401) = 20
        · obtain ⟨X4, hX4⟩ : ∃ z_, xas X3 18 = z_ := ⟨_, rfl⟩
          rw [show rle (m + 1) X = rle m X4 from by subst hX4 hX3; rw [rle]; (try dsimp only); rw [if_neg hc0, if_pos hc6, if_pos hc8]]; exact rle_b m _
        · rw [show rle (m + 1) X = (0, X3) from by subst hX3; rw [rle]; (try dsimp only); rw [if_neg hc0, if_pos hc6, if_neg hc8]]; exact Or.inl rfl
      · rw [show rle (m + 1) X = (1, X) from by rw [rle]; (try dsimp only); rw [if_neg hc0, if_neg hc6]]; exact Or.inr rfl

def rlet (X : zFn) : Int32 × zFn :=
  if X 2 (zsf (X 0 3) 401) = 20 then
    let X1 := xas X 3
    if X1 2 (zsf (X1 0 3) 401) = 6 then
      let X2 := xat X1
      if X2 2 (zsf (X2 0 3) 401) = 20 then
        let X3 := xas X2 17
        if X3 2 (zsf (X3 0 3) 401) = 12 then
          let X4 := xat X3
          if X4 2 (zsf (X4 0 3) 401) = 20 then
            let X5 := xas X4 18
            rle 401 X5
          else
            (0, X4)
        else
          (0, X3)
      else
        (0, X2)
    else
      (0, X1)
  else
    (0, X)

theorem c_rlet {d : Nat} {x : Nat} {X J : zFn} {μ : zM} (hX : zMX μ x) {m : Nat} (hT : zTF X m) : zden zcds (d + 4) 147 [.ref (x + 0)] (zwi μ (zfl J x 6 X)) = some (0, some (.int ((rlet X).1)), 0, 0, zwi μ (zfl J x 6 ((rlet X).2))) := by
  refine (zd_in (d := d + 3) (cd := zc147) (nL := 1) (L := [(0, .ref (x + 0))]) rfl (Nat.le_of_ble_eq_true rfl) rfl).trans ?_
  refine (ys4 1 (v := .ref (x + 0)) rfl rfl rfl rfl).trans ?_
  refine (ys1 3 (x := 20) rfl rfl rfl).trans ?_
  refine (ys1 4 (x := 3) rfl rfl rfl).trans ?_
  by_cases h4 : X 2 (zsf (X 0 3) 401) = 20
  · refine (yc3 7 rfl rfl (Nat.le_of_ble_eq_true rfl) (Or.inr (by show ztg (zwi _ _) _ = _; rw [ztg_wi]; exact (zFS.tag hX.1 (j := 0) (by decide) rfl))) rfl rfl (c_ea1 hX hT h4)).trans ?_
    generalize hX1 : xas X 3 = X1
    have hTX1 : zTF X1 m := by rw [← hX1]; exact zTF_w hT h4 (by decide) (xas_3 _ _) (xas_2 _ _)
    refine ys17_0 10 rfl rfl (fun h7 => absurd h7 (by decide)) (fun h7 => ?_)
    refine (ys4 11 (v := .ref (x + 0)) rfl rfl rfl rfl).trans ?_
    refine (ys1 13 (x := 6) rfl rfl rfl).trans ?_
    by_cases h13 : X1 2 (zsf (X1 0 3) 401) = 6
    · refine (yc2 16 rfl rfl (Nat.le_of_ble_eq_true rfl) (Or.inr (by show ztg (zwi _ _) _ = _; rw [ztg_wi]; exact (zFS.tag hX.1 (j := 0) (by decide) rfl))) rfl rfl (c_et1 hX hTX1 h13)).trans ?_
      generalize hX2 : xat X1 = X2
      have hTX2 : zTF X2 m := by rw [← hX2]; exact zTF_w hTX1 h13 (by decide) (xat_3 _) (xat_2 _)
      refine ys17_0 19 rfl rfl (fun h16 => absurd h16 (by decide)) (fun h16 => ?_)
      refine (ys4 20 (v := .ref (x + 0)) rfl rfl rfl rfl).trans ?_
      refine (ys1 22 (x := 20) rfl rfl rfl).trans ?_
      refine (ys1 24 (x := 17) rfl rfl rfl).trans ?_
      by_cases h24 : X2 2 (zsf (X2 0 3) 401) = 20
      · refine (yc3 27 rfl rfl (Nat.le_of_ble_eq_true rfl) (Or.inr (by show ztg (zwi _ _) _ = _; rw [ztg_wi]; exact (zFS.tag hX.1 (j := 0) (by decide) rfl))) rfl rfl (c_ea1 hX hTX2 h24)).trans ?_
        generalize hX3 : xas X2 17 = X3
        have hTX3 : zTF X3 m := by rw [← hX3]; exact zTF_w hTX2 h24 (by decide) (xas_3 _ _) (xas_2 _ _)
        refine ys17_0 30 rfl rfl (fun h27 => absurd h27 (by decide)) (fun h27 => ?_)
        refine (ys4 31 (v := .ref (x + 0)) rfl rfl rfl rfl).trans ?_
        refine (ys1 33 (x := 12) rfl rfl rfl).trans ?_
        by_cases h33 : X3 2 (zsf (X3 0 3) 401) = 12
        · refine (yc2 36 rfl rfl (Nat.le_of_ble_eq_true rfl) (Or.inr (by show ztg (zwi _ _) _ = _; rw [ztg_wi]; exact (zFS.tag hX.1 (j := 0) (by decide) rfl))) rfl rfl (c_et1 hX hTX3 h33)).trans ?_
          generalize hX4 : xat X3 = X4
          have hTX4 : zTF X4 m := by rw [← hX4]; exact zTF_w hTX3 h33 (by decide) (xat_3 _) (xat_2 _)
          refine ys17_1 39 rfl rfl (fun h36 => absurd h36 (by decide)) (fun h36 => ?_)
          refine (ys4 42 (v := .ref (x + 0)) rfl rfl rfl rfl).trans ?_
          refine (ys1 44 (x := 20) rfl rfl rfl).trans ?_
          refine (ys1 46 (x := 18) rfl rfl rfl).trans ?_
          by_cases h46 : X4 2 (zsf (X4 0 3) 401) = 20
          · refine (yc3 49 rfl rfl (Nat.le_of_ble_eq_true rfl) (Or.inr (by show ztg (zwi _ _) _ = _; rw [ztg_wi]; exact (zFS.tag hX.1 (j := 0) (by decide) rfl))) rfl rfl (c_ea1 hX hTX4 h46)).trans ?_
            generalize hX5 : xas X4 18 = X5
            have hTX5 : zTF X5 m := by rw [← hX5]; exact zTF_w hTX4 h46 (by decide) (xas_3 _ _) (xas_2 _ _)
            refine ys17_1 52 rfl rfl (fun h49 => absurd h49 (by decide)) (fun h49 => ?_)
            rw [show rlet X = rle 401 X5 from by subst hX5 hX4 hX3 hX2 hX1; unfold rlet; (try dsimp only); rw [if_pos h4, if_pos h13, if_pos h24, if_pos h33, if_pos h46]]; exact l_rle hX 401 _ (zTF_401 hTX5)
          · refine (yc3 49 rfl rfl (Nat.le_of_ble_eq_true rfl) (Or.inr (by show ztg (zwi _ _) _ = _; rw [ztg_wi]; exact (zFS.tag hX.1 (j := 0) (by decide) rfl))) rfl rfl (c_ea0 hX hTX4 h46)).trans ?_
            refine ys17_1 52 rfl rfl (fun h49 => ?_) (fun h49 => absurd (by decide) h49)
            refine (ys1 53 (x := 0) rfl rfl rfl).trans ?_
            refine (ys36 rfl (by decide)).trans ?_
            rw [show rlet X = (0, X4) from by subst hX4 hX3 hX2 hX1; unfold rlet; (try dsimp only); rw [if_pos h4, if_pos h13, if_pos h24, if_pos h33, if_neg h46]]; (first | done | rfl)
        · refine (yc2 36 rfl rfl (Nat.le_of_ble_eq_true rfl) (Or.inr (by show ztg (zwi _ _) _ = _; rw [ztg_wi]; exact (zFS.tag hX.1 (j := 0) (by decide) rfl))) rfl rfl (c_et0 hX hTX3 h33)).trans ?_
          refine ys17_1 39 rfl rfl (fun h36 => ?_) (fun h36 => absurd (by decide) h36)
          refine (ys1 40 (x := 0) rfl rfl rfl).trans ?_
          refine (ys36 rfl (by decide)).trans ?_
          rw [show rlet X = (0, X3) from by subst hX3 hX2 hX1; unfold rlet; (try dsimp only); rw [if_pos h4, if_pos h13, if_pos h24, if_neg h33]]; (first | done | rfl)
      · refine (yc3 27 rfl rfl (Nat.le_of_ble_eq_true rfl) (Or.inr (by show ztg (zwi _ _) _ = _; rw [ztg_wi]; exact (zFS.tag hX.1 (j := 0) (by decide) rfl))) rfl rfl (c_ea0 hX hTX2 h24)).trans ?_
        refine ys17_0 30 rfl rfl (fun h27 => ?_) (fun h27 => absurd (by decide) h27)
        refine (ys1 40 (x := 0) rfl rfl rfl).trans ?_
        refine (ys36 rfl (by decide)).trans ?_
        rw [show rlet X = (0, X2) from by subst hX2 hX1; unfold rlet; (try dsimp only); rw [if_pos h4, if_pos h13, if_neg h24]]; (first | done | rfl)
    · refine (yc2 16 rfl rfl (Nat.le_of_ble_eq_true rfl) (Or.inr (by show ztg (zwi _ _) _ = _; rw [ztg_wi]; exact (zFS.tag hX.1 (j := 0) (by decide) rfl))) rfl rfl (c_et0 hX hTX1 h13)).trans ?_
      refine ys17_0 19 rfl rfl (fun h16 => ?_) (fun h16 => absurd (by decide) h16)
      refine (ys1 40 (x := 0) rfl rfl rfl).trans ?_
      refine (ys36 rfl (by decide)).trans ?_
      rw [show rlet X = (0, X1) from by subst hX1; unfold rlet; (try dsimp only); rw [if_pos h4, if_neg h13]]; (first | done | rfl)
  · refine (yc3 7 rfl rfl (Nat.le_of_ble_eq_true rfl) (Or.inr (by show ztg (zwi _ _) _ = _; rw [ztg_wi]; exact (zFS.tag hX.1 (j := 0) (by decide) rfl))) rfl rfl (c_ea0 hX hT h4)).trans ?_
    refine ys17_0 10 rfl rfl (fun h7 => ?_) (fun h7 => absurd (by decide) h7)
    refine (ys1 40 (x := 0) rfl rfl rfl).trans ?_
    refine (ys36 rfl (by decide)).trans ?_
    rw [show rlet X = (0, X) from by unfold rlet; (try dsimp only); rw [if_neg h4]]; (first | done | rfl)

/-- no more tokens are left than m, nor than there were -/
def zTG (X Y : zFn) : Prop := ∀ m, zTF X m → zTF Y m

theorem rll_TX : ∀ {X : zFn} (M : Nat) {m : Nat}, zTF X m → zTF (rll M X).2 m
  | X, 0, m, h => by rw [rll]; exact h
  | X, M + 1, m, hT => by
    by_cases hc0 : X 2 (zsf (X 0 3) 401) = 2
    · obtain ⟨X1, hX1⟩ : ∃ z_, xas X 5 = z_ := ⟨_, rfl⟩
      have hTX1 : zTF X1 m := by rw [← hX1]; exact zTF_w hT hc0 (by decide) (xas_3 _ _) (xas_2 _ _)
      obtain ⟨r2, hr2⟩ : ∃ z_, rsp X1 6 = z_ := ⟨_, rfl⟩
      have hTr22 : zTF r2.2 m := by rw [← hr2]; exact rsp_T hTX1
      by_cases hc5 : r2.1 = 0
      · rw [show rll (M + 1) X = (0, r2.2) from by subst hr2 hX1; rw [rll]; (try dsimp only); rw [if_pos hc0, if_pos hc5]]; exact hTr22
      · rw [show rll (M + 1) X = rll M r2.2 from by subst hr2 hX1; rw [rll]; (try dsimp only); rw [if_pos hc0, if_neg hc5]]; exact rll_TX M hTr22
    · obtain ⟨r3, hr3⟩ : ∃ z_, rop X 3 8 = z_ := ⟨_, rfl⟩
      have hTr32 : zTF r3.2 m := by rw [← hr3]; exact rop_T hT
      rw [show rll (M + 1) X = (r3.1, r3.2) from by subst hr3; rw [rll]; (try dsimp only); rw [if_neg hc0]]; exact hTr32

theorem rlof_T {X : zFn} {m : Nat} (hT : zTF X m) : zTF (rlof X).2 m := by
  by_cases hc0 : X 2 (zsf (X 0 3) 401) = 20
  · obtain ⟨X1, hX1⟩ : ∃ z_, xas X 1 = z_ := ⟨_, rfl⟩
    have hTX1 : zTF X1 m := by rw [← hX1]; exact zTF_w hT hc0 (by decide) (xas_3 _ _) (xas_2 _ _)
    by_cases hc3 : X1 2 (zsf (X1 0 3) 401) = 1
    · obtain ⟨X2, hX2⟩ : ∃ z_, xat X1 = z_ := ⟨_, rfl⟩
      have hTX2 : zTF X2 m := by rw [← hX2]; exact zTF_w hTX1 hc3 (by decide) (xat_3 _) (xat_2 _)
      obtain ⟨r3, hr3⟩ : ∃ z_, rsp X2 6 = z_ := ⟨_, rfl⟩
      have hTr32 : zTF r3.2 m := by rw [← hr3]; exact rsp_T hTX2
      by_cases hc8 : r3.1 = 0
      · rw [show rlof X = (0, r3.2) from by subst hr3 hX2 hX1; unfold rlof; (try dsimp only); rw [if_pos hc0, if_pos hc3, if_pos hc8]]; exact hTr32
      · rw [show rlof X = rll 401 r3.2 from by subst hr3 hX2 hX1; unfold rlof; (try dsimp only); rw [if_pos hc0, if_pos hc3, if_neg hc8]]; exact rll_TX _ hTr32
    · rw [show rlof X = (0, X1) from by subst hX1; unfold rlof; (try dsimp only); rw [if_pos hc0, if_neg hc3]]; exact hTX1
  · rw [show rlof X = (0, X) from by unfold rlof; (try dsimp only); rw [if_neg hc0]]; exact hT

theorem rpig_T {X : zFn} {m : Nat} (hT : zTF X m) : zTF (rpig X).2 m := by
  by_cases hc0 : X 2 (zsf (X 0 3) 401) = 20
  · obtain ⟨X1, hX1⟩ : ∃ z_, xas X 2 = z_ := ⟨_, rfl⟩
    have hTX1 : zTF X1 m := by rw [← hX1]; exact zTF_w hT hc0 (by decide) (xas_3 _ _) (xas_2 _ _)
    by_cases hc3 : X1 2 (zsf (X1 0 3) 401) = 5
    · obtain ⟨X2, hX2⟩ : ∃ z_, xat X1 = z_ := ⟨_, rfl⟩
      have hTX2 : zTF X2 m := by rw [← hX2]; exact zTF_w hTX1 hc3 (by decide) (xat_3 _) (xat_2 _)
      by_cases hc6 : X2 2 (zsf (X2 0 3) 401) = 20
      · obtain ⟨X3, hX3⟩ : ∃ z_, xas X2 9 = z_ := ⟨_, rfl⟩
        have hTX3 : zTF X3 m := by rw [← hX3]; exact zTF_w hTX2 hc6 (by decide) (xas_3 _ _) (xas_2 _ _)
        by_cases hc9 : X3 2 (zsf (X3 0 3) 401) = 6
        · obtain ⟨X4, hX4⟩ : ∃ z_, xat X3 = z_ := ⟨_, rfl⟩
          have hTX4 : zTF X4 m := by rw [← hX4]; exact zTF_w hTX3 hc9 (by decide) (xat_3 _) (xat_2 _)
          by_cases hc12 : X4 2 (zsf (X4 0 3) 401) = 20
          · obtain ⟨X5, hX5⟩ : ∃ z_, xas X4 10 = z_ := ⟨_, rfl⟩
            have hTX5 : zTF X5 m := by rw [← hX5]; exact zTF_w hTX4 hc12 (by decide) (xas_3 _ _) (xas_2 _ _)
            obtain ⟨r6, hr6⟩ : ∃ z_, rop X5 3 11 = z_ := ⟨_, rfl⟩
            have hTr62 : zTF r6.2 m := by rw [← hr6]; exact rop_T hTX5
            by_cases hc17 : r6.1 = 0
            · rw [show rpig X = (0, r6.2) from by subst hr6 hX5 hX4 hX3 hX2 hX1; unfold rpig; (try dsimp only); rw [if_pos hc0, if_pos hc3, if_pos hc6, if_pos hc9, if_pos hc12, if_pos hc17]]; exact hTr62
            · obtain ⟨r7, hr7⟩ : ∃ z_, rop r6.2 7 12 = z_ := ⟨_, rfl⟩
              have hTr72 : zTF r7.2 m := by rw [← hr7]; exact rop_T hTr62
              by_cases hc21 : r7.1 = 0
              · rw [show rpig X = (0, r7.2) from by subst hr7 hr6 hX5 hX4 hX3 hX2 hX1; unfold rpig; (try dsimp only); rw [if_pos hc0, if_pos hc3, if_pos hc6, if_pos hc9, if_pos hc12, if_neg hc17, if_pos hc21]]; exact hTr72
              · rw [show rpig X = (1, r7.2) from by subst hr7 hr6 hX5 hX4 hX3 hX2 hX1; unfold rpig; (try dsimp only); rw [if_pos hc0, if_pos hc3, if_pos hc6, if_pos hc9, if_pos hc12, if_neg hc17, if_neg hc21]]; exact hTr72
          · rw [show rpig X = (0, X4) from by subst hX4 hX3 hX2 hX1; unfold rpig; (try dsimp only); rw [if_pos hc0, if_pos hc3, if_pos hc6, if_pos hc9, if_neg hc12]]; exact hTX4
        · obtain ⟨r8, hr8⟩ : ∃ z_, rop X3 3 11 = z_ := ⟨_, rfl⟩
          have hTr82 : zTF r8.2 m := by rw [← hr8]; exact rop_T hTX3
          by_cases hc27 : r8.1 = 0
          · rw [show rpig X = (0, r8.2) from by subst hr8 hX3 hX2 hX1; unfold rpig; (try dsimp only); rw [if_pos hc0, if_pos hc3, if_pos hc6, if_neg hc9, if_pos hc27]]; exact hTr82
          · obtain ⟨r9, hr9⟩ : ∃ z_, rop r8.2 7 12 = z_ := ⟨_, rfl⟩
            have hTr92 : zTF r9.2 m := by rw [← hr9]; exact rop_T hTr82
            by_cases hc31 : r9.1 = 0
            · rw [show rpig X = (0, r9.2) from by subst hr9 hr8 hX3 hX2 hX1; unfold rpig; (try dsimp only); rw [if_pos hc0, if_pos hc3, if_pos hc6, if_neg hc9, if_neg hc27, if_pos hc31]]; exact hTr92
            · rw [show rpig X = (1, r9.2) from by subst hr9 hr8 hX3 hX2 hX1; unfold rpig; (try dsimp only); rw [if_pos hc0, if_pos hc3, if_pos hc6, if_neg hc9, if_neg hc27, if_neg hc31]]; exact hTr92
      · rw [show rpig X = (0, X2) from by subst hX2 hX1; unfold rpig; (try dsimp only); rw [if_pos hc0, if_pos hc3, if_neg hc6]]; exact hTX2
    · rw [show rpig X = (0, X1) from by subst hX1; unfold rpig; (try dsimp only); rw [if_pos hc0, if_neg hc3]]; exact hTX1
  · rw [show rpig X = (0, X) from by unfold rpig; (try dsimp only); rw [if_neg hc0]]; exact hT

theorem rhaw_T {X : zFn} {m : Nat} (hT : zTF X m) : zTF (rhaw X).2 m := by
  by_cases hc0 : X 2 (zsf (X 0 3) 401) = 1
  · obtain ⟨X1, hX1⟩ : ∃ z_, xat X = z_ := ⟨_, rfl⟩
    have hTX1 : zTF X1 m := by rw [← hX1]; exact zTF_w hT hc0 (by decide) (xat_3 _) (xat_2 _)
    obtain ⟨r2, hr2⟩ : ∃ z_, rsp X1 13 = z_ := ⟨_, rfl⟩
    have hTr22 : zTF r2.2 m := by rw [← hr2]; exact rsp_T hTX1
    by_cases hc5 : r2.1 = 0
    · rw [show rhaw X = (0, r2.2) from by subst hr2 hX1; unfold rhaw; (try dsimp only); rw [if_pos hc0, if_pos hc5]]; exact hTr22
    · by_cases hc7 : r2.2 2 (zsf (r2.2 0 3) 401) = 9
      · obtain ⟨X3, hX3⟩ : ∃ z_, xat r2.2 = z_ := ⟨_, rfl⟩
        have hTX3 : zTF X3 m := by rw [← hX3]; exact zTF_w hTr22 hc7 (by decide) (xat_3 _) (xat_2 _)
        by_cases hc10 : X3 2 (zsf (X3 0 3) 401) = 21
        · obtain ⟨X4, hX4⟩ : ∃ z_, xas X3 15 = z_ := ⟨_, rfl⟩
          have hTX4 : zTF X4 m := by rw [← hX4]; exact zTF_w hTX3 hc10 (by decide) (xas_3 _ _) (xas_2 _ _)
          obtain ⟨r5, hr5⟩ : ∃ z_, rop X4 10 16 = z_ := ⟨_, rfl⟩
          have hTr52 : zTF r5.2 m := by rw [← hr5]; exact rop_T hTX4
          by_cases hc15 : r5.1 = 0
          · rw [show rhaw X = (0, r5.2) from by subst hr5 hX4 hX3 hr2 hX1; unfold rhaw; (try dsimp only); rw [if_pos hc0, if_neg hc5, if_pos hc7, if_pos hc10, if_pos hc15]]; exact hTr52
          · rw [show rhaw X = (1, r5.2) from by subst hr5 hX4 hX3 hr2 hX1; unfold rhaw; (try dsimp only); rw [if_pos hc0, if_neg hc5, if_pos hc7, if_pos hc10, if_neg hc15]]; exact hTr52
        · rw [show rhaw X = (0, X3) from by subst hX3 hr2 hX1; unfold rhaw; (try dsimp only); rw [if_pos hc0, if_neg hc5, if_pos hc7, if_neg hc10]]; exact hTX3
      · rw [show rhaw X = (0, r2.2) from by subst hr2 hX1; unfold rhaw; (try dsimp only); rw [if_pos hc0, if_neg hc5, if_neg hc7]]; exact hTr22
  · rw [show rhaw X = (0, X) from by unfold rhaw; (try dsimp only); rw [if_neg hc0]]; exact hT

theorem rle_TX : ∀ {X : zFn} (M : Nat) {m : Nat}, zTF X m → zTF (rle M X).2 m
  | X, 0, m, h => by rw [rle]; exact h
  | X, M + 1, m, hT => by
    by_cases hc0 : X 2 (zsf (X 0 3) 401) = 13
    · obtain ⟨X1, hX1⟩ : ∃ z_, xat X = z_ := ⟨_, rfl⟩
      have hTX1 : zTF X1 m := by rw [← hX1]; exact zTF_w hT hc0 (by decide) (xat_3 _) (xat_2 _)
      by_cases hc3 : X1 2 (zsf (X1 0 3) 401) = 20
      · obtain ⟨X2, hX2⟩ : ∃ z_, xas X1 19 = z_ := ⟨_, rfl⟩
        have hTX2 : zTF X2 m := by rw [← hX2]; exact zTF_w hTX1 hc3 (by decide) (xas_3 _ _) (xas_2 _ _)
        rw [show rle (M + 1) X = rle M X2 from by subst hX2 hX1; rw [rle]; (try dsimp only); rw [if_pos hc0, if_pos hc3]]; exact rle_TX M hTX2
      · rw [show rle (M + 1) X = (0, X1) from by subst hX1; rw [rle]; (try dsimp only); rw [if_pos hc0, if_neg hc3]]; exact hTX1
    · by_cases hc8 : X 2 (zsf (X 0 3) 401) = 22
      · obtain ⟨X3, hX3⟩ : ∃ z_, xat X = z_ := ⟨_, rfl⟩
        have hTX3 : zTF X3 m := by rw [← hX3]; exact zTF_w hT hc8 (by decide) (xat_3 _) (xat_2 _)
        by_cases hc11 : X3 2 (zsf (X3 0 3) 401) = 20
        · obtain ⟨X4, hX4⟩ : ∃ z_, xas X3 18 = z_ := ⟨_, rfl⟩
          have hTX4 : zTF X4 m := by rw [← hX4]; exact zTF_w hTX3 hc11 (by decide) (xas_3 _ _) (xas_2 _ _)
          rw [show rle (M + 1) X = rle M X4 from by subst hX4 hX3; rw [rle]; (try dsimp only); rw [if_neg hc0, if_pos hc8, if_pos hc11]]; exact rle_TX M hTX4
        · rw [show rle (M + 1) X = (0, X3) from by subst hX3; rw [rle]; (try dsimp only); rw [if_neg hc0, if_pos hc8, if_neg hc11]]; exact hTX3
      · rw [show rle (M + 1) X = (1, X) from by rw [rle]; (try dsimp only); rw [if_neg hc0, if_neg hc8]]; exact hT

theorem rlet_T {X : zFn} {m : Nat} (hT : zTF X m) : zTF (rlet X).2 m := by
  by_cases hc0 : X 2 (zsf (X 0 3) 401) = 20
  · obtain ⟨X1, hX1⟩ : ∃ z_, xas X 3 = z_ := ⟨_, rfl⟩
    have hTX1 : zTF X1 m := by rw [← hX1]; exact zTF_w hT hc0 (by decide) (xas_3 _ _) (xas_2 _ _)
    by_cases hc3 : X1 2 (zsf (X1 0 3) 401) = 6
    · obtain ⟨X2, hX2⟩ : ∃ z_, xat X1 = z_ := ⟨_, rfl⟩
      have hTX2 : zTF X2 m := by rw [← hX2]; exact zTF_w hTX1 hc3 (by decide) (xat_3 _) (xat_2 _)
      by_cases hc6 : X2 2 (zsf (X2 0 3) 401) = 20
      · obtain ⟨X3, hX3⟩ : ∃ z_, xas X2 17 = z_ := ⟨_, rfl⟩
        have hTX3 : zTF X3 m := by rw [← hX3]; exact zTF_w hTX2 hc6 (by decide) (xas_3 _ _) (xas_2 _ _)
        by_cases hc9 : X3 2 (zsf (X3 0 3) 401) = 12
        · obtain ⟨X4, hX4⟩ : ∃ z_, xat X3 = z_ := ⟨_, rfl⟩
          have hTX4 : zTF X4 m := by rw [← hX4]; exact zTF_w hTX3 hc9 (by decide) (xat_3 _) (xat_2 _)
          by_cases hc12 : X4 2 (zsf (X4 0 3) 401) = 20
          · obtain ⟨X5, hX5⟩ : ∃ z_, xas X4 18 = z_ := ⟨_, rfl⟩
            have hTX5 : zTF X5 m := by rw [← hX5]; exact zTF_w hTX4 hc12 (by decide) (xas_3 _ _) (xas_2 _ _)
            rw [show rlet X = rle 401 X5 from by subst hX5 hX4 hX3 hX2 hX1; unfold rlet; (try dsimp only); rw [if_pos hc0, if_pos hc3, if_pos hc6, if_pos hc9, if_pos hc12]]; exact rle_TX _ hTX5
          · rw [show rlet X = (0, X4) from by subst hX4 hX3 hX2 hX1; unfold rlet; (try dsimp only); rw [if_pos hc0, if_pos hc3, if_pos hc6, if_pos hc9, if_neg hc12]]; exact hTX4
        · rw [show rlet X = (0, X3) from by subst hX3 hX2 hX1; unfold rlet; (try dsimp only); rw [if_pos hc0, if_pos hc3, if_pos hc6, if_neg hc9]]; exact hTX3
      · rw [show rlet X = (0, X2) from by subst hX2 hX1; unfold rlet; (try dsimp only); rw [if_pos hc0, if_pos hc3, if_neg hc6]]; exact hTX2
    · rw [show rlet X = (0, X1) from by subst hX1; unfold rlet; (try dsimp only); rw [if_pos hc0, if_neg hc3]]; exact hTX1
  · rw [show rlet X = (0, X) from by unfold rlet; (try dsimp only); rw [if_neg hc0]]; exact hT

def rtx : Nat → zFn → Int32 × zFn
  | 0, X => (0, X)
  | m + 1, X =>
    if (X 2 (zsf (X 0 3) 401)) = 30 then
      (1, X)
    else
      if X 2 (zsf (X 0 3) 401) = 0 then
        let X1 := xat X
        let r2 := rlof X1
        if r2.1 = 0 then
          (0, r2.2)
        else
          if r2.2 2 (zsf (r2.2 0 3) 401) = 23 then
            let X3 := xat r2.2
            rtx m X3
          else
            (0, r2.2)
      else
        if X 2 (zsf (X 0 3) 401) = 4 then
          let X4 := xat X
          let r5 := rpig X4
          if r5.1 = 0 then
            (0, r5.2)
          else
            if r5.2 2 (zsf (r5.2 0 3) 401) = 23 then
              let X6 := xat r5.2
              rtx m X6
            else
              (0, r5.2)
        else
          if X 2 (zsf (X 0 3) 401) = 8 then
            let X7 := xas X 4
            let r8 := rhaw X7
            if r8.1 = 0 then
              (0, r8.2)
            else
              if r8.2 2 (zsf (r8.2 0 3) 401) = 23 then
                let X9 := xat r8.2
                rtx m X9
              else
                (0, r8.2)
          else
            if X 2 (zsf (X 0 3) 401) = 11 then
              let X10 := xat X
              let r11 := rlet X10
              if r11.1 = 0 then
                (0, r11.2)
              else
                if r11.2 2 (zsf (r11.2 0 3) 401) = 23 then
                  let X12 := xat r11.2
                  rtx m X12
                else
                  (0, r11.2)
            else
              (0, X)

theorem l_rtx {d c sl : Nat} {x : Nat} {J : zFn} {μ : zM} (hX : zMX μ x) : ∀ (m : Nat) (X : zFn), zTF X m → zden1 (d + 5) (zden zcds (d + 5)) zc143 (0, [(0, .ref (x + 0))], [], c, sl, zwi μ (zfl J x 6 X)) = some (0, some (.int ((rtx m X).1)), c, sl, zwi μ (zfl J x 6 ((rtx m X).2)))
  | 0, X, hT => by exact absurd hT zTF_0
  | m + 1, X, hT => by
    refine (ys4 1 (v := .ref (x + 0)) rfl rfl rfl rfl).trans ?_
    refine (ygr 4 rfl (zFS.tag hX.1 (j := 0) (by decide) rfl) rfl (hX.2 1 (by decide))).trans ?_
    refine (ys4 5 (v := .ref (x + 0)) rfl rfl rfl rfl).trans ?_
    refine (yg 8 rfl (zFS.tag hX.1 (j := 0) (by decide) rfl) (zFS.ni hX.1 (j := 0) (by decide) rfl) (by decide) rfl (Eq.trans (zfl_at (j := 0) (by decide)) (show (X 0 3) = nI (zsf (X 0 3) 401) from (hT.ix.eq (by decide))))).trans ?_
    refine (ylx 9 (N := 401) rfl (j := (zsf (X 0 3) 401)) rfl (Or.inl (zFS.tag hX.1 (j := 2) (by decide) rfl)) (zFS.ni hX.1 (j := 2) (by decide) rfl) (zsf_lt (by decide) (by decide)) (by decide) rfl (zfl_at (j := 2) (by decide))).trans ?_
    refine (ys1 11 (x := 30) rfl rfl rfl).trans ?_
    refine ys18_0 14 rfl rfl (fun h11 => ?_) (fun h11 => ?_)
    · refine (ys1 102 (x := 1) rfl rfl rfl).trans ?_
      refine (ys36 rfl (by decide)).trans ?_
      rw [show rtx (m + 1) X = (1, X) from by rw [rtx]; (try dsimp only); rw [if_pos h11]]; (first | done | rfl)
    · refine (ys4 15 (v := .ref (x + 0)) rfl rfl rfl rfl).trans ?_
      refine (ys1 16 (x := 0) rfl rfl rfl).trans ?_
      by_cases h16 : X 2 (zsf (X 0 3) 401) = 0
      · refine (yc2 19 rfl rfl (Nat.le_of_ble_eq_true rfl) (Or.inr (by show ztg (zwi _ _) _ = _; rw [ztg_wi]; exact (zFS.tag hX.1 (j := 0) (by decide) rfl))) rfl rfl (c_et1 hX hT h16)).trans ?_
        generalize hX1 : xat X = X1
        have hTX1 : zTF X1 m := by rw [← hX1]; exact zTF_up hT h16 (by decide) (xat_3 _) (xat_2 _)
        refine ys17_0 22 rfl rfl (fun h19 => absurd h19 (by decide)) (fun h19 => ?_)
        refine (ys4 23 (v := .ref (x + 0)) rfl rfl rfl rfl).trans ?_
        refine (yc1 26 rfl rfl (Nat.le_of_ble_eq_true rfl) (Or.inr (by show ztg (zwi _ _) _ = _; rw [ztg_wi]; exact (zFS.tag hX.1 (j := 0) (by decide) rfl))) rfl rfl (c_rlof hX hTX1)).trans ?_
        generalize hr2 : rlof X1 = r2
        have hTr22 : zTF r2.2 m := by rw [← hr2]; exact rlof_T hTX1
        refine (ys19 rfl).trans ?_
        refine (ys5 83 (L2 := [(1, .int (r2.1)), (0, .ref (x + 0))]) rfl rfl rfl rfl).trans ?_
        refine (ys4 84 (v := .int (r2.1)) rfl rfl rfl rfl).trans ?_
        refine ys17_0 87 rfl rfl (fun h84 => ?_) (fun h84 => ?_)
        · refine (ys1 97 (x := 0) rfl rfl rfl).trans ?_
          refine (ys36 rfl (by decide)).trans ?_
          rw [show rtx (m + 1) X = (0, r2.2) from by subst hr2 hX1; rw [rtx]; (try dsimp only); rw [if_neg h11, if_pos h16, if_pos h84]]; (first | done | rfl)
        · refine (ys4 88 (v := .ref (x + 0)) rfl rfl rfl rfl).trans ?_
          refine (ys1 90 (x := 23) rfl rfl rfl).trans ?_
          by_cases h90 : r2.2 2 (zsf (r2.2 0 3) 401) = 23
          · refine (yc2 93 rfl rfl (Nat.le_of_ble_eq_true rfl) (Or.inr (by show ztg (zwi _ _) _ = _; rw [ztg_wi]; exact (zFS.tag hX.1 (j := 0) (by decide) rfl))) rfl rfl (c_et1 hX hTr22 h90)).trans ?_
            generalize hX3 : xat r2.2 = X3
            have hTX3 : zTF X3 m := by rw [← hX3]; exact zTF_w hTr22 h90 (by decide) (xat_3 _) (xat_2 _)
            refine ys17_1 96 rfl rfl (fun h93 => absurd h93 (by decide)) (fun h93 => ?_)
            refine (ys19 rfl).trans ?_
            rw [show rtx (m + 1) X = rtx m X3 from by subst hX3 hr2 hX1; rw [rtx]; (try dsimp only); rw [if_neg h11, if_pos h16, if_neg h84, if_pos h90]]; refine zden1_fg (L := [(0, .ref (x + 0))]) (zfg_cons rfl zfg_nil) ?_; exact l_rtx hX m X3 hTX3
          · refine (yc2 93 rfl rfl (Nat.le_of_ble_eq_true rfl) (Or.inr (by show ztg (zwi _ _) _ = _; rw [ztg_wi]; exact (zFS.tag hX.1 (j := 0) (by decide) rfl))) rfl rfl (c_et0 hX hTr22 h90)).trans ?_
            refine ys17_1 96 rfl rfl (fun h93 => ?_) (fun h93 => absurd (by decide) h93)
            refine (ys1 97 (x := 0) rfl rfl rfl).trans ?_
            refine (ys36 rfl (by decide)).trans ?_
            rw [show rtx (m + 1) X = (0, r2.2) from by subst hr2 hX1; rw [rtx]; (try dsimp only); rw [if_neg h11, if_pos h16, if_neg h84, if_neg h90]]; (first | done | rfl)
      · refine (yc2 19 rfl rfl (Nat.le_of_ble_eq_true rfl) (Or.inr (by show ztg (zwi _ _) _ = _; rw [ztg_wi]; exact (zFS.tag hX.1 (j := 0) (by decide) rfl))) rfl rfl (c_et0 hX hT h16)).trans ?_
        refine ys17_0 22 rfl rfl (fun h19 => ?_) (fun h19 => absurd (by decide) h19)
        refine (ys4 30 (v := .ref (x + 0)) rfl rfl rfl rfl).trans ?_
        refine (ys1 31 (x := 4) rfl rfl rfl).trans ?_
        by_cases h31 : X 2 (zsf (X 0 3) 401) = 4
        · refine (yc2 34 rfl rfl (Nat.le_of_ble_eq_true rfl) (Or.inr (by show ztg (zwi _ _) _ = _; rw [ztg_wi]; exact (zFS.tag hX.1 (j := 0) (by decide) rfl))) rfl rfl (c_et1 hX hT h31)).trans ?_
          generalize hX4 : xat X = X4
          have hTX4 : zTF X4 m := by rw [← hX4]; exact zTF_up hT h31 (by decide) (xat_3 _) (xat_2 _)
          refine ys17_0 37 rfl rfl (fun h34 => absurd h34 (by decide)) (fun h34 => ?_)
          refine (ys4 38 (v := .ref (x + 0)) rfl rfl rfl rfl).trans ?_
          refine (yc1 41 rfl rfl (Nat.le_of_ble_eq_true rfl) (Or.inr (by show ztg (zwi _ _) _ = _; rw [ztg_wi]; exact (zFS.tag hX.1 (j := 0) (by decide) rfl))) rfl rfl (c_rpig hX hTX4)).trans ?_
          generalize hr5 : rpig X4 = r5
          have hTr52 : zTF r5.2 m := by rw [← hr5]; exact rpig_T hTX4
          refine (ys19 rfl).trans ?_
          refine (ys5 83 (L2 := [(1, .int (r5.1)), (0, .ref (x + 0))]) rfl rfl rfl rfl).trans ?_
          refine (ys4 84 (v := .int (r5.1)) rfl rfl rfl rfl).trans ?_
          refine ys17_0 87 rfl rfl (fun h84 => ?_) (fun h84 => ?_)
          · refine (ys1 97 (x := 0) rfl rfl rfl).trans ?_
            refine (ys36 rfl (by decide)).trans ?_
            rw [show rtx (m + 1) X = (0, r5.2) from by subst hr5 hX4; rw [rtx]; (try dsimp only); rw [if_neg h11, if_neg h16, if_pos h31, if_pos h84]]; (first | done | rfl)
          · refine (ys4 88 (v := .ref (x + 0)) rfl rfl rfl rfl).trans ?_
            refine (ys1 90 (x := 23) rfl rfl rfl).trans ?_
            by_cases h90 : r5.2 2 (zsf (r5.2 0 3) 401) = 23
            · refine (yc2 93 rfl rfl (Nat.le_of_ble_eq_true rfl) (Or.inr (by show ztg (zwi _ _) _ = _; rw [ztg_wi]; exact (zFS.tag hX.1 (j := 0) (by decide) rfl))) rfl rfl (c_et1 hX hTr52 h90)).trans ?_
              generalize hX6 : xat r5.2 = X6
              have hTX6 : zTF X6 m := by rw [← hX6]; exact zTF_w hTr52 h90 (by decide) (xat_3 _) (xat_2 _)
              refine ys17_1 96 rfl rfl (fun h93 => absurd h93 (by decide)) (fun h93 => ?_)
              refine (ys19 rfl).trans ?_
              rw [show rtx (m + 1) X = rtx m X6 from by subst hX6 hr5 hX4; rw [rtx]; (try dsimp only); rw [if_neg h11, if_neg h16, if_pos h31, if_neg h84, if_pos h90]]; refine zden1_fg (L := [(0, .ref (x + 0))]) (zfg_cons rfl zfg_nil) ?_; exact l_rtx hX m X6 hTX6
            · refine (yc2 93 rfl rfl (Nat.le_of_ble_eq_true rfl) (Or.inr (by show ztg (zwi _ _) _ = _; rw [ztg_wi]; exact (zFS.tag hX.1 (j := 0) (by decide) rfl))) rfl rfl (c_et0 hX hTr52 h90)).trans ?_
              refine ys17_1 96 rfl rfl (fun h93 => ?_) (fun h93 => absurd (by decide) h93)
              refine (ys1 97 (x := 0) rfl rfl rfl).trans ?_
              refine (ys36 rfl (by decide)).trans ?_
              rw [show rtx (m + 1) X = (0, r5.2) from by subst hr5 hX4; rw [rtx]; (try dsimp only); rw [if_neg h11, if_neg h16, if_pos h31, if_neg h84, if_neg h90]]; (first | done | rfl)
        · refine (yc2 34 rfl rfl (Nat.le_of_ble_eq_true rfl) (Or.inr (by show ztg (zwi _ _) _ = _; rw [ztg_wi]; exact (zFS.tag hX.1 (j := 0) (by decide) rfl))) rfl rfl (c_et0 hX hT h31)).trans ?_
          refine ys17_0 37 rfl rfl (fun h34 => ?_) (fun h34 => absurd (by decide) h34)
          refine (ys4 45 (v := .ref (x + 0)) rfl rfl rfl rfl).trans ?_
          refine (ys1 47 (x := 8) rfl rfl rfl).trans ?_
          refine (ys1 48 (x := 4) rfl rfl rfl).trans ?_
          by_cases h48 : X 2 (zsf (X 0 3) 401) = 8
          · refine (yc3 51 rfl rfl (Nat.le_of_ble_eq_true rfl) (Or.inr (by show ztg (zwi _ _) _ = _; rw [ztg_wi]; exact (zFS.tag hX.1 (j := 0) (by decide) rfl))) rfl rfl (c_ea1 hX hT h48)).trans ?_
            generalize hX7 : xas X 4 = X7
            have hTX7 : zTF X7 m := by rw [← hX7]; exact zTF_up hT h48 (by decide) (xas_3 _ _) (xas_2 _ _)
            refine ys17_0 54 rfl rfl (fun h51 => absurd h51 (by decide)) (fun h51 => ?_)
            refine (ys4 55 (v := .ref (x + 0)) rfl rfl rfl rfl).trans ?_
            refine (yc1 58 rfl rfl (Nat.le_of_ble_eq_true rfl) (Or.inr (by show ztg (zwi _ _) _ = _; rw [ztg_wi]; exact (zFS.tag hX.1 (j := 0) (by decide) rfl))) rfl rfl (c_rhaw hX hTX7)).trans ?_
            generalize hr8 : rhaw X7 = r8
            have hTr82 : zTF r8.2 m := by rw [← hr8]; exact rhaw_T hTX7
            refine (ys19 rfl).trans ?_
            refine (ys5 83 (L2 := [(1, .int (r8.1)), (0, .ref (x + 0))]) rfl rfl rfl rfl).trans ?_
            refine (ys4 84 (v := .int (r8.1)) rfl rfl rfl rfl).trans ?_
            refine ys17_0 87 rfl rfl (fun h84 => ?_) (fun h84 => ?_)
            · refine (ys1 97 (x := 0) rfl rfl rfl).trans ?_
              refine (ys36 rfl (by decide)).trans ?_
              rw [show rtx (m + 1) X = (0, r8.2) from by subst hr8 hX7; rw [rtx]; (try dsimp only); rw [if_neg h11, if_neg h16, if_neg h31, if_pos h48, if_pos h84]]; (first | done | rfl)
            · refine (ys4 88 (v := .ref (x + 0)) rfl rfl rfl rfl).trans ?_
              refine (ys1 90 (x := 23) rfl rfl rfl).trans ?_
              by_cases h90 : r8.2 2 (zsf (r8.2 0 3) 401) = 23
              · refine (yc2 93 rfl rfl (Nat.le_of_ble_eq_true rfl) (Or.inr (by show ztg (zwi _ _) _ = _; rw [ztg_wi]; exact (zFS.tag hX.1 (j := 0) (by decide) rfl))) rfl rfl (c_et1 hX hTr82 h90)).trans ?_
                generalize hX9 : xat r8.2 = X9
                have hTX9 : zTF X9 m := by rw [← hX9]; exact zTF_w hTr82 h90 (by decide) (xat_3 _) (xat_2 _)
                refine ys17_1 96 rfl rfl (fun h93 => absurd h93 (by decide)) (fun h93 => ?_)
                refine (ys19 rfl).trans ?_
                rw [show rtx (m + 1) X = rtx m X9 from by subst hX9 hr8 hX7; rw [rtx]; (try dsimp only); rw [if_neg h11, if_neg h16, if_neg h31, if_pos h48, if_neg h84, if_pos h90]]; refine zden1_fg (L := [(0, .ref (x + 0))]) (zfg_cons rfl zfg_nil) ?_; exact l_rtx hX m X9 hTX9
              · refine (yc2 93 rfl rfl (Nat.le_of_ble_eq_true rfl) (Or.inr (by show ztg (zwi _ _) _ = _; rw [ztg_wi]; exact (zFS.tag hX.1 (j := 0) (by decide) rfl))) rfl rfl (c_et0 hX hTr82 h90)).trans ?_
                refine ys17_1 96 rfl rfl (fun h93 => ?_) (fun h93 => absurd (by decide) h93)
                refine (ys1 97 (x := 0) rfl rfl rfl).trans ?_
                refine (ys36 rfl (by decide)).trans ?_
                rw [show rtx (m + 1) X = (0, r8.2) from by subst hr8 hX7; rw [rtx]; (try dsimp only); rw [if_neg h11, if_neg h16, if_neg h31, if_pos h48, if_neg h84, if_neg h90]]; (first | done | rfl)
          · refine (yc3 51 rfl rfl (Nat.le_of_ble_eq_true rfl) (Or.inr (by show ztg (zwi _ _) _ = _; rw [ztg_wi]; exact (zFS.tag hX.1 (j := 0) (by decide) rfl))) rfl rfl (c_ea0 hX hT h48)).trans ?_
            refine ys17_0 54 rfl rfl (fun h51 => ?_) (fun h51 => absurd (by decide) h51)
            refine (ys4 62 (v := .ref (x + 0)) rfl rfl rfl rfl).trans ?_
            refine (ys1 64 (x := 11) rfl rfl rfl).trans ?_
            by_cases h64 : X 2 (zsf (X 0 3) 401) = 11
            · refine (yc2 67 rfl rfl (Nat.le_of_ble_eq_true rfl) (Or.inr (by show ztg (zwi _ _) _ = _; rw [ztg_wi]; exact (zFS.tag hX.1 (j := 0) (by decide) rfl))) rfl rfl (c_et1 hX hT h64)).trans ?_
              generalize hX10 : xat X = X10
              have hTX10 : zTF X10 m := by rw [← hX10]; exact zTF_up hT h64 (by decide) (xat_3 _) (xat_2 _)
              refine ys17_0 70 rfl rfl (fun h67 => absurd h67 (by decide)) (fun h67 => ?_)
              refine (ys4 71 (v := .ref (x + 0)) rfl rfl rfl rfl).trans ?_
              refine (yc1 74 rfl rfl (Nat.le_of_ble_eq_true rfl) (Or.inr (by show ztg (zwi _ _) _ = _; rw [ztg_wi]; exact (zFS.tag hX.1 (j := 0) (by decide) rfl))) rfl rfl (c_rlet hX hTX10)).trans ?_
              generalize hr11 : rlet X10 = r11
              have hTr112 : zTF r11.2 m := by rw [← hr11]; exact rlet_T hTX10
              refine ys17_0 77 rfl rfl (fun h74 => ?_) (fun h74 => ?_)
              · refine (ys1 82 (x := 0) rfl rfl rfl).trans ?_
                refine (ys5 83 (L2 := [(1, .int (0)), (0, .ref (x + 0))]) rfl rfl rfl rfl).trans ?_
                refine (ys4 84 (v := .int (0)) rfl rfl rfl rfl).trans ?_
                refine ys17_0 87 rfl rfl (fun h84 => ?_) (fun h84 => absurd (by decide) h84)
                refine (ys1 97 (x := 0) rfl rfl rfl).trans ?_
                refine (ys36 rfl (by decide)).trans ?_
                rw [show rtx (m + 1) X = (0, r11.2) from by subst hr11 hX10; rw [rtx]; (try dsimp only); rw [if_neg h11, if_neg h16, if_neg h31, if_neg h48, if_pos h64, if_pos h74]]; (first | done | rfl)
              · refine (ys1 78 (x := 1) rfl rfl rfl).trans ?_
                refine (ys19 rfl).trans ?_
                refine (ys5 83 (L2 := [(1, .int (1)), (0, .ref (x + 0))]) rfl rfl rfl rfl).trans ?_
                refine (ys4 84 (v := .int (1)) rfl rfl rfl rfl).trans ?_
                refine ys17_0 87 rfl rfl (fun h84 => absurd h84 (by decide)) (fun h84 => ?_)
                refine (ys4 88 (v := .ref (x + 0)) rfl rfl rfl rfl).trans ?_
                refine (ys1 90 (x := 23) rfl rfl rfl).trans ?_
                by_cases h90 : r11.2 2 (zsf (r11.2 0 3) 401) = 23
                · refine (yc2 93 rfl rfl (Nat.le_of_ble_eq_true rfl) (Or.inr (by show ztg (zwi _ _) _ = _; rw [ztg_wi]; exact (zFS.tag hX.1 (j := 0) (by decide) rfl))) rfl rfl (c_et1 hX hTr112 h90)).trans ?_
                  generalize hX12 : xat r11.2 = X12
                  have hTX12 : zTF X12 m := by rw [← hX12]; exact zTF_w hTr112 h90 (by decide) (xat_3 _) (xat_2 _)
                  refine ys17_1 96 rfl rfl (fun h93 => absurd h93 (by decide)) (fun h93 => ?_)
                  refine (ys19 rfl).trans ?_
                  rw [show rtx (m + 1) X = rtx m X12 from by subst hX12 hr11 hX10; rw [rtx]; (try dsimp only); rw [if_neg h11, if_neg h16, if_neg h31, if_neg h48, if_pos h64, if_neg h74, if_pos h90]]; refine zden1_fg (L := [(0, .ref (x + 0))]) (zfg_cons rfl zfg_nil) ?_; exact l_rtx hX m X12 hTX12
                · refine (yc2 93 rfl rfl (Nat.le_of_ble_eq_true rfl) (Or.inr (by show ztg (zwi _ _) _ = _; rw [ztg_wi]; exact (zFS.tag hX.1 (j := 0) (by decide) rfl))) rfl rfl (c_et0 hX hTr112 h90)).trans ?_
                  refine ys17_1 96 rfl rfl (fun h93 => ?_) (fun h93 => absurd (by decide) h93)
                  refine (ys1 97 (x := 0) rfl rfl rfl).trans ?_
                  refine (ys36 rfl (by decide)).trans ?_
                  rw [show rtx (m + 1) X = (0, r11.2) from by subst hr11 hX10; rw [rtx]; (try dsimp only); rw [if_neg h11, if_neg h16, if_neg h31, if_neg h48, if_pos h64, if_neg h74, if_neg h90]]; (first | done | rfl)
            · refine (yc2 67 rfl rfl (Nat.le_of_ble_eq_true rfl) (Or.inr (by show ztg (zwi _ _) _ = _; rw [ztg_wi]; exact (zFS.tag hX.1 (j := 0) (by decide) rfl))) rfl rfl (c_et0 hX hT h64)).trans ?_
              refine ys17_0 70 rfl rfl (fun h67 => ?_) (fun h67 => absurd (by decide) h67)
              refine (ys1 82 (x := 0) rfl rfl rfl).trans ?_
              refine (ys5 83 (L2 := [(1, .int (0)), (0, .ref (x + 0))]) rfl rfl rfl rfl).trans ?_
              refine (ys4 84 (v := .int (0)) rfl rfl rfl rfl).trans ?_
              refine ys17_0 87 rfl rfl (fun h84 => ?_) (fun h84 => absurd (by decide) h84)
              refine (ys1 97 (x := 0) rfl rfl rfl).trans ?_
              refine (ys36 rfl (by decide)).trans ?_
              rw [show rtx (m + 1) X = (0, X) from by rw [rtx]; (try dsimp only); rw [if_neg h11, if_neg h16, if_neg h31, if_neg h48, if_neg h64]]; (first | done | rfl)

theorem c_rtx {d : Nat} {x : Nat} {X J : zFn} {μ : zM} (hX : zMX μ x) {m : Nat} (hT : zTF X m) : zden zcds (d + 6) 143 [.ref (x + 0)] (zwi μ (zfl J x 6 X)) = some (0, some (.int (rtx 401 X).1), 0, 0, zwi μ (zfl J x 6 (rtx 401 X).2)) := by
  refine (zd_in (d := d + 5) (cd := zc143) (nL := 2) (L := [(0, .ref (x + 0))]) rfl (Nat.le_of_ble_eq_true rfl) rfl).trans ?_
  exact l_rtx hX 401 X (zTF_401 hT)

