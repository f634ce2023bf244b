/-! THE REFERENCE'S HOUR -/
theorem rsu_I {T S : zFn} {k p : Nat} (hk : k < 12) (hp : p < 20) (hI : zIN T S) : zIN T (rsu S T k p) := by
  obtain ⟨S1, hS1⟩ : ∃ z_, zup S 4 p (1) = z_ := ⟨_, rfl⟩
  have hIS1 : zIN T S1 := by rw [← hS1]; exact zIN_u hI (by decide)
  obtain ⟨S2, hS2⟩ : ∃ z_, zup S1 6 p ((S1 1 (zsf (S1 5 p) 6))) = z_ := ⟨_, rfl⟩
  have hIS2 : zIN T S2 := by rw [← hS2]; exact zIN_u hIS1 (by decide)
  obtain ⟨S3, hS3⟩ : ∃ z_, zup S2 7 p ((S2 2 (zsf (S2 5 p) 6))) = z_ := ⟨_, rfl⟩
  have hIS3 : zIN T S3 := by rw [← hS3]; exact zIN_u hIS2 (by decide)
  obtain ⟨S4, hS4⟩ : ∃ z_, raim S3 T p = z_ := ⟨_, rfl⟩
  have hIS4 : zIN T S4 := by rw [← hS4]; exact raim_I hIS3
  obtain ⟨S5, hS5⟩ : ∃ z_, zup S4 10 p (0) = z_ := ⟨_, rfl⟩
  have hIS5 : zIN T S5 := by rw [← hS5]; exact zIN_u hIS4 (by decide)
  obtain ⟨S6, hS6⟩ : ∃ z_, zup S5 11 p (nI k) = z_ := ⟨_, rfl⟩
  have hIS6 : zIN T S6 := by rw [← hS6]; exact zIN_k hIS5 (zin_nI hk (by decide))
  obtain ⟨S7, hS7⟩ : ∃ z_, zup S6 12 p ((S6 18 k)) = z_ := ⟨_, rfl⟩
  have hIS7 : zIN T S7 := by rw [← hS7]; exact zIN_u hIS6 (by decide)
  obtain ⟨S8, hS8⟩ : ∃ z_, zup S7 21 k (((S7 21 k) ||| (zbin 6 (1) (nI p)))) = z_ := ⟨_, rfl⟩
  have hIS8 : zIN T S8 := by rw [← hS8]; exact zIN_u hIS7 (by decide)
  obtain ⟨S9, hS9⟩ : ∃ z_, zup S8 19 k (((S8 19 k) + 1)) = z_ := ⟨_, rfl⟩
  have hIS9 : zIN T S9 := by rw [← hS9]; exact zIN_u hIS8 (by decide)
  rw [show rsu S T k p = S9 from by subst hS9 hS8 hS7 hS6 hS5 hS4 hS3 hS2 hS1; unfold rsu; (try dsimp only); first | done | rfl]; exact hIS9

theorem rla_I {T S : zFn} {p : Nat} (hp : p < 20) (hI : zIN T S) : zIN T (rla S T p) := by
  have h0 : zIN T (zup (zup (zup S 4 p 0) 5 p (T 5 p)) 10 p 0) := zIN_u (zIN_c (zIN_u hI (by decide)) (hI.1 p hp).1) (by decide)
  unfold rla
  dsimp only
  generalize zup (zup (zup S 4 p 0) 5 p (T 5 p)) 10 p 0 = S3 at h0 ⊢
  have hk : zsf (S 11 p) 12 < 12 := zsf_lt (by decide) (by decide)
  generalize zsf (S 11 p) 12 = k at hk ⊢
  split
  · rename_i h1
    split
    · have h2 : zIN T (zup (zup (zup S3 17 k (T 5 p)) 18 k (zup S3 17 k (T 5 p) 18 k + 1)) 21 k 0) := by
        refine zIN_u (zIN_s (zIN_u h0 (by decide)) ?_) (by decide)
        rw [zup_ne' (by omega)]
        exact ((h0.2.2.1 k hk).lt (ria_ne h1)).2
      split
      · exact h2
      · exact zIN_u h2 (by decide)
    · exact zIN_u h0 (by decide)
  · exact zIN_u h0 (by decide)

def rfl_ (S : zFn) (T : zFn) (p : Nat) : zFn :=
  if ((T 8 p) + (S 10 p)) < (rfh S T p) then
    let S1 := zup S 6 p ((rnr (S 6 p) (S 8 p) (T 7 p)))
    let S2 := zup S1 7 p ((rnr (S1 7 p) (S1 9 p) (T 7 p)))
    if (rfh S2 T p) = 0 then
      let S3 := rla S2 T p
      S3
    else
      if (S2 6 p) = (S2 8 p) then
        if (S2 7 p) = (S2 9 p) then
          let S4 := zup S2 10 p (((S2 10 p) + 1))
          if (S4 10 p) ≤ 24 then
            S4
          else
            let S5 := zup S4 4 p (2)
            S5
        else
          S2
      else
        S2
  else
    let S6 := raim S T p
    let S7 := zup S6 6 p ((rnr (S6 6 p) (S6 8 p) (T 7 p)))
    let S8 := zup S7 7 p ((rnr (S7 7 p) (S7 9 p) (T 7 p)))
    if (rfh S8 T p) = 0 then
      let S9 := rla S8 T p
      S9
    else
      if (S8 6 p) = (S8 8 p) then
        if (S8 7 p) = (S8 9 p) then
          let S10 := zup S8 10 p (((S8 10 p) + 1))
          if (S10 10 p) ≤ 24 then
            S10
          else
            let S11 := zup S10 4 p (2)
            S11
        else
          S8
      else
        S8

theorem c_rfl {d : Nat} {x t s : Nat} {S T J : zFn} {μ : zM} (hC : zSC μ x t s J T) {p : Nat} (hp : p < 20) (hI : zIN T S) : zden zcds (d + 3) 199 [.ref (s + 0), .int (nI p)] (zwi μ (zfl J s 22 S)) = some (0, none, 0, 0, zwi μ (zfl J s 22 ((rfl_ S T p)))) := by
  refine (zd_in (d := d + 2) (cd := zc199) (nL := 2) (L := [(0, .ref (s + 0)), (1, .int (nI p))]) rfl (Nat.le_of_ble_eq_true rfl) rfl).trans ?_
  refine (ys4 1 (v := .ref (s + 0)) rfl rfl rfl rfl).trans ?_
  refine (ys4 2 (v := .int (nI p)) rfl rfl rfl rfl).trans ?_
  refine (yc2 5 rfl rfl (Nat.le_of_ble_eq_true rfl) (Or.inr (by show ztg (zwi _ _) _ = _; rw [ztg_wi]; exact (zFS.tag hC.1 (j := 0) (by decide) rfl))) rfl rfl (c_fh hC hp hI)).trans ?_
  refine (ys4 6 (v := .ref (s + 0)) rfl rfl rfl rfl).trans ?_
  refine (ygr 9 rfl (zFS.tag hC.1 (j := 0) (by decide) rfl) rfl hC.2.2.1).trans ?_
  refine (ygr 12 rfl hC.2.2.2.2.2.1 rfl hC.2.2.2.2.2.2.1).trans ?_
  refine (ygr 15 rfl (zFS.tag hC.2.2.2.1 (j := 0) (by decide) rfl) rfl (hC.2.2.2.2.1 7 (by decide))).trans ?_
  refine (ys4 16 (v := .int (nI p)) rfl rfl rfl rfl).trans ?_
  refine (ylx 17 (N := 20) rfl (j := p) rfl (Or.inl (zFS.tag hC.2.2.2.1 (j := 8) (by decide) rfl)) (zFS.ni hC.2.2.2.1 (j := 8) (by decide) rfl) (by omega) (by decide) rfl (zst_rd hC (j := 8) (by decide))).trans ?_
  refine (ys4 18 (v := .ref (s + 0)) rfl rfl rfl rfl).trans ?_
  refine (ygr 21 rfl (zFS.tag hC.1 (j := 0) (by decide) rfl) rfl (hC.2.1 9 (by decide))).trans ?_
  refine (ys4 22 (v := .int (nI p)) rfl rfl rfl rfl).trans ?_
  refine (ylx 23 (N := 20) rfl (j := p) rfl (Or.inl (zFS.tag hC.1 (j := 10) (by decide) rfl)) (zFS.ni hC.1 (j := 10) (by decide) rfl) (by omega) (by decide) rfl (zfl_at (j := 10) (by decide))).trans ?_
  refine (ys7_0 24 rfl rfl).trans ?_
  refine ys18_4 27 rfl rfl (fun h24 => ?_) (fun h24 => ?_)
  · refine (ys4 33 (v := .ref (s + 0)) rfl rfl rfl rfl).trans ?_
    refine (ygr 36 rfl (zFS.tag hC.1 (j := 0) (by decide) rfl) rfl (hC.2.1 5 (by decide))).trans ?_
    refine (ys4 37 (v := .int (nI p)) rfl rfl rfl rfl).trans ?_
    refine (ys4 38 (v := .ref (s + 0)) rfl rfl rfl rfl).trans ?_
    refine (ygr 41 rfl (zFS.tag hC.1 (j := 0) (by decide) rfl) rfl (hC.2.1 5 (by decide))).trans ?_
    refine (ys4 42 (v := .int (nI p)) rfl rfl rfl rfl).trans ?_
    refine (ylx 43 (N := 20) rfl (j := p) rfl (Or.inl (zFS.tag hC.1 (j := 6) (by decide) rfl)) (zFS.ni hC.1 (j := 6) (by decide) rfl) (by omega) (by decide) rfl (zfl_at (j := 6) (by decide))).trans ?_
    refine (ys4 44 (v := .ref (s + 0)) rfl rfl rfl rfl).trans ?_
    refine (ygr 47 rfl (zFS.tag hC.1 (j := 0) (by decide) rfl) rfl (hC.2.1 7 (by decide))).trans ?_
    refine (ys4 48 (v := .int (nI p)) rfl rfl rfl rfl).trans ?_
    refine (ylx 49 (N := 20) rfl (j := p) rfl (Or.inl (zFS.tag hC.1 (j := 8) (by decide) rfl)) (zFS.ni hC.1 (j := 8) (by decide) rfl) (by omega) (by decide) rfl (zfl_at (j := 8) (by decide))).trans ?_
    refine (ys4 50 (v := .ref (s + 0)) rfl rfl rfl rfl).trans ?_
    refine (ygr 53 rfl (zFS.tag hC.1 (j := 0) (by decide) rfl) rfl hC.2.2.1).trans ?_
    refine (ygr 56 rfl hC.2.2.2.2.2.1 rfl hC.2.2.2.2.2.2.1).trans ?_
    refine (ygr 59 rfl (zFS.tag hC.2.2.2.1 (j := 0) (by decide) rfl) rfl (hC.2.2.2.2.1 6 (by decide))).trans ?_
    refine (ys4 60 (v := .int (nI p)) rfl rfl rfl rfl).trans ?_
    refine (ylx 61 (N := 20) rfl (j := p) rfl (Or.inl (zFS.tag hC.2.2.2.1 (j := 7) (by decide) rfl)) (zFS.ni hC.2.2.2.1 (j := 7) (by decide) rfl) (by omega) (by decide) rfl (zst_rd hC (j := 7) (by decide))).trans ?_
    refine (yc3 64 rfl rfl (Nat.le_of_ble_eq_true rfl) (Or.inl rfl) rfl rfl c_rnr).trans ?_
    refine (ywx 65 (N := 20) rfl (j := p) rfl (zFS.tag hC.1 (j := 6) (by decide) rfl) (zFS.k0 hC.1 (j := 6)) (zFS.ni hC.1 (j := 6) (by decide) rfl) (by omega) (by decide) rfl (zfl_up (j := 6) (by decide))).trans ?_
    generalize hS1 : zup S 6 p ((rnr (S 6 p) (S 8 p) (T 7 p))) = S1
    have hIS1 : zIN T S1 := by rw [← hS1]; exact zIN_u hI (by decide)
    refine (ys4 66 (v := .ref (s + 0)) rfl rfl rfl rfl).trans ?_
    refine (ygr 69 rfl (zFS.tag hC.1 (j := 0) (by decide) rfl) rfl (hC.2.1 6 (by decide))).trans ?_
    refine (ys4 70 (v := .int (nI p)) rfl rfl rfl rfl).trans ?_
    refine (ys4 71 (v := .ref (s + 0)) rfl rfl rfl rfl).trans ?_
    refine (ygr 74 rfl (zFS.tag hC.1 (j := 0) (by decide) rfl) rfl (hC.2.1 6 (by decide))).trans ?_
    refine (ys4 75 (v := .int (nI p)) rfl rfl rfl rfl).trans ?_
    refine (ylx 76 (N := 20) rfl (j := p) rfl (Or.inl (zFS.tag hC.1 (j := 7) (by decide) rfl)) (zFS.ni hC.1 (j := 7) (by decide) rfl) (by omega) (by decide) rfl (zfl_at (j := 7) (by decide))).trans ?_
    refine (ys4 77 (v := .ref (s + 0)) rfl rfl rfl rfl).trans ?_
    refine (ygr 80 rfl (zFS.tag hC.1 (j := 0) (by decide) rfl) rfl (hC.2.1 8 (by decide))).trans ?_
    refine (ys4 81 (v := .int (nI p)) rfl rfl rfl rfl).trans ?_
    refine (ylx 82 (N := 20) rfl (j := p) rfl (Or.inl (zFS.tag hC.1 (j := 9) (by decide) rfl)) (zFS.ni hC.1 (j := 9) (by decide) rfl) (by omega) (by decide) rfl (zfl_at (j := 9) (by decide))).trans ?_
    refine (ys4 83 (v := .ref (s + 0)) rfl rfl rfl rfl).trans ?_
    refine (ygr 86 rfl (zFS.tag hC.1 (j := 0) (by decide) rfl) rfl hC.2.2.1).trans ?_
    refine (ygr 89 rfl hC.2.2.2.2.2.1 rfl hC.2.2.2.2.2.2.1).trans ?_
    refine (ygr 92 rfl (zFS.tag hC.2.2.2.1 (j := 0) (by decide) rfl) rfl (hC.2.2.2.2.1 6 (by decide))).trans ?_
    refine (ys4 93 (v := .int (nI p)) rfl rfl rfl rfl).trans ?_
    refine (ylx 94 (N := 20) rfl (j := p) rfl (Or.inl (zFS.tag hC.2.2.2.1 (j := 7) (by decide) rfl)) (zFS.ni hC.2.2.2.1 (j := 7) (by decide) rfl) (by omega) (by decide) rfl (zst_rd hC (j := 7) (by decide))).trans ?_
    refine (yc3 97 rfl rfl (Nat.le_of_ble_eq_true rfl) (Or.inl rfl) rfl rfl c_rnr).trans ?_
    refine (ywx 98 (N := 20) rfl (j := p) rfl (zFS.tag hC.1 (j := 7) (by decide) rfl) (zFS.k0 hC.1 (j := 7)) (zFS.ni hC.1 (j := 7) (by decide) rfl) (by omega) (by decide) rfl (zfl_up (j := 7) (by decide))).trans ?_
    generalize hS2 : zup S1 7 p ((rnr (S1 7 p) (S1 9 p) (T 7 p))) = S2
    have hIS2 : zIN T S2 := by rw [← hS2]; exact zIN_u hIS1 (by decide)
    refine (ys4 99 (v := .ref (s + 0)) rfl rfl rfl rfl).trans ?_
    refine (ys4 100 (v := .int (nI p)) rfl rfl rfl rfl).trans ?_
    refine (yc2 103 rfl rfl (Nat.le_of_ble_eq_true rfl) (Or.inr (by show ztg (zwi _ _) _ = _; rw [ztg_wi]; exact (zFS.tag hC.1 (j := 0) (by decide) rfl))) rfl rfl (c_fh hC hp hIS2)).trans ?_
    refine ys17_1 106 rfl rfl (fun h103 => ?_) (fun h103 => ?_)
    · refine (ys4 107 (v := .ref (s + 0)) rfl rfl rfl rfl).trans ?_
      refine (ys4 108 (v := .int (nI p)) rfl rfl rfl rfl).trans ?_
      refine (yc2 111 rfl rfl (Nat.le_of_ble_eq_true rfl) (Or.inr (by show ztg (zwi _ _) _ = _; rw [ztg_wi]; exact (zFS.tag hC.1 (j := 0) (by decide) rfl))) rfl rfl (c_la hC hp hIS2)).trans ?_
      generalize hS3 : rla S2 T p = S3
      have hIS3 : zIN T S3 := by rw [← hS3]; exact rla_I hp hIS2
      refine (ys19 rfl).trans ?_
      refine (ys36v rfl rfl).trans ?_
      rw [show rfl_ S T p = S3 from by subst hS3 hS2 hS1; unfold rfl_; (try dsimp only); rw [if_pos h24, if_pos h103]]; (first | done | rfl)
    · refine (ys4 115 (v := .ref (s + 0)) rfl rfl rfl rfl).trans ?_
      refine (ygr 118 rfl (zFS.tag hC.1 (j := 0) (by decide) rfl) rfl (hC.2.1 5 (by decide))).trans ?_
      refine (ys4 119 (v := .int (nI p)) rfl rfl rfl rfl).trans ?_
      refine (ylx 120 (N := 20) rfl (j := p) rfl (Or.inl (zFS.tag hC.1 (j := 6) (by decide) rfl)) (zFS.ni hC.1 (j := 6) (by decide) rfl) (by omega) (by decide) rfl (zfl_at (j := 6) (by decide))).trans ?_
      refine (ys4 121 (v := .ref (s + 0)) rfl rfl rfl rfl).trans ?_
      refine (ygr 124 rfl (zFS.tag hC.1 (j := 0) (by decide) rfl) rfl (hC.2.1 7 (by decide))).trans ?_
      refine (ys4 125 (v := .int (nI p)) rfl rfl rfl rfl).trans ?_
      refine (ylx 126 (N := 20) rfl (j := p) rfl (Or.inl (zFS.tag hC.1 (j := 8) (by decide) rfl)) (zFS.ni hC.1 (j := 8) (by decide) rfl) (by omega) (by decide) rfl (zfl_at (j := 8) (by decide))).trans ?_
      refine ys18_1 129 rfl rfl (fun h126 => ?_) (fun h126 => ?_)
      · refine (ys4 130 (v := .ref (s + 0)) rfl rfl rfl rfl).trans ?_
        refine (ygr 133 rfl (zFS.tag hC.1 (j := 0) (by decide) rfl) rfl (hC.2.1 6 (by decide))).trans ?_
        refine (ys4 134 (v := .int (nI p)) rfl rfl rfl rfl).trans ?_
        refine (ylx 135 (N := 20) rfl (j := p) rfl (Or.inl (zFS.tag hC.1 (j := 7) (by decide) rfl)) (zFS.ni hC.1 (j := 7) (by decide) rfl) (by omega) (by decide) rfl (zfl_at (j := 7) (by decide))).trans ?_
        refine (ys4 136 (v := .ref (s + 0)) rfl rfl rfl rfl).trans ?_
        refine (ygr 139 rfl (zFS.tag hC.1 (j := 0) (by decide) rfl) rfl (hC.2.1 8 (by decide))).trans ?_
        refine (ys4 140 (v := .int (nI p)) rfl rfl rfl rfl).trans ?_
        refine (ylx 141 (N := 20) rfl (j := p) rfl (Or.inl (zFS.tag hC.1 (j := 9) (by decide) rfl)) (zFS.ni hC.1 (j := 9) (by decide) rfl) (by omega) (by decide) rfl (zfl_at (j := 9) (by decide))).trans ?_
        refine ys18_1 144 rfl rfl (fun h141 => ?_) (fun h141 => ?_)
        · refine (ys4 145 (v := .ref (s + 0)) rfl rfl rfl rfl).trans ?_
          refine (ygr 148 rfl (zFS.tag hC.1 (j := 0) (by decide) rfl) rfl (hC.2.1 9 (by decide))).trans ?_
          refine (ys4 149 (v := .int (nI p)) rfl rfl rfl rfl).trans ?_
          refine (ys15 150 rfl (Nat.le_of_ble_eq_true rfl) (Nat.le_of_ble_eq_true rfl) rfl).trans ?_
          refine (ylx 151 (N := 20) rfl (j := p) rfl (Or.inl (zFS.tag hC.1 (j := 10) (by decide) rfl)) (zFS.ni hC.1 (j := 10) (by decide) rfl) (by omega) (by decide) rfl (zfl_at (j := 10) (by decide))).trans ?_
          refine (ys1 152 (x := 1) rfl rfl rfl).trans ?_
          refine (ys7_0 153 rfl rfl).trans ?_
          refine (ywx 154 (N := 20) rfl (j := p) rfl (zFS.tag hC.1 (j := 10) (by decide) rfl) (zFS.k0 hC.1 (j := 10)) (zFS.ni hC.1 (j := 10) (by decide) rfl) (by omega) (by decide) rfl (zfl_up (j := 10) (by decide))).trans ?_
          generalize hS4 : zup S2 10 p (((S2 10 p) + 1)) = S4
          have hIS4 : zIN T S4 := by rw [← hS4]; exact zIN_u hIS2 (by decide)
          refine (ys4 155 (v := .ref (s + 0)) rfl rfl rfl rfl).trans ?_
          refine (ygr 158 rfl (zFS.tag hC.1 (j := 0) (by decide) rfl) rfl (hC.2.1 9 (by decide))).trans ?_
          refine (ys4 159 (v := .int (nI p)) rfl rfl rfl rfl).trans ?_
          refine (ylx 160 (N := 20) rfl (j := p) rfl (Or.inl (zFS.tag hC.1 (j := 10) (by decide) rfl)) (zFS.ni hC.1 (j := 10) (by decide) rfl) (by omega) (by decide) rfl (zfl_at (j := 10) (by decide))).trans ?_
          refine (ys1 162 (x := 24) rfl rfl rfl).trans ?_
          refine ys18_5 165 rfl rfl (fun h162 => ?_) (fun h162 => ?_)
          · refine (ys36v rfl rfl).trans ?_
            rw [show rfl_ S T p = S4 from by subst hS4 hS2 hS1; unfold rfl_; (try dsimp only); rw [if_pos h24, if_neg h103, if_pos h126, if_pos h141, if_pos h162]]; (first | done | rfl)
          · refine (ys4 166 (v := .ref (s + 0)) rfl rfl rfl rfl).trans ?_
            refine (ygr 169 rfl (zFS.tag hC.1 (j := 0) (by decide) rfl) rfl (hC.2.1 3 (by decide))).trans ?_
            refine (ys4 170 (v := .int (nI p)) rfl rfl rfl rfl).trans ?_
            refine (ys1 171 (x := 2) rfl rfl rfl).trans ?_
            refine (ywx 172 (N := 20) rfl (j := p) rfl (zFS.tag hC.1 (j := 4) (by decide) rfl) (zFS.k0 hC.1 (j := 4)) (zFS.ni hC.1 (j := 4) (by decide) rfl) (by omega) (by decide) rfl (zfl_up (j := 4) (by decide))).trans ?_
            generalize hS5 : zup S4 4 p (2) = S5
            have hIS5 : zIN T S5 := by rw [← hS5]; exact zIN_u hIS4 (by decide)
            refine (ys36v rfl rfl).trans ?_
            rw [show rfl_ S T p = S5 from by subst hS5 hS4 hS2 hS1; unfold rfl_; (try dsimp only); rw [if_pos h24, if_neg h103, if_pos h126, if_pos h141, if_neg h162]]; (first | done | rfl)
        · refine (ys36v rfl rfl).trans ?_
          rw [show rfl_ S T p = S2 from by subst hS2 hS1; unfold rfl_; (try dsimp only); rw [if_pos h24, if_neg h103, if_pos h126, if_neg h141]]; (first | done | rfl)
      · refine (ys36v rfl rfl).trans ?_
        rw [show rfl_ S T p = S2 from by subst hS2 hS1; unfold rfl_; (try dsimp only); rw [if_pos h24, if_neg h103, if_neg h126]]; (first | done | rfl)
  · refine (ys4 28 (v := .ref (s + 0)) rfl rfl rfl rfl).trans ?_
    refine (ys4 29 (v := .int (nI p)) rfl rfl rfl rfl).trans ?_
    refine (yc2 32 rfl rfl (Nat.le_of_ble_eq_true rfl) (Or.inr (by show ztg (zwi _ _) _ = _; rw [ztg_wi]; exact (zFS.tag hC.1 (j := 0) (by decide) rfl))) rfl rfl (c_aim hC hp hI)).trans ?_
    generalize hS6 : raim S T p = S6
    have hIS6 : zIN T S6 := by rw [← hS6]; exact raim_I hI
    refine (ys4 33 (v := .ref (s + 0)) rfl rfl rfl rfl).trans ?_
    refine (ygr 36 rfl (zFS.tag hC.1 (j := 0) (by decide) rfl) rfl (hC.2.1 5 (by decide))).trans ?_
    refine (ys4 37 (v := .int (nI p)) rfl rfl rfl rfl).trans ?_
    refine (ys4 38 (v := .ref (s + 0)) rfl rfl rfl rfl).trans ?_
    refine (ygr 41 rfl (zFS.tag hC.1 (j := 0) (by decide) rfl) rfl (hC.2.1 5 (by decide))).trans ?_
    refine (ys4 42 (v := .int (nI p)) rfl rfl rfl rfl).trans ?_
    refine (ylx 43 (N := 20) rfl (j := p) rfl (Or.inl (zFS.tag hC.1 (j := 6) (by decide) rfl)) (zFS.ni hC.1 (j := 6) (by decide) rfl) (by omega) (by decide) rfl (zfl_at (j := 6) (by decide))).trans ?_
    refine (ys4 44 (v := .ref (s + 0)) rfl rfl rfl rfl).trans ?_
    refine (ygr 47 rfl (zFS.tag hC.1 (j := 0) (by decide) rfl) rfl (hC.2.1 7 (by decide))).trans ?_
    refine (ys4 48 (v := .int (nI p)) rfl rfl rfl rfl).trans ?_
    refine (ylx 49 (N := 20) rfl (j := p) rfl (Or.inl (zFS.tag hC.1 (j := 8) (by decide) rfl)) (zFS.ni hC.1 (j := 8) (by decide) rfl) (by omega) (by decide) rfl (zfl_at (j := 8) (by decide))).trans ?_
    refine (ys4 50 (v := .ref (s + 0)) rfl rfl rfl rfl).trans ?_
    refine (ygr 53 rfl (zFS.tag hC.1 (j := 0) (by decide) rfl) rfl hC.2.2.1).trans ?_
    refine (ygr 56 rfl hC.2.2.2.2.2.1 rfl hC.2.2.2.2.2.2.1).trans ?_
    refine (ygr 59 rfl (zFS.tag hC.2.2.2.1 (j := 0) (by decide) rfl) rfl (hC.2.2.2.2.1 6 (by decide))).trans ?_
    refine (ys4 60 (v := .int (nI p)) rfl rfl rfl rfl).trans ?_
    refine (ylx 61 (N := 20) rfl (j := p) rfl (Or.inl (zFS.tag hC.2.2.2.1 (j := 7) (by decide) rfl)) (zFS.ni hC.2.2.2.1 (j := 7) (by decide) rfl) (by omega) (by decide) rfl (zst_rd hC (j := 7) (by decide))).trans ?_
    refine (yc3 64 rfl rfl (Nat.le_of_ble_eq_true rfl) (Or.inl rfl) rfl rfl c_rnr).trans ?_
    refine (ywx 65 (N := 20) rfl (j := p) rfl (zFS.tag hC.1 (j := 6) (by decide) rfl) (zFS.k0 hC.1 (j := 6)) (zFS.ni hC.1 (j := 6) (by decide) rfl) (by omega) (by decide) rfl (zfl_up (j := 6) (by decide))).trans ?_
    generalize hS7 : zup S6 6 p ((rnr (S6 6 p) (S6 8 p) (T 7 p))) = S7
    have hIS7 : zIN T S7 := by rw [← hS7]; exact zIN_u hIS6 (by decide)
    refine (ys4 66 (v := .ref (s + 0)) rfl rfl rfl rfl).trans ?_
    refine (ygr 69 rfl (zFS.tag hC.1 (j := 0) (by decide) rfl) rfl (hC.2.1 6 (by decide))).trans ?_
    refine (ys4 70 (v := .int (nI p)) rfl rfl rfl rfl).trans ?_
    refine (ys4 71 (v := .ref (s + 0)) rfl rfl rfl rfl).trans ?_
    refine (ygr 74 rfl (zFS.tag hC.1 (j := 0) (by decide) rfl) rfl (hC.2.1 6 (by decide))).trans ?_
    refine (ys4 75 (v := .int (nI p)) rfl rfl rfl rfl).trans ?_
    refine (ylx 76 (N := 20) rfl (j := p) rfl (Or.inl (zFS.tag hC.1 (j := 7) (by decide) rfl)) (zFS.ni hC.1 (j := 7) (by decide) rfl) (by omega) (by decide) rfl (zfl_at (j := 7) (by decide))).trans ?_
    refine (ys4 77 (v := .ref (s + 0)) rfl rfl rfl rfl).trans ?_
    refine (ygr 80 rfl (zFS.tag hC.1 (j := 0) (by decide) rfl) rfl (hC.2.1 8 (by decide))).trans ?_
    refine (ys4 81 (v := .int (nI p)) rfl rfl rfl rfl).trans ?_
    refine (ylx 82 (N := 20) rfl (j := p) rfl (Or.inl (zFS.tag hC.1 (j := 9) (by decide) rfl)) (zFS.ni hC.1 (j := 9) (by decide) rfl) (by omega) (by decide) rfl (zfl_at (j := 9) (by decide))).trans ?_
    refine (ys4 83 (v := .ref (s + 0)) rfl rfl rfl rfl).trans ?_
    refine (ygr 86 rfl (zFS.tag hC.1 (j := 0) (by decide) rfl) rfl hC.2.2.1).trans ?_
    refine (ygr 89 rfl hC.2.2.2.2.2.1 rfl hC.2.2.2.2.2.2.1).trans ?_
    refine (ygr 92 rfl (zFS.tag hC.2.2.2.1 (j := 0) (by decide) rfl) rfl (hC.2.2.2.2.1 6 (by decide))).trans ?_
    refine (ys4 93 (v := .int (nI p)) rfl rfl rfl rfl).trans ?_
    refine (ylx 94 (N := 20) rfl (j := p) rfl (Or.inl (zFS.tag hC.2.2.2.1 (j := 7) (by decide) rfl)) (zFS.ni hC.2.2.2.1 (j := 7) (by decide) rfl) (by omega) (by decide) rfl (zst_rd hC (j := 7) (by decide))).trans ?_
    refine (yc3 97 rfl rfl (Nat.le_of_ble_eq_true rfl) (Or.inl rfl) rfl rfl c_rnr).trans ?_
    refine (ywx 98 (N := 20) rfl (j := p) rfl (zFS.tag hC.1 (j := 7) (by decide) rfl) (zFS.k0 hC.1 (j := 7)) (zFS.ni hC.1 (j := 7) (by decide) rfl) (by omega) (by decide) rfl (zfl_up (j := 7) (by decide))).trans ?_
    generalize hS8 : zup S7 7 p ((rnr (S7 7 p) (S7 9 p) (T 7 p))) = S8
    have hIS8 : zIN T S8 := by rw [← hS8]; exact zIN_u hIS7 (by decide)
    refine (ys4 99 (v := .ref (s + 0)) rfl rfl rfl rfl).trans ?_
    refine (ys4 100 (v := .int (nI p)) rfl rfl rfl rfl).trans ?_
    refine (yc2 103 rfl rfl (Nat.le_of_ble_eq_true rfl) (Or.inr (by show ztg (zwi _ _) _ = _; rw [ztg_wi]; exact (zFS.tag hC.1 (j := 0) (by decide) rfl))) rfl rfl (c_fh hC hp hIS8)).trans ?_
    refine ys17_1 106 rfl rfl (fun h103 => ?_) (fun h103 => ?_)
    · refine (ys4 107 (v := .ref (s + 0)) rfl rfl rfl rfl).trans ?_
      refine (ys4 108 (v := .int (nI p)) rfl rfl rfl rfl).trans ?_
      refine (yc2 111 rfl rfl (Nat.le_of_ble_eq_true rfl) (Or.inr (by show ztg (zwi _ _) _ = _; rw [ztg_wi]; exact (zFS.tag hC.1 (j := 0) (by decide) rfl))) rfl rfl (c_la hC hp hIS8)).trans ?_
      generalize hS9 : rla S8 T p = S9
      have hIS9 : zIN T S9 := by rw [← hS9]; exact rla_I hp hIS8
      refine (ys19 rfl).trans ?_
      refine (ys36v rfl rfl).trans ?_
      rw [show rfl_ S T p = S9 from by subst hS9 hS8 hS7 hS6; unfold rfl_; (try dsimp only); rw [if_neg h24, if_pos h103]]; (first | done | rfl)
    · refine (ys4 115 (v := .ref (s + 0)) rfl rfl rfl rfl).trans ?_
      refine (ygr 118 rfl (zFS.tag hC.1 (j := 0) (by decide) rfl) rfl (hC.2.1 5 (by decide))).trans ?_
      refine (ys4 119 (v := .int (nI p)) rfl rfl rfl rfl).trans ?_
      refine (ylx 120 (N := 20) rfl (j := p) rfl (Or.inl (zFS.tag hC.1 (j := 6) (by decide) rfl)) (zFS.ni hC.1 (j := 6) (by decide) rfl) (by omega) (by decide) rfl (zfl_at (j := 6) (by decide))).trans ?_
      refine (ys4 121 (v := .ref (s + 0)) rfl rfl rfl rfl).trans ?_
      refine (ygr 124 rfl (zFS.tag hC.1 (j := 0) (by decide) rfl) rfl (hC.2.1 7 (by decide))).trans ?_
      refine (ys4 125 (v := .int (nI p)) rfl rfl rfl rfl).trans ?_
      refine (ylx 126 (N := 20) rfl (j := p) rfl (Or.inl (zFS.tag hC.1 (j := 8) (by decide) rfl)) (zFS.ni hC.1 (j := 8) (by decide) rfl) (by omega) (by decide) rfl (zfl_at (j := 8) (by decide))).trans ?_
      refine ys18_1 129 rfl rfl (fun h126 => ?_) (fun h126 => ?_)
      · refine (ys4 130 (v := .ref (s + 0)) rfl rfl rfl rfl).trans ?_
        refine (ygr 133 rfl (zFS.tag hC.1 (j := 0) (by decide) rfl) rfl (hC.2.1 6 (by decide))).trans ?_
        refine (ys4 134 (v := .int (nI p)) rfl rfl rfl rfl).trans ?_
        refine (ylx 135 (N := 20) rfl (j := p) rfl (Or.inl (zFS.tag hC.1 (j := 7) (by decide) rfl)) (zFS.ni hC.1 (j := 7) (by decide) rfl) (by omega) (by decide) rfl (zfl_at (j := 7) (by decide))).trans ?_
        refine (ys4 136 (v := .ref (s + 0)) rfl rfl rfl rfl).trans ?_
        refine (ygr 139 rfl (zFS.tag hC.1 (j := 0) (by decide) rfl) rfl (hC.2.1 8 (by decide))).trans ?_
        refine (ys4 140 (v := .int (nI p)) rfl rfl rfl rfl).trans ?_
        refine (ylx 141 (N := 20) rfl (j := p) rfl (Or.inl (zFS.tag hC.1 (j := 9) (by decide) rfl)) (zFS.ni hC.1 (j := 9) (by decide) rfl) (by omega) (by decide) rfl (zfl_at (j := 9) (by decide))).trans ?_
        refine ys18_1 144 rfl rfl (fun h141 => ?_) (fun h141 => ?_)
        · refine (ys4 145 (v := .ref (s + 0)) rfl rfl rfl rfl).trans ?_
          refine (ygr 148 rfl (zFS.tag hC.1 (j := 0) (by decide) rfl) rfl (hC.2.1 9 (by decide))).trans ?_
          refine (ys4 149 (v := .int (nI p)) rfl rfl rfl rfl).trans ?_
          refine (ys15 150 rfl (Nat.le_of_ble_eq_true rfl) (Nat.le_of_ble_eq_true rfl) rfl).trans ?_
          refine (ylx 151 (N := 20) rfl (j := p) rfl (Or.inl (zFS.tag hC.1 (j := 10) (by decide) rfl)) (zFS.ni hC.1 (j := 10) (by decide) rfl) (by omega) (by decide) rfl (zfl_at (j := 10) (by decide))).trans ?_
          refine (ys1 152 (x := 1) rfl rfl rfl).trans ?_
          refine (ys7_0 153 rfl rfl).trans ?_
          refine (ywx 154 (N := 20) rfl (j := p) rfl (zFS.tag hC.1 (j := 10) (by decide) rfl) (zFS.k0 hC.1 (j := 10)) (zFS.ni hC.1 (j := 10) (by decide) rfl) (by omega) (by decide) rfl (zfl_up (j := 10) (by decide))).trans ?_
          generalize hS10 : zup S8 10 p (((S8 10 p) + 1)) = S10
          have hIS10 : zIN T S10 := by rw [← hS10]; exact zIN_u hIS8 (by decide)
          refine (ys4 155 (v := .ref (s + 0)) rfl rfl rfl rfl).trans ?_
          refine (ygr 158 rfl (zFS.tag hC.1 (j := 0) (by decide) rfl) rfl (hC.2.1 9 (by decide))).trans ?_
          refine (ys4 159 (v := .int (nI p)) rfl rfl rfl rfl).trans ?_
          refine (ylx 160 (N := 20) rfl (j := p) rfl (Or.inl (zFS.tag hC.1 (j := 10) (by decide) rfl)) (zFS.ni hC.1 (j := 10) (by decide) rfl) (by omega) (by decide) rfl (zfl_at (j := 10) (by decide))).trans ?_
          refine (ys1 162 (x := 24) rfl rfl rfl).trans ?_
          refine ys18_5 165 rfl rfl (fun h162 => ?_) (fun h162 => ?_)
          · refine (ys36v rfl rfl).trans ?_
            rw [show rfl_ S T p = S10 from by subst hS10 hS8 hS7 hS6; unfold rfl_; (try dsimp only); rw [if_neg h24, if_neg h103, if_pos h126, if_pos h141, if_pos h162]]; (first | done | rfl)
          · refine (ys4 166 (v := .ref (s + 0)) rfl rfl rfl rfl).trans ?_
            refine (ygr 169 rfl (zFS.tag hC.1 (j := 0) (by decide) rfl) rfl (hC.2.1 3 (by decide))).trans ?_
            refine (ys4 170 (v := .int (nI p)) rfl rfl rfl rfl).trans ?_
            refine (ys1 171 (x := 2) rfl rfl rfl).trans ?_
            refine (ywx 172 (N := 20) rfl (j := p) rfl (zFS.tag hC.1 (j := 4) (by decide) rfl) (zFS.k0 hC.1 (j := 4)) (zFS.ni hC.1 (j := 4) (by decide) rfl) (by omega) (by decide) rfl (zfl_up (j := 4) (by decide))).trans ?_
            generalize hS11 : zup S10 4 p (2) = S11
            have hIS11 : zIN T S11 := by rw [← hS11]; exact zIN_u hIS10 (by decide)
            refine (ys36v rfl rfl).trans ?_
            rw [show rfl_ S T p = S11 from by subst hS11 hS10 hS8 hS7 hS6; unfold rfl_; (try dsimp only); rw [if_neg h24, if_neg h103, if_pos h126, if_pos h141, if_neg h162]]; (first | done | rfl)
        · refine (ys36v rfl rfl).trans ?_
          rw [show rfl_ S T p = S8 from by subst hS8 hS7 hS6; unfold rfl_; (try dsimp only); rw [if_neg h24, if_neg h103, if_pos h126, if_neg h141]]; (first | done | rfl)
      · refine (ys36v rfl rfl).trans ?_
        rw [show rfl_ S T p = S8 from by subst hS8 hS7 hS6; unfold rfl_; (try dsimp only); rw [if_neg h24, if_neg h103, if_neg h126]]; (first | done | rfl)

theorem rfl_I {T S : zFn} {p : Nat} (hp : p < 20) (hI : zIN T S) : zIN T (rfl_ S T p) := by
  by_cases hc0 : ((T 8 p) + (S 10 p)) < (rfh S T p)
  · obtain ⟨S1, hS1⟩ : ∃ z_, zup S 6 p ((rnr (S 6 p) (S 8 p) (T 7 p))) = z_ := ⟨_, rfl⟩
    have hIS1 : zIN T S1 := by rw [← hS1]; exact zIN_u hI (by decide)
    obtain ⟨S2, hS2⟩ : ∃ z_, zup S1 7 p ((rnr (S1 7 p) (S1 9 p) (T 7 p))) = z_ := ⟨_, rfl⟩
    have hIS2 : zIN T S2 := by rw [← hS2]; exact zIN_u hIS1 (by decide)
    by_cases hc5 : (rfh S2 T p) = 0
    · obtain ⟨S3, hS3⟩ : ∃ z_, rla S2 T p = z_ := ⟨_, rfl⟩
      have hIS3 : zIN T S3 := by rw [← hS3]; exact rla_I hp hIS2
      rw [show rfl_ S T p = S3 from by subst hS3 hS2 hS1; unfold rfl_; (try dsimp only); rw [if_pos hc0, if_pos hc5]]; exact hIS3
    · by_cases hc9 : (S2 6 p) = (S2 8 p)
      · by_cases hc10 : (S2 7 p) = (S2 9 p)
        · obtain ⟨S4, hS4⟩ : ∃ z_, zup S2 10 p (((S2 10 p) + 1)) = z_ := ⟨_, rfl⟩
          have hIS4 : zIN T S4 := by rw [← hS4]; exact zIN_u hIS2 (by decide)
          by_cases hc13 : (S4 10 p) ≤ 24
          · rw [show rfl_ S T p = S4 from by subst hS4 hS2 hS1; unfold rfl_; (try dsimp only); rw [if_pos hc0, if_neg hc5, if_pos hc9, if_pos hc10, if_pos hc13]]; exact hIS4
          · obtain ⟨S5, hS5⟩ : ∃ z_, zup S4 4 p (2) = z_ := ⟨_, rfl⟩
            have hIS5 : zIN T S5 := by rw [← hS5]; exact zIN_u hIS4 (by decide)
            rw [show rfl_ S T p = S5 from by subst hS5 hS4 hS2 hS1; unfold rfl_; (try dsimp only); rw [if_pos hc0, if_neg hc5, if_pos hc9, if_pos hc10, if_neg hc13]]; exact hIS5
        · rw [show rfl_ S T p = S2 from by subst hS2 hS1; unfold rfl_; (try dsimp only); rw [if_pos hc0, if_neg hc5, if_pos hc9, if_neg hc10]]; exact hIS2
      · rw [show rfl_ S T p = S2 from by subst hS2 hS1; unfold rfl_; (try dsimp only); rw [if_pos hc0, if_neg hc5, if_neg hc9]]; exact hIS2
  · obtain ⟨S6, hS6⟩ : ∃ z_, raim S T p = z_ := ⟨_, rfl⟩
    have hIS6 : zIN T S6 := by rw [← hS6]; exact raim_I hI
    obtain ⟨S7, hS7⟩ : ∃ z_, zup S6 6 p ((rnr (S6 6 p) (S6 8 p) (T 7 p))) = z_ := ⟨_, rfl⟩
    have hIS7 : zIN T S7 := by rw [← hS7]; exact zIN_u hIS6 (by decide)
    obtain ⟨S8, hS8⟩ : ∃ z_, zup S7 7 p ((rnr (S7 7 p) (S7 9 p) (T 7 p))) = z_ := ⟨_, rfl⟩
    have hIS8 : zIN T S8 := by rw [← hS8]; exact zIN_u hIS7 (by decide)
    by_cases hc26 : (rfh S8 T p) = 0
    · obtain ⟨S9, hS9⟩ : ∃ z_, rla S8 T p = z_ := ⟨_, rfl⟩
      have hIS9 : zIN T S9 := by rw [← hS9]; exact rla_I hp hIS8
      rw [show rfl_ S T p = S9 from by subst hS9 hS8 hS7 hS6; unfold rfl_; (try dsimp only); rw [if_neg hc0, if_pos hc26]]; exact hIS9
    · by_cases hc30 : (S8 6 p) = (S8 8 p)
      · by_cases hc31 : (S8 7 p) = (S8 9 p)
        · obtain ⟨S10, hS10⟩ : ∃ z_, zup S8 10 p (((S8 10 p) + 1)) = z_ := ⟨_, rfl⟩
          have hIS10 : zIN T S10 := by rw [← hS10]; exact zIN_u hIS8 (by decide)
          by_cases hc34 : (S10 10 p) ≤ 24
          · rw [show rfl_ S T p = S10 from by subst hS10 hS8 hS7 hS6; unfold rfl_; (try dsimp only); rw [if_neg hc0, if_neg hc26, if_pos hc30, if_pos hc31, if_pos hc34]]; exact hIS10
          · obtain ⟨S11, hS11⟩ : ∃ z_, zup S10 4 p (2) = z_ := ⟨_, rfl⟩
            have hIS11 : zIN T S11 := by rw [← hS11]; exact zIN_u hIS10 (by decide)
            rw [show rfl_ S T p = S11 from by subst hS11 hS10 hS8 hS7 hS6; unfold rfl_; (try dsimp only); rw [if_neg hc0, if_neg hc26, if_pos hc30, if_pos hc31, if_neg hc34]]; exact hIS11
        · rw [show rfl_ S T p = S8 from by subst hS8 hS7 hS6; unfold rfl_; (try dsimp only); rw [if_neg hc0, if_neg hc26, if_pos hc30, if_neg hc31]]; exact hIS8
      · rw [show rfl_ S T p = S8 from by subst hS8 hS7 hS6; unfold rfl_; (try dsimp only); rw [if_neg hc0, if_neg hc26, if_neg hc30]]; exact hIS8

theorem nI_m1 {b : Nat} (hb : b < 20) : ¬ nI b = (-1) := by
  intro h
  have := congrArg Int32.toInt h
  rw [nI_toInt (by omega)] at this
  have h2 : (-1 : Int32).toInt = -1 := by decide
  omega

def rpy (S : zFn) (T : zFn) (h : Nat) (b : Nat) : zFn :=
  let S1 := zup S 4 b (2)
  let S2 := zup S1 16 h (((S1 16 h) + 1))
  let S3 := zup S2 15 h ((T 12 h))
  S3

theorem s_ry {d c sl : Nat} {x t s : Nat} {S T J : zFn} {μ : zM} (hC : zSC μ x t s J T) {h : Nat} (hh : h < 6) {b : Nat} (hb : b < 20) : zden1 (d + 1) (zden zcds (d + 1)) zc200 (122, [(2, .int (nI b)), (0, .ref (s + 0)), (1, .int (nI h))], [], c, sl, zwi μ (zfl J s 22 S)) = some (0, none, c, sl, zwi μ (zfl J s 22 ((rpy S T h b)))) := by
  refine (ys4 123 (v := .int (nI b)) rfl rfl rfl rfl).trans ?_
  refine (ys1 124 (x := (-1)) rfl rfl rfl).trans ?_
  refine ys18_1 127 rfl rfl (fun h124 => absurd h124 (nI_m1 hb)) (fun h124 => ?_)
  refine (ys4 129 (v := .ref (s + 0)) rfl rfl rfl rfl).trans ?_
  refine (ygr 132 rfl (zFS.tag hC.1 (j := 0) (by decide) rfl) rfl (hC.2.1 3 (by decide))).trans ?_
  refine (ys4 133 (v := .int (nI b)) rfl rfl rfl rfl).trans ?_
  refine (ys1 134 (x := 2) rfl rfl rfl).trans ?_
  refine (ywx 135 (N := 20) rfl (j := b) rfl (zFS.tag hC.1 (j := 4) (by decide) rfl) (zFS.k0 hC.1 (j := 4)) (zFS.ni hC.1 (j := 4) (by decide) rfl) (by omega) (by decide) rfl (zfl_up (j := 4) (by decide))).trans ?_
  generalize hS1 : zup S 4 b (2) = S1
  refine (ys4 136 (v := .ref (s + 0)) rfl rfl rfl rfl).trans ?_
  refine (ygr 139 rfl (zFS.tag hC.1 (j := 0) (by decide) rfl) rfl (hC.2.1 15 (by decide))).trans ?_
  refine (ys4 140 (v := .int (nI h)) rfl rfl rfl rfl).trans ?_
  refine (ys15 141 rfl (Nat.le_of_ble_eq_true rfl) (Nat.le_of_ble_eq_true rfl) rfl).trans ?_
  refine (ylx 142 (N := 6) rfl (j := h) rfl (Or.inl (zFS.tag hC.1 (j := 16) (by decide) rfl)) (zFS.ni hC.1 (j := 16) (by decide) rfl) (by omega) (by decide) rfl (zfl_at (j := 16) (by decide))).trans ?_
  refine (ys1 143 (x := 1) rfl rfl rfl).trans ?_
  refine (ys7_0 144 rfl rfl).trans ?_
  refine (ywx 145 (N := 6) rfl (j := h) rfl (zFS.tag hC.1 (j := 16) (by decide) rfl) (zFS.k0 hC.1 (j := 16)) (zFS.ni hC.1 (j := 16) (by decide) rfl) (by omega) (by decide) rfl (zfl_up (j := 16) (by decide))).trans ?_
  generalize hS2 : zup S1 16 h (((S1 16 h) + 1)) = S2
  refine (ys4 146 (v := .ref (s + 0)) rfl rfl rfl rfl).trans ?_
  refine (ygr 149 rfl (zFS.tag hC.1 (j := 0) (by decide) rfl) rfl (hC.2.1 14 (by decide))).trans ?_
  refine (ys4 150 (v := .int (nI h)) rfl rfl rfl rfl).trans ?_
  refine (ys4 151 (v := .ref (s + 0)) rfl rfl rfl rfl).trans ?_
  refine (ygr 154 rfl (zFS.tag hC.1 (j := 0) (by decide) rfl) rfl hC.2.2.1).trans ?_
  refine (ygr 157 rfl hC.2.2.2.2.2.1 rfl hC.2.2.2.2.2.2.1).trans ?_
  refine (ygr 160 rfl (zFS.tag hC.2.2.2.1 (j := 0) (by decide) rfl) rfl (hC.2.2.2.2.1 11 (by decide))).trans ?_
  refine (ys4 161 (v := .int (nI h)) rfl rfl rfl rfl).trans ?_
  refine (ylx 162 (N := 6) rfl (j := h) rfl (Or.inl (zFS.tag hC.2.2.2.1 (j := 12) (by decide) rfl)) (zFS.ni hC.2.2.2.1 (j := 12) (by decide) rfl) (by omega) (by decide) rfl (zst_rd hC (j := 12) (by decide))).trans ?_
  refine (ywx 163 (N := 6) rfl (j := h) rfl (zFS.tag hC.1 (j := 15) (by decide) rfl) (zFS.k0 hC.1 (j := 15)) (zFS.ni hC.1 (j := 15) (by decide) rfl) (by omega) (by decide) rfl (zfl_up (j := 15) (by decide))).trans ?_
  generalize hS3 : zup S2 15 h ((T 12 h)) = S3
  refine (ys36v rfl rfl).trans ?_
  rw [show rpy S T h b = S3 from by subst hS3 hS2 hS1; unfold rpy; (try dsimp only); first | done | rfl]; (first | done | rfl)

def rpyw (S T : zFn) (h : Nat) (b : Int32) : zFn := if b = (-1) then S else rpy S T h (zsf b 20)
theorem s_ryw {d c sl : Nat} {x t s : Nat} {S T J : zFn} {μ : zM} (hC : zSC μ x t s J T) {h : Nat} (hh : h < 6) {b : Int32} (hb : b = (-1) ∨ zix b 20) : zden1 (d + 1) (zden zcds (d + 1)) zc200 (122, [(2, .int b), (0, .ref (s + 0)), (1, .int (nI h))], [], c, sl, zwi μ (zfl J s 22 S)) = some (0, none, c, sl, zwi μ (zfl J s 22 (rpyw S T h b))) := by
  unfold rpyw
  by_cases h1 : b = (-1)
  · rw [if_pos h1]
    subst h1
    refine (ys4 123 (v := .int (-1)) rfl rfl rfl rfl).trans ?_
    refine (ys1 124 (x := (-1)) rfl rfl rfl).trans ?_
    refine ys18_1 127 rfl rfl (fun h124 => ?_) (fun h124 => absurd rfl h124)
    exact ys36v rfl rfl
  · rw [if_neg h1]
    have hx : zix b 20 := hb.resolve_left h1
    have e := hx.eq (by decide)
    have h2 := s_ry (d := d) (c := c) (sl := sl) (S := S) hC hh (b := zsf b 20) (zsf_lt (by decide) (by decide))
    rw [← e] at h2
    exact h2

def rhuL (S : zFn) (T : zFn) (h : Nat) : Nat → Nat → Int32 → Int32 → zFn
  | 0, i, a, b =>
    rpyw S T h b
  | m + 1, i, a, b =>
    if (S 4 i) = 1 then
      if (rapt (S 13 h) (S 14 h) (S 6 i) (S 7 i)) < a then
        rhuL S T h m (i + 1) (rapt (S 13 h) (S 14 h) (S 6 i) (S 7 i)) (nI i)
      else
        rhuL S T h m (i + 1) a b
    else
      if a < a then
        rhuL S T h m (i + 1) a (nI i)
      else
        rhuL S T h m (i + 1) a b

theorem l_rhu {d c sl : Nat} {x t s : Nat} {S T J : zFn} {μ : zM} (hC : zSC μ x t s J T) {h : Nat} (hh : h < 6) {nl np nh nk : Nat} (hN : zTN T nl np nh nk) : ∀ (m i : Nat) (a : Int32) (b : Int32), (b = (-1) ∨ zix b 20) → i + m = np → zden1 (d + 1) (zden zcds (d + 1)) zc200 (40, [(4, .int (nI i)), (3, .int (a)), (2, .int (b)), (0, .ref (s + 0)), (1, .int (nI h))], [], c, sl, zwi μ (zfl J s 22 S)) = some (0, none, c, sl, zwi μ (zfl J s 22 ((rhuL S T h m i a b))))
  | 0, i, a, b, hb, e => by
    refine (ys4 42 (v := .int (nI i)) rfl rfl rfl rfl).trans ?_
    refine (ys4 43 (v := .ref (s + 0)) rfl rfl rfl rfl).trans ?_
    refine (ygr 46 rfl (zFS.tag hC.1 (j := 0) (by decide) rfl) rfl hC.2.2.1).trans ?_
    refine (ygr 49 rfl hC.2.2.2.2.2.1 rfl hC.2.2.2.2.2.2.1).trans ?_
    refine (yg 52 rfl (zFS.tag hC.2.2.2.1 (j := 0) (by decide) rfl) (zFS.ni hC.2.2.2.1 (j := 0) (by decide) rfl) (by decide) rfl (zst_rd hC (j := 0) (by decide))).trans ?_
    refine ys18_3 55 rfl rfl (fun h52 => ?_) (fun h52 => absurd (by rw [hN.2.2.1]; exact nI_le (by omega) (by have := hN.2.2.2.1; omega)) h52)
    rw [show rhuL S T h 0 i a b = rpyw S T h b from by rw [rhuL]; (try dsimp only); first | done | rfl]; refine zden1_fg (L := [(2, .int (b)), (0, .ref (s + 0)), (1, .int (nI h))]) (zfg_cons rfl (zfg_cons rfl (zfg_cons rfl zfg_nil))) ?_; exact s_ryw hC hh hb
  | m + 1, i, a, b, hb, e => by
    have hi : i < 20 := by have := hN.2.2.2.1; omega
    refine (ys4 42 (v := .int (nI i)) rfl rfl rfl rfl).trans ?_
    refine (ys4 43 (v := .ref (s + 0)) rfl rfl rfl rfl).trans ?_
    refine (ygr 46 rfl (zFS.tag hC.1 (j := 0) (by decide) rfl) rfl hC.2.2.1).trans ?_
    refine (ygr 49 rfl hC.2.2.2.2.2.1 rfl hC.2.2.2.2.2.2.1).trans ?_
    refine (yg 52 rfl (zFS.tag hC.2.2.2.1 (j := 0) (by decide) rfl) (zFS.ni hC.2.2.2.1 (j := 0) (by decide) rfl) (by decide) rfl (zst_rd hC (j := 0) (by decide))).trans ?_
    refine ys18_3 55 rfl rfl (fun h52 => absurd h52 (by rw [hN.2.2.1]; exact nI_ge (by omega) (by have := hN.2.2.2.1; omega))) (fun h52 => ?_)
    refine (ys4 56 (v := .ref (s + 0)) rfl rfl rfl rfl).trans ?_
    refine (ygr 59 rfl (zFS.tag hC.1 (j := 0) (by decide) rfl) rfl (hC.2.1 3 (by decide))).trans ?_
    refine (ys4 61 (v := .int (nI i)) rfl rfl rfl rfl).trans ?_
    refine (ylx 62 (N := 20) rfl (j := i) rfl (Or.inl (zFS.tag hC.1 (j := 4) (by decide) rfl)) (zFS.ni hC.1 (j := 4) (by decide) rfl) (by omega) (by decide) rfl (zfl_at (j := 4) (by decide))).trans ?_
    refine (ys1 63 (x := 1) rfl rfl rfl).trans ?_
    refine ys18_1 66 rfl rfl (fun h63 => ?_) (fun h63 => ?_)
    · refine (ys4 67 (v := .ref (s + 0)) rfl rfl rfl rfl).trans ?_
      refine (ygr 70 rfl (zFS.tag hC.1 (j := 0) (by decide) rfl) rfl (hC.2.1 12 (by decide))).trans ?_
      refine (ys4 71 (v := .int (nI h)) rfl rfl rfl rfl).trans ?_
      refine (ylx 72 (N := 6) rfl (j := h) rfl (Or.inl (zFS.tag hC.1 (j := 13) (by decide) rfl)) (zFS.ni hC.1 (j := 13) (by decide) rfl) (by omega) (by decide) rfl (zfl_at (j := 13) (by decide))).trans ?_
      refine (ys4 73 (v := .ref (s + 0)) rfl rfl rfl rfl).trans ?_
      refine (ygr 76 rfl (zFS.tag hC.1 (j := 0) (by decide) rfl) rfl (hC.2.1 13 (by decide))).trans ?_
      refine (ys4 77 (v := .int (nI h)) rfl rfl rfl rfl).trans ?_
      refine (ylx 78 (N := 6) rfl (j := h) rfl (Or.inl (zFS.tag hC.1 (j := 14) (by decide) rfl)) (zFS.ni hC.1 (j := 14) (by decide) rfl) (by omega) (by decide) rfl (zfl_at (j := 14) (by decide))).trans ?_
      refine (ys4 79 (v := .ref (s + 0)) rfl rfl rfl rfl).trans ?_
      refine (ygr 82 rfl (zFS.tag hC.1 (j := 0) (by decide) rfl) rfl (hC.2.1 5 (by decide))).trans ?_
      refine (ys4 84 (v := .int (nI i)) rfl rfl rfl rfl).trans ?_
      refine (ylx 85 (N := 20) rfl (j := i) rfl (Or.inl (zFS.tag hC.1 (j := 6) (by decide) rfl)) (zFS.ni hC.1 (j := 6) (by decide) rfl) (by omega) (by decide) rfl (zfl_at (j := 6) (by decide))).trans ?_
      refine (ys4 86 (v := .ref (s + 0)) rfl rfl rfl rfl).trans ?_
      refine (ygr 89 rfl (zFS.tag hC.1 (j := 0) (by decide) rfl) rfl (hC.2.1 6 (by decide))).trans ?_
      refine (ys4 91 (v := .int (nI i)) rfl rfl rfl rfl).trans ?_
      refine (ylx 92 (N := 20) rfl (j := i) rfl (Or.inl (zFS.tag hC.1 (j := 7) (by decide) rfl)) (zFS.ni hC.1 (j := 7) (by decide) rfl) (by omega) (by decide) rfl (zfl_at (j := 7) (by decide))).trans ?_
      refine (yc4 95 rfl rfl (Nat.le_of_ble_eq_true rfl) (Or.inl rfl) rfl rfl c_apt).trans ?_
      refine (ys19 rfl).trans ?_
      refine (ys5 101 (L2 := [(5, .int ((rapt (S 13 h) (S 14 h) (S 6 i) (S 7 i)))), (4, .int (nI i)), (3, .int (a)), (2, .int (b)), (0, .ref (s + 0)), (1, .int (nI h))]) rfl rfl rfl rfl).trans ?_
      refine (ys4 103 (v := .int ((rapt (S 13 h) (S 14 h) (S 6 i) (S 7 i)))) rfl rfl rfl rfl).trans ?_
      refine (ys4 104 (v := .int (a)) rfl rfl rfl rfl).trans ?_
      refine ys18_2 107 rfl rfl (fun h104 => ?_) (fun h104 => ?_)
      · refine (ys4 112 (v := .int ((rapt (S 13 h) (S 14 h) (S 6 i) (S 7 i)))) rfl rfl rfl rfl).trans ?_
        refine (ys5 113 (L2 := [(3, .int ((rapt (S 13 h) (S 14 h) (S 6 i) (S 7 i)))), (5, .int ((rapt (S 13 h) (S 14 h) (S 6 i) (S 7 i)))), (4, .int (nI i)), (2, .int (b)), (0, .ref (s + 0)), (1, .int (nI h))]) rfl rfl rfl rfl).trans ?_
        refine (ys4 115 (v := .int (nI i)) rfl rfl rfl rfl).trans ?_
        refine (ys5 116 (L2 := [(2, .int (nI i)), (3, .int ((rapt (S 13 h) (S 14 h) (S 6 i) (S 7 i)))), (5, .int ((rapt (S 13 h) (S 14 h) (S 6 i) (S 7 i)))), (4, .int (nI i)), (0, .ref (s + 0)), (1, .int (nI h))]) rfl rfl rfl rfl).trans ?_
        refine (ys6 119 (y := nI (i + 1)) (L2 := [(4, .int (nI (i + 1))), (2, .int (nI i)), (3, .int ((rapt (S 13 h) (S 14 h) (S 6 i) (S 7 i)))), (5, .int ((rapt (S 13 h) (S 14 h) (S 6 i) (S 7 i)))), (0, .ref (s + 0)), (1, .int (nI h))]) rfl rfl (nI_1 _) rfl rfl).trans ?_
        refine (ys19 rfl).trans ?_
        rw [show rhuL S T h (m + 1) i a b = rhuL S T h m (i + 1) (rapt (S 13 h) (S 14 h) (S 6 i) (S 7 i)) (nI i) from by rw [rhuL]; (try dsimp only); rw [if_pos h63, if_pos h104]]; refine zden1_fg (L := [(4, .int (nI (i + 1))), (3, .int ((rapt (S 13 h) (S 14 h) (S 6 i) (S 7 i)))), (2, .int (nI i)), (0, .ref (s + 0)), (1, .int (nI h))]) (zfg_cons rfl (zfg_cons rfl (zfg_cons rfl (zfg_cons rfl (zfg_cons rfl zfg_nil))))) ?_; exact l_rhu hC hh hN m (i + 1) (rapt (S 13 h) (S 14 h) (S 6 i) (S 7 i)) (nI i)   (Or.inr (zin_nI hi (by decide))) (by omega)
      · refine (ys19 rfl).trans ?_
        refine (ys6 119 (y := nI (i + 1)) (L2 := [(4, .int (nI (i + 1))), (5, .int ((rapt (S 13 h) (S 14 h) (S 6 i) (S 7 i)))), (3, .int (a)), (2, .int (b)), (0, .ref (s + 0)), (1, .int (nI h))]) rfl rfl (nI_1 _) rfl rfl).trans ?_
        refine (ys19 rfl).trans ?_
        rw [show rhuL S T h (m + 1) i a b = rhuL S T h m (i + 1) a b from by rw [rhuL]; (try dsimp only); rw [if_pos h63, if_neg h104]]; refine zden1_fg (L := [(4, .int (nI (i + 1))), (3, .int (a)), (2, .int (b)), (0, .ref (s + 0)), (1, .int (nI h))]) (zfg_cons rfl (zfg_cons rfl (zfg_cons rfl (zfg_cons rfl (zfg_cons rfl zfg_nil))))) ?_; exact l_rhu hC hh hN m (i + 1) a b   hb (by omega)
    · refine (ys4 99 (v := .int (a)) rfl rfl rfl rfl).trans ?_
      refine (ys5 101 (L2 := [(5, .int (a)), (4, .int (nI i)), (3, .int (a)), (2, .int (b)), (0, .ref (s + 0)), (1, .int (nI h))]) rfl rfl rfl rfl).trans ?_
      refine (ys4 103 (v := .int (a)) rfl rfl rfl rfl).trans ?_
      refine (ys4 104 (v := .int (a)) rfl rfl rfl rfl).trans ?_
      refine ys18_2 107 rfl rfl (fun h104 => ?_) (fun h104 => ?_)
      · refine (ys4 112 (v := .int (a)) rfl rfl rfl rfl).trans ?_
        refine (ys5 113 (L2 := [(3, .int (a)), (5, .int (a)), (4, .int (nI i)), (2, .int (b)), (0, .ref (s + 0)), (1, .int (nI h))]) rfl rfl rfl rfl).trans ?_
        refine (ys4 115 (v := .int (nI i)) rfl rfl rfl rfl).trans ?_
        refine (ys5 116 (L2 := [(2, .int (nI i)), (3, .int (a)), (5, .int (a)), (4, .int (nI i)), (0, .ref (s + 0)), (1, .int (nI h))]) rfl rfl rfl rfl).trans ?_
        refine (ys6 119 (y := nI (i + 1)) (L2 := [(4, .int (nI (i + 1))), (2, .int (nI i)), (3, .int (a)), (5, .int (a)), (0, .ref (s + 0)), (1, .int (nI h))]) rfl rfl (nI_1 _) rfl rfl).trans ?_
        refine (ys19 rfl).trans ?_
        rw [show rhuL S T h (m + 1) i a b = rhuL S T h m (i + 1) a (nI i) from by rw [rhuL]; (try dsimp only); rw [if_neg h63, if_pos h104]]; refine zden1_fg (L := [(4, .int (nI (i + 1))), (3, .int (a)), (2, .int (nI i)), (0, .ref (s + 0)), (1, .int (nI h))]) (zfg_cons rfl (zfg_cons rfl (zfg_cons rfl (zfg_cons rfl (zfg_cons rfl zfg_nil))))) ?_; exact l_rhu hC hh hN m (i + 1) a (nI i)   (Or.inr (zin_nI hi (by decide))) (by omega)
      · refine (ys19 rfl).trans ?_
        refine (ys6 119 (y := nI (i + 1)) (L2 := [(4, .int (nI (i + 1))), (5, .int (a)), (3, .int (a)), (2, .int (b)), (0, .ref (s + 0)), (1, .int (nI h))]) rfl rfl (nI_1 _) rfl rfl).trans ?_
        refine (ys19 rfl).trans ?_
        rw [show rhuL S T h (m + 1) i a b = rhuL S T h m (i + 1) a b from by rw [rhuL]; (try dsimp only); rw [if_neg h63, if_neg h104]]; refine zden1_fg (L := [(4, .int (nI (i + 1))), (3, .int (a)), (2, .int (b)), (0, .ref (s + 0)), (1, .int (nI h))]) (zfg_cons rfl (zfg_cons rfl (zfg_cons rfl (zfg_cons rfl (zfg_cons rfl zfg_nil))))) ?_; exact l_rhu hC hh hN m (i + 1) a b   hb (by omega)

def rhu (S : zFn) (T : zFn) (h : Nat) (np : Nat) : zFn :=
  if (S 15 h) ≤ 0 then
    rhuL S T h np 0 ((T 11 h) + 1) (-1)
  else
    let S1 := zup S 15 h (((S 15 h) - 1))
    S1

theorem c_rhu {d : Nat} {x t s : Nat} {S T J : zFn} {μ : zM} (hC : zSC μ x t s J T) {h : Nat} (hh : h < 6) {nl np nh nk : Nat} (hN : zTN T nl np nh nk) : zden zcds (d + 2) 200 [.ref (s + 0), .int (nI h)] (zwi μ (zfl J s 22 S)) = some (0, none, 0, 0, zwi μ (zfl J s 22 ((rhu S T h np)))) := by
  refine (zd_in (d := d + 1) (cd := zc200) (nL := 6) (L := [(0, .ref (s + 0)), (1, .int (nI h))]) rfl (Nat.le_of_ble_eq_true rfl) rfl).trans ?_
  refine (ys4 1 (v := .ref (s + 0)) rfl rfl rfl rfl).trans ?_
  refine (ygr 4 rfl (zFS.tag hC.1 (j := 0) (by decide) rfl) rfl (hC.2.1 14 (by decide))).trans ?_
  refine (ys4 5 (v := .int (nI h)) rfl rfl rfl rfl).trans ?_
  refine (ylx 6 (N := 6) rfl (j := h) rfl (Or.inl (zFS.tag hC.1 (j := 15) (by decide) rfl)) (zFS.ni hC.1 (j := 15) (by decide) rfl) (by omega) (by decide) rfl (zfl_at (j := 15) (by decide))).trans ?_
  refine ys17_5 9 rfl rfl (fun h6 => ?_) (fun h6 => ?_)
  · refine (ys1 21 (x := (-1)) rfl rfl rfl).trans ?_
    refine (ys5 22 (L2 := [(2, .int ((-1))), (0, .ref (s + 0)), (1, .int (nI h))]) rfl rfl rfl rfl).trans ?_
    refine (ys4 23 (v := .ref (s + 0)) rfl rfl rfl rfl).trans ?_
    refine (ygr 26 rfl (zFS.tag hC.1 (j := 0) (by decide) rfl) rfl hC.2.2.1).trans ?_
    refine (ygr 29 rfl hC.2.2.2.2.2.1 rfl hC.2.2.2.2.2.2.1).trans ?_
    refine (ygr 32 rfl (zFS.tag hC.2.2.2.1 (j := 0) (by decide) rfl) rfl (hC.2.2.2.2.1 10 (by decide))).trans ?_
    refine (ys4 33 (v := .int (nI h)) rfl rfl rfl rfl).trans ?_
    refine (ylx 34 (N := 6) rfl (j := h) rfl (Or.inl (zFS.tag hC.2.2.2.1 (j := 11) (by decide) rfl)) (zFS.ni hC.2.2.2.1 (j := 11) (by decide) rfl) (by omega) (by decide) rfl (zst_rd hC (j := 11) (by decide))).trans ?_
    refine (ys1 35 (x := 1) rfl rfl rfl).trans ?_
    refine (ys7_0 36 rfl rfl).trans ?_
    refine (ys5 37 (L2 := [(3, .int (((T 11 h) + 1))), (2, .int ((-1))), (0, .ref (s + 0)), (1, .int (nI h))]) rfl rfl rfl rfl).trans ?_
    refine (ys1 38 (x := nI 0) rfl rfl rfl).trans ?_
    refine (ys5 40 (L2 := [(4, .int (nI 0)), (3, .int (((T 11 h) + 1))), (2, .int ((-1))), (0, .ref (s + 0)), (1, .int (nI h))]) rfl rfl rfl rfl).trans ?_
    rw [show rhu S T h np = rhuL S T h np 0 ((T 11 h) + 1) (-1) from by unfold rhu; rw [if_pos h6]]; exact l_rhu hC hh hN np 0 _ _ (Or.inl rfl) (by omega)
  · refine (ys4 10 (v := .ref (s + 0)) rfl rfl rfl rfl).trans ?_
    refine (ygr 13 rfl (zFS.tag hC.1 (j := 0) (by decide) rfl) rfl (hC.2.1 14 (by decide))).trans ?_
    refine (ys4 14 (v := .int (nI h)) rfl rfl rfl rfl).trans ?_
    refine (ys15 15 rfl (Nat.le_of_ble_eq_true rfl) (Nat.le_of_ble_eq_true rfl) rfl).trans ?_
    refine (ylx 16 (N := 6) rfl (j := h) rfl (Or.inl (zFS.tag hC.1 (j := 15) (by decide) rfl)) (zFS.ni hC.1 (j := 15) (by decide) rfl) (by omega) (by decide) rfl (zfl_at (j := 15) (by decide))).trans ?_
    refine (ys1 17 (x := 1) rfl rfl rfl).trans ?_
    refine (ys7_1 18 rfl rfl).trans ?_
    refine (ywx 19 (N := 6) rfl (j := h) rfl (zFS.tag hC.1 (j := 15) (by decide) rfl) (zFS.k0 hC.1 (j := 15)) (zFS.ni hC.1 (j := 15) (by decide) rfl) (by omega) (by decide) rfl (zfl_up (j := 15) (by decide))).trans ?_
    generalize hS1 : zup S 15 h (((S 15 h) - 1)) = S1
    refine (ys36v rfl rfl).trans ?_
    rw [show rhu S T h np = S1 from by subst hS1; unfold rhu; (try dsimp only); rw [if_neg h6]]; (first | done | rfl)

theorem rpy_I {T S : zFn} {h b : Nat} (hI : zIN T S) : zIN T (rpy S T h b) := by
  unfold rpy
  dsimp only
  repeat (first | exact hI | refine zIN_u ?_ (by decide))
theorem rpyw_I {T S : zFn} {h : Nat} {b : Int32} (hI : zIN T S) : zIN T (rpyw S T h b) := by
  unfold rpyw
  split
  · exact hI
  · exact rpy_I hI
theorem rhuL_I {T S : zFn} {h : Nat} (hI : zIN T S) : ∀ (m i : Nat) (a b : Int32), zIN T (rhuL S T h m i a b)
  | 0, i, a, b => by rw [rhuL]; exact rpyw_I hI
  | m + 1, i, a, b => by
    rw [rhuL]
    repeat' split
    all_goals exact rhuL_I hI m _ _ _
theorem rhu_I {T S : zFn} {h np : Nat} (hI : zIN T S) : zIN T (rhu S T h np) := by
  unfold rhu
  split
  · exact rhuL_I hI _ _ _ _
  · exact zIN_u hI (by decide)
theorem rgl_I {T S : zFn} {k : Nat} (hk : k < 6) (hI : zIN T S) : zIN T (rgl S T k) := by
  have hz := zsf_lt (i := S 3 k) (n := 6) (by decide) (by decide)
  unfold rgl
  dsimp only
  split
  · rename_i h13
    repeat' split
    all_goals first
      | exact zIN_u (zIN_u hI (by decide)) (by decide)
      | (refine zIN_n (zIN_u (zIN_u hI (by decide)) (by decide)) ?_
         exact (rrem (by have := zsf_lt (i := zup (zup S 1 k (rnr (S 1 k) (T 2 (6 * k + zsf (S 3 k) 6)) (T 4 k))) 2 k (rnr (zup S 1 k (rnr (S 1 k) (T 2 (6 * k + zsf (S 3 k) 6)) (T 4 k)) 2 k) (T 3 (6 * k + zsf (S 3 k) 6)) (T 4 k)) 3 k) (n := 6) (by decide) (by decide); omega) (i_nlt h13) (hI.2.1 k hk).1).2)
  · exact hI

