/-! A HAWK HUNTS -/
def vprey (V : zV) (h : Nat) (b : Int32) : zV :=
  if b < 0 then V else
  let V1 := zvu V 2 (zsf b 20) 0 2
  let V2 := zvu V1 3 h 4 (V1 3 h 3)
  zvu V2 3 h 5 (V2 3 h 5 + 1)
def vhuntL (V : zV) (h : Nat) : Nat → Nat → Int32 → Int32 → zV
  | 0, _, _, b => vprey V h b
  | m + 1, i, a, b =>
    if V 2 i 0 = 1 then
      if a ≤ zdst (V 3 h 0) (V 3 h 1) (V 2 i 5) (V 2 i 6) then vhuntL V h m (i + 1) a b
      else vhuntL V h m (i + 1) (zdst (V 3 h 0) (V 3 h 1) (V 2 i 5) (V 2 i 6)) (nI i)
    else vhuntL V h m (i + 1) a b
def vhunt (V : zV) (h n : Nat) : zV := if V 3 h 4 ≤ 0 then vhuntL V h n 0 (V 3 h 2 + 1) (-1) else zvu V 3 h 4 (V 3 h 4 - 1)

theorem l_hunt {d c sl : Nat} {w : Nat} {V : zV} {J : Nat → Nat → Int32} {μ : zM} (hW : zWS μ w) {h : Nat} (hh : h < 6) {n : Nat} (hc : V 0 0 1 = nI n) (hn : n ≤ 20) : ∀ (m i : Nat) (a b : Int32), i + m = n → zden1 (d + 3) (zden zcds (d + 3)) zc97 (30, [(4, .int (nI i)), (3, .int (b)), (2, .int (a)), (0, .ref (w)), (1, .ref (w + (43 + h)))], [], c, sl, zwi μ (zpc J w V)) = some (0, none, c, sl, zwi μ (zpc J w (vhuntL V h m i a b)))
  | 0, i, a, b, e => by
    rw [vhuntL]
    refine (ys4 32 (v := .int (nI i)) rfl rfl rfl rfl).trans ?_
    refine (ys4 33 (v := .ref (w)) rfl rfl rfl rfl).trans ?_
    refine (yg 36 rfl (zWS.tag hW (o := 0) (by decide) rfl) (zWS.ni hW (o := 0) (by decide) rfl) (by decide) rfl (zpc_at (o := 0) (q := 0) (i := 0) rfl (by decide))).trans ?_
    refine ys18_3 39 rfl rfl (fun h36 => ?_) (fun h36 => absurd (by rw [hc]; exact nI_le (by omega) (by omega)) h36)
    refine (ys4 98 (v := .int (b)) rfl rfl rfl rfl).trans ?_
    refine ys17_2 101 rfl rfl (fun h98 => ?_) (fun h98 => ?_)
    · refine (ys36v rfl rfl).trans ?_
      unfold vprey; (try dsimp only); rw [if_pos h98]; (first | done | rfl)
    · refine (ys4 102 (v := .ref (w)) rfl rfl rfl rfl).trans ?_
      refine (ys4 103 (v := .int (b)) rfl rfl rfl rfl).trans ?_
      refine (yc2 106 rfl rfl (Nat.le_of_ble_eq_true rfl) (Or.inr (by show ztg (zwi _ _) _ = _; rw [ztg_wi]; exact (zWS.tag hW (o := 0) (by decide) rfl))) rfl rfl (c_at2 hW)).trans ?_
      refine (ys1 107 (x := 2) rfl rfl rfl).trans ?_
      refine (yq 110 rfl (zWS.tag hW (o := 23 + (zsf b 20)) (zwT_2 _ (zsf_lt (i := b) (n := 20) (by decide) (by decide))).2.2 (zwT_2 _ (zsf_lt (i := b) (n := 20) (by decide) (by decide))).1) (zWS.k0 hW (o := 23 + (zsf b 20))) (zWS.ni hW (o := 23 + (zsf b 20)) (zwT_2 _ (zsf_lt (i := b) (n := 20) (by decide) (by decide))).2.2 (zwT_2 _ (zsf_lt (i := b) (n := 20) (by decide) (by decide))).2.1) (by decide) rfl (zpc_up (o := 23 + (zsf b 20)) (zpk_2 _ (zsf_lt (i := b) (n := 20) (by decide) (by decide))) (zwT_2 _ (zsf_lt (i := b) (n := 20) (by decide) (by decide))).2.2)).trans ?_
      generalize hV1 : zvu V 2 (zsf b 20) 0 (2) = V1
      refine (ys4 111 (v := .ref (w + (43 + h))) rfl rfl rfl rfl).trans ?_
      refine (ys4 112 (v := .ref (w + (43 + h))) rfl rfl rfl rfl).trans ?_
      refine (yg 115 rfl (zWS.tag hW (o := 43 + h) (zwT_3 _ hh).2.2 (zwT_3 _ hh).1) (zWS.ni hW (o := 43 + h) (zwT_3 _ hh).2.2 (zwT_3 _ hh).2.1) (by decide) rfl (zpc_at (o := 43 + h) (zpk_3 _ hh) (zwT_3 _ hh).2.2)).trans ?_
      refine (yq 118 rfl (zWS.tag hW (o := 43 + h) (zwT_3 _ hh).2.2 (zwT_3 _ hh).1) (zWS.k0 hW (o := 43 + h)) (zWS.ni hW (o := 43 + h) (zwT_3 _ hh).2.2 (zwT_3 _ hh).2.1) (by decide) rfl (zpc_up (o := 43 + h) (zpk_3 _ hh) (zwT_3 _ hh).2.2)).trans ?_
      generalize hV2 : zvu V1 3 h 4 ((V1 3 h 3)) = V2
      refine (ys4 119 (v := .ref (w + (43 + h))) rfl rfl rfl rfl).trans ?_
      refine (ys14 120 rfl (Nat.le_of_ble_eq_true rfl) rfl).trans ?_
      refine (yg 123 rfl (zWS.tag hW (o := 43 + h) (zwT_3 _ hh).2.2 (zwT_3 _ hh).1) (zWS.ni hW (o := 43 + h) (zwT_3 _ hh).2.2 (zwT_3 _ hh).2.1) (by decide) rfl (zpc_at (o := 43 + h) (zpk_3 _ hh) (zwT_3 _ hh).2.2)).trans ?_
      refine (ys1 124 (x := 1) rfl rfl rfl).trans ?_
      refine (ys7_0 125 rfl rfl).trans ?_
      refine (yq 128 rfl (zWS.tag hW (o := 43 + h) (zwT_3 _ hh).2.2 (zwT_3 _ hh).1) (zWS.k0 hW (o := 43 + h)) (zWS.ni hW (o := 43 + h) (zwT_3 _ hh).2.2 (zwT_3 _ hh).2.1) (by decide) rfl (zpc_up (o := 43 + h) (zpk_3 _ hh) (zwT_3 _ hh).2.2)).trans ?_
      generalize hV3 : zvu V2 3 h 5 (((V2 3 h 5) + 1)) = V3
      refine (ys36v rfl rfl).trans ?_
      subst hV3 hV2 hV1; unfold vprey; (try dsimp only); rw [if_neg h98]; (first | done | rfl)
  | m + 1, i, a, b, e => by
    have hi : i < 20 := by omega
    rw [vhuntL]
    refine (ys4 32 (v := .int (nI i)) rfl rfl rfl rfl).trans ?_
    refine (ys4 33 (v := .ref (w)) rfl rfl rfl rfl).trans ?_
    refine (yg 36 rfl (zWS.tag hW (o := 0) (by decide) rfl) (zWS.ni hW (o := 0) (by decide) rfl) (by decide) rfl (zpc_at (o := 0) (q := 0) (i := 0) rfl (by decide))).trans ?_
    refine ys18_3 39 rfl rfl (fun h36 => absurd h36 (by rw [hc]; exact nI_ge (by omega) (by omega))) (fun h36 => ?_)
    refine (ys4 40 (v := .ref (w)) rfl rfl rfl rfl).trans ?_
    refine (ys4 42 (v := .int (nI i)) rfl rfl rfl rfl).trans ?_
    refine (yc2 45 rfl rfl (Nat.le_of_ble_eq_true rfl) (Or.inr (by show ztg (zwi _ _) _ = _; rw [ztg_wi]; exact (zWS.tag hW (o := 0) (by decide) rfl))) rfl rfl (c_at2n hW hi)).trans ?_
    refine (ys5 47 (L2 := [(5, .ref (w + (23 + i))), (4, .int (nI i)), (3, .int (b)), (2, .int (a)), (0, .ref (w)), (1, .ref (w + (43 + h)))]) rfl rfl rfl rfl).trans ?_
    refine (ys4 49 (v := .ref (w + (23 + i))) rfl rfl rfl rfl).trans ?_
    refine (yg 52 rfl (zWS.tag hW (o := 23 + i) (zwT_2 _ hi).2.2 (zwT_2 _ hi).1) (zWS.ni hW (o := 23 + i) (zwT_2 _ hi).2.2 (zwT_2 _ hi).2.1) (by decide) rfl (zpc_at (o := 23 + i) (zpk_2 _ hi) (zwT_2 _ hi).2.2)).trans ?_
    refine (ys1 53 (x := 1) rfl rfl rfl).trans ?_
    refine ys18_1 56 rfl rfl (fun h53 => ?_) (fun h53 => ?_)
    · refine (ys4 57 (v := .ref (w + (43 + h))) rfl rfl rfl rfl).trans ?_
      refine (yg 60 rfl (zWS.tag hW (o := 43 + h) (zwT_3 _ hh).2.2 (zwT_3 _ hh).1) (zWS.ni hW (o := 43 + h) (zwT_3 _ hh).2.2 (zwT_3 _ hh).2.1) (by decide) rfl (zpc_at (o := 43 + h) (zpk_3 _ hh) (zwT_3 _ hh).2.2)).trans ?_
      refine (ys4 61 (v := .ref (w + (43 + h))) rfl rfl rfl rfl).trans ?_
      refine (yg 64 rfl (zWS.tag hW (o := 43 + h) (zwT_3 _ hh).2.2 (zwT_3 _ hh).1) (zWS.ni hW (o := 43 + h) (zwT_3 _ hh).2.2 (zwT_3 _ hh).2.1) (by decide) rfl (zpc_at (o := 43 + h) (zpk_3 _ hh) (zwT_3 _ hh).2.2)).trans ?_
      refine (ys4 66 (v := .ref (w + (23 + i))) rfl rfl rfl rfl).trans ?_
      refine (yg 69 rfl (zWS.tag hW (o := 23 + i) (zwT_2 _ hi).2.2 (zwT_2 _ hi).1) (zWS.ni hW (o := 23 + i) (zwT_2 _ hi).2.2 (zwT_2 _ hi).2.1) (by decide) rfl (zpc_at (o := 23 + i) (zpk_2 _ hi) (zwT_2 _ hi).2.2)).trans ?_
      refine (ys4 71 (v := .ref (w + (23 + i))) rfl rfl rfl rfl).trans ?_
      refine (yg 74 rfl (zWS.tag hW (o := 23 + i) (zwT_2 _ hi).2.2 (zwT_2 _ hi).1) (zWS.ni hW (o := 23 + i) (zwT_2 _ hi).2.2 (zwT_2 _ hi).2.1) (by decide) rfl (zpc_at (o := 23 + i) (zpk_2 _ hi) (zwT_2 _ hi).2.2)).trans ?_
      refine (yc4 77 rfl rfl (Nat.le_of_ble_eq_true rfl) (Or.inl rfl) rfl rfl c_dst).trans ?_
      refine (ys5 79 (L2 := [(6, .int ((zdst ((V 3 h 0)) ((V 3 h 1)) ((V 2 i 5)) ((V 2 i 6))))), (5, .ref (w + (23 + i))), (4, .int (nI i)), (3, .int (b)), (2, .int (a)), (0, .ref (w)), (1, .ref (w + (43 + h)))]) rfl rfl rfl rfl).trans ?_
      refine (ys4 81 (v := .int ((zdst ((V 3 h 0)) ((V 3 h 1)) ((V 2 i 5)) ((V 2 i 6))))) rfl rfl rfl rfl).trans ?_
      refine (ys4 82 (v := .int (a)) rfl rfl rfl rfl).trans ?_
      refine ys18_3 85 rfl rfl (fun h82 => ?_) (fun h82 => ?_)
      · refine (ys6 94 (y := nI (i + 1)) (L2 := [(4, .int (nI (i + 1))), (6, .int ((zdst ((V 3 h 0)) ((V 3 h 1)) ((V 2 i 5)) ((V 2 i 6))))), (5, .ref (w + (23 + i))), (3, .int (b)), (2, .int (a)), (0, .ref (w)), (1, .ref (w + (43 + h)))]) rfl rfl (nI_1 _) rfl rfl).trans ?_
        refine (ys19 rfl).trans ?_
        refine zden1_fg (L := [(4, .int (nI (i + 1))), (3, .int (b)), (2, .int (a)), (0, .ref (w)), (1, .ref (w + (43 + h)))]) (zfg_cons rfl (zfg_cons rfl (zfg_cons rfl (zfg_cons rfl (zfg_cons rfl zfg_nil))))) ?_; rw [if_pos h53, if_pos h82]; exact l_hunt hW hh hc hn m (i + 1) _ _ (by omega)
      · refine (ys4 87 (v := .int ((zdst ((V 3 h 0)) ((V 3 h 1)) ((V 2 i 5)) ((V 2 i 6))))) rfl rfl rfl rfl).trans ?_
        refine (ys5 88 (L2 := [(2, .int ((zdst ((V 3 h 0)) ((V 3 h 1)) ((V 2 i 5)) ((V 2 i 6))))), (6, .int ((zdst ((V 3 h 0)) ((V 3 h 1)) ((V 2 i 5)) ((V 2 i 6))))), (5, .ref (w + (23 + i))), (4, .int (nI i)), (3, .int (b)), (0, .ref (w)), (1, .ref (w + (43 + h)))]) rfl rfl rfl rfl).trans ?_
        refine (ys4 90 (v := .int (nI i)) rfl rfl rfl rfl).trans ?_
        refine (ys5 91 (L2 := [(3, .int (nI i)), (2, .int ((zdst ((V 3 h 0)) ((V 3 h 1)) ((V 2 i 5)) ((V 2 i 6))))), (6, .int ((zdst ((V 3 h 0)) ((V 3 h 1)) ((V 2 i 5)) ((V 2 i 6))))), (5, .ref (w + (23 + i))), (4, .int (nI i)), (0, .ref (w)), (1, .ref (w + (43 + h)))]) rfl rfl rfl rfl).trans ?_
        refine (ys6 94 (y := nI (i + 1)) (L2 := [(4, .int (nI (i + 1))), (3, .int (nI i)), (2, .int ((zdst ((V 3 h 0)) ((V 3 h 1)) ((V 2 i 5)) ((V 2 i 6))))), (6, .int ((zdst ((V 3 h 0)) ((V 3 h 1)) ((V 2 i 5)) ((V 2 i 6))))), (5, .ref (w + (23 + i))), (0, .ref (w)), (1, .ref (w + (43 + h)))]) rfl rfl (nI_1 _) rfl rfl).trans ?_
        refine (ys19 rfl).trans ?_
        refine zden1_fg (L := [(4, .int (nI (i + 1))), (3, .int (nI i)), (2, .int ((zdst ((V 3 h 0)) ((V 3 h 1)) ((V 2 i 5)) ((V 2 i 6))))), (0, .ref (w)), (1, .ref (w + (43 + h)))]) (zfg_cons rfl (zfg_cons rfl (zfg_cons rfl (zfg_cons rfl (zfg_cons rfl zfg_nil))))) ?_; rw [if_pos h53, if_neg h82]; exact l_hunt hW hh hc hn m (i + 1) _ _ (by omega)
    · refine (ys6 94 (y := nI (i + 1)) (L2 := [(4, .int (nI (i + 1))), (5, .ref (w + (23 + i))), (3, .int (b)), (2, .int (a)), (0, .ref (w)), (1, .ref (w + (43 + h)))]) rfl rfl (nI_1 _) rfl rfl).trans ?_
      refine (ys19 rfl).trans ?_
      refine zden1_fg (L := [(4, .int (nI (i + 1))), (3, .int (b)), (2, .int (a)), (0, .ref (w)), (1, .ref (w + (43 + h)))]) (zfg_cons rfl (zfg_cons rfl (zfg_cons rfl (zfg_cons rfl (zfg_cons rfl zfg_nil))))) ?_; rw [if_neg h53]; exact l_hunt hW hh hc hn m (i + 1) _ _ (by omega)

theorem c_hunt {d : Nat} {w : Nat} {V : zV} {J : Nat → Nat → Int32} {μ : zM} (hW : zWS μ w) {h : Nat} (hh : h < 6) {n : Nat} (hc : V 0 0 1 = nI n) (hn : n ≤ 20) : zden zcds (d + 4) 97 [.ref (w), .ref (w + (43 + h))] (zwi μ (zpc J w V)) = some (0, none, 0, 0, zwi μ (zpc J w (vhunt V h n))) := by
  refine (zd_in (d := d + 3) (cd := zc97) (nL := 7) (L := [(0, .ref (w)), (1, .ref (w + (43 + h)))]) rfl (Nat.le_of_ble_eq_true rfl) rfl).trans ?_
  refine (ys4 1 (v := .ref (w + (43 + h))) rfl rfl rfl rfl).trans ?_
  refine (yg 4 rfl (zWS.tag hW (o := 43 + h) (zwT_3 _ hh).2.2 (zwT_3 _ hh).1) (zWS.ni hW (o := 43 + h) (zwT_3 _ hh).2.2 (zwT_3 _ hh).2.1) (by decide) rfl (zpc_at (o := 43 + h) (zpk_3 _ hh) (zwT_3 _ hh).2.2)).trans ?_
  refine ys17_5 7 rfl rfl (fun h4 => ?_) (fun h4 => ?_)
  · refine (ys4 19 (v := .ref (w + (43 + h))) rfl rfl rfl rfl).trans ?_
    refine (yg 22 rfl (zWS.tag hW (o := 43 + h) (zwT_3 _ hh).2.2 (zwT_3 _ hh).1) (zWS.ni hW (o := 43 + h) (zwT_3 _ hh).2.2 (zwT_3 _ hh).2.1) (by decide) rfl (zpc_at (o := 43 + h) (zpk_3 _ hh) (zwT_3 _ hh).2.2)).trans ?_
    refine (ys1 23 (x := 1) rfl rfl rfl).trans ?_
    refine (ys7_0 24 rfl rfl).trans ?_
    refine (ys5 25 (L2 := [(2, .int (((V 3 h 2) + 1))), (0, .ref (w)), (1, .ref (w + (43 + h)))]) rfl rfl rfl rfl).trans ?_
    refine (ys1 26 (x := (-1)) rfl rfl rfl).trans ?_
    refine (ys5 27 (L2 := [(3, .int ((-1))), (2, .int (((V 3 h 2) + 1))), (0, .ref (w)), (1, .ref (w + (43 + h)))]) rfl rfl rfl rfl).trans ?_
    refine (ys1 28 (x := nI 0) rfl rfl rfl).trans ?_
    refine (ys5 30 (L2 := [(4, .int (nI 0)), (3, .int ((-1))), (2, .int (((V 3 h 2) + 1))), (0, .ref (w)), (1, .ref (w + (43 + h)))]) rfl rfl rfl rfl).trans ?_
    unfold vhunt; rw [if_pos h4]; exact l_hunt hW hh hc hn n 0 _ _ (by omega)
  · refine (ys4 8 (v := .ref (w + (43 + h))) rfl rfl rfl rfl).trans ?_
    refine (ys14 9 rfl (Nat.le_of_ble_eq_true rfl) rfl).trans ?_
    refine (yg 12 rfl (zWS.tag hW (o := 43 + h) (zwT_3 _ hh).2.2 (zwT_3 _ hh).1) (zWS.ni hW (o := 43 + h) (zwT_3 _ hh).2.2 (zwT_3 _ hh).2.1) (by decide) rfl (zpc_at (o := 43 + h) (zpk_3 _ hh) (zwT_3 _ hh).2.2)).trans ?_
    refine (ys1 13 (x := 1) rfl rfl rfl).trans ?_
    refine (ys7_1 14 rfl rfl).trans ?_
    refine (yq 17 rfl (zWS.tag hW (o := 43 + h) (zwT_3 _ hh).2.2 (zwT_3 _ hh).1) (zWS.k0 hW (o := 43 + h)) (zWS.ni hW (o := 43 + h) (zwT_3 _ hh).2.2 (zwT_3 _ hh).2.1) (by decide) rfl (zpc_up (o := 43 + h) (zpk_3 _ hh) (zwT_3 _ hh).2.2)).trans ?_
    generalize hV1 : zvu V 3 h 4 (((V 3 h 4) - 1)) = V1
    refine (ys36v rfl rfl).trans ?_
    subst hV1; unfold vhunt; (try dsimp only); rw [if_neg h4]; (first | done | rfl)

