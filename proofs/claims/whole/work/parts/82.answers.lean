/-! THE CLASS'S OWN METHODS: the post at p, its reader at r, the world now at n, the spare one at s. -/
def zrs (e : Nat) (v : Int32) (m : zM) : zR := if e = 0 then (0, some (.int v), 0, 0, m) else (e, none, 1, 6, m)
def zLC (μ : zM) (p r n s : Nat) : Prop := zK0 ≤ p ∧ ztg μ (p + 0) = 0 ∧ zni μ (p + 0) = 1 ∧ zgr μ (p + 0) 0 = some (r + 0) ∧ zgr μ (p + 0) 1 = some n ∧ zgr μ (p + 0) 2 = some s ∧ zWS μ n ∧ zWS μ s ∧ (n + 85 ≤ s ∨ s + 85 ≤ n) ∧ ztg μ (r + 0) = 1 ∧ zgr μ (r + 0) 0 = some (r + 1 + 0) ∧ ztg μ (r + 1 + 0) = 2 ∧ zni μ (r + 1 + 0) = 2 ∧ p < r ∧ r + 9 ≤ n ∧ r + 9 ≤ s
theorem zLtape {μ : zM} {p r n s : Nat} {J : zFn} {V U : zV} {tl : Int32} (hL : zLC μ p r n s) (h : J (r + 1 + 0) 0 = tl) : zpc (zpc J n V) s U (r + 1 + 0) 0 = tl := by
  have h1 := hL.2.2.2.2.2.2.2.2.2.2.2.2.2.2
  rw [zpc_out (by omega), zpc_out (by omega)]
  exact h
theorem zpc_up2 {J : zFn} {w u : Nat} {V U : zV} (hD : u + 85 ≤ w ∨ w + 85 ≤ u) {o q i k : Nat} {x : Int32} (hk : zpk o = (q, i)) (ho : o < 85) : zup (zpc (zpc J u U) w V) (u + o) k x = zpc (zpc J u (zvu U q i k x)) w V := by
  rw [zpc_swap hD, zpc_up hk ho, zpc_swap (by omega)]
theorem lnw {d m : Nat} {a : List Value} {μ : zM} {J : zFn} {n s : Nat} {V V' U : zV} {v : Option Value} {c e : Nat} (hD : n + 85 ≤ s ∨ s + 85 ≤ n) (h : ∀ K, zden zcds d m a (zwi μ (zpc K n V)) = some (0, v, c, e, zwi μ (zpc K n V'))) : zden zcds d m a (zwi μ (zpc (zpc J n V) s U)) = some (0, v, c, e, zwi μ (zpc (zpc J n V') s U)) := by
  rw [zpc_swap hD, h, zpc_swap (by omega)]
theorem ys21d {d : Nat} {call : Nat → List Value → zM → Option zR} {cd : List zRI} {pc : Nat} {L : zL} {st : List Value} {c sl len a b : Nat} {k : Int} {ext : List Nat} {μ : zM} {x : Int32} (pc' : Nat) (hf : zfetch cd pc = (21, len, a, b, k, ext)) (hb : b = pc') (h : ∀ j, j < ext.length → ext.getD j 0 = b ∨ ¬ x = Int32.ofNat (a + j)) : zden1 d call cd (pc, L, .int x :: st, c, sl, μ) = zden1 d call cd (pc', L, st, c, sl, μ) := by
  refine ys21k pc' hf ?_
  rw [← hb]
  split
  · rfl
  · rename_i hr
    have h1 : (x.toInt - a).toNat < ext.length := by omega
    rcases h _ h1 with h2 | h2
    · exact h2
    · exfalso
      apply h2
      apply Int32.toInt_inj.mp
      have hx := Int32.toInt_lt x
      rw [show Int32.ofNat (a + (x.toInt - a).toNat) = nI (a + (x.toInt - a).toNat) from rfl, nI_toInt (by omega)]
      omega
theorem ys22k {d : Nat} {call : Nat → List Value → zM → Option zR} {cd : List zRI} {pc : Nat} {L : zL} {st : List Value} {c sl len a b : Nat} {k : Int} {ext : List Nat} {μ : zM} {x : Int32} (pc' : Nat) (hf : zfetch cd pc = (22, len, a, b, k, ext)) (hx : zlk ext x b = pc') : zden1 d call cd (pc, L, .int x :: st, c, sl, μ) = zden1 d call cd (pc', L, st, c, sl, μ) := by
  rw [← hx]
  exact ys22 hf
theorem vhas_nI {V : zV} {f : Nat} {x : Int32} {m N : Nat} (hc : V 0 0 f = nI m) (hm : m ≤ N) (hN : N < 2 ^ 31) (h : ¬ vhas V f x = 0) : x = nI (zsf x N) ∧ zsf x N < m := by
  unfold vhas at h
  by_cases h0 : x < 0
  · rw [if_pos h0] at h; exact absurd rfl h
  · rw [if_neg h0] at h
    by_cases h1 : V 0 0 f ≤ x
    · rw [if_pos h1] at h; exact absurd rfl h
    · obtain ⟨j, hj, rfl⟩ := nI_of h0
      rw [hc] at h1
      have hjm : j < m := by
        rcases Nat.lt_or_ge j m with h2 | h2
        · exact h2
        · exact absurd (nI_le h2 hj) h1
      rw [zsf_nI (by omega) hN]
      exact ⟨rfl, hjm⟩
theorem c_lostx {d w : Nat} {V : zV} {J : Nat → Nat → Int32} {μ : zM} (hW : zWS μ w) {nl np nh nk : Nat} (hF : zWF V nl np nh nk) {k : Nat} {x : Int32} (hx : x = nI k) (hk : k < nk) : zden zcds (d + 5) 84 [.ref w, .int x] (zwi μ (zpc J w V)) = some (0, some (.int (vlost V k np)), 0, 0, zwi μ (zpc J w V)) := by
  subst hx
  exact c_lost hW hF (Nat.lt_of_lt_of_le hk hF.2.2.2.2.2.2.2.1) hk

def acou (V : zV) (np : Nat) (nk : Nat) (tl : Int32) (x : Int32) : Nat × Int32 :=
  if x = 0 then
    (0, (V 0 0 4))
  else
    if x = 1 then
      (0, (V 0 0 0))
    else
      if x = 2 then
        (0, (V 0 0 1))
      else
        if x = 3 then
          (0, (V 0 0 2))
        else
          if x = 4 then
            (0, (V 0 0 3))
          else
            if x = 5 then
              (0, (vpthL V 0 np 0 0))
            else
              if x = 6 then
                (0, (vpthL V 1 np 0 0))
              else
                if x = 7 then
                  (0, (vpthL V 2 np 0 0))
                else
                  if x = 8 then
                    (0, (zcnt (fun i => if varr V i = 0 then false else true) nk 0 0))
                  else
                    if x = 9 then
                      (0, (zcnt (fun i => if vlost V i np = 0 then false else true) nk 0 0))
                    else
                      if x = 10 then
                        (0, (V 0 0 5))
                      else
                        if x = 11 then
                          (0, (tl))
                        else
                          (1, 0)

theorem c_cou {d : Nat} {p r n s : Nat} {V U : zV} {J : zFn} {μ : zM} (hL : zLC μ p r n s) {nl np nh nk : Nat} (hF : zWF V nl np nh nk) {tl x : Int32} (htl : J (r + 1 + 0) 0 = tl) : zden zcds (d + 8) 5 [.ref (p + 0), .int (x)] (zwi μ (zpc (zpc J n V) s U)) = some (zrs ((acou V np nk tl x).1) ((acou V np nk tl x).2) (zwi μ (zpc (zpc J n V) s U))) := by
  refine (zd_in (d := d + 7) (cd := zc5) (nL := 2) (L := [(0, .ref (p + 0)), (1, .int (x))]) rfl (Nat.le_of_ble_eq_true rfl) rfl).trans ?_
  refine (ys4 1 (v := .int (x)) rfl rfl rfl rfl).trans ?_
  by_cases h1_0 : x = 0
  · refine (ys21k 64 rfl (by rw [h1_0]; decide)).trans ?_
    refine (ys4 65 (v := .ref (p + 0)) rfl rfl rfl rfl).trans ?_
    refine (ygr 68 rfl hL.2.1 rfl hL.2.2.2.2.1).trans ?_
    refine (yg 71 rfl (zWS.tag hL.2.2.2.2.2.2.1 (o := 0) (by decide) rfl) (zWS.ni hL.2.2.2.2.2.2.1 (o := 0) (by decide) rfl) (by decide) rfl (zpc_at2 hL.2.2.2.2.2.2.2.2.1 (o := 0) (q := 0) (i := 0) rfl (by decide))).trans ?_
    refine (ys36 rfl rfl).trans ?_
    rw [show acou V np nk tl x = (0, (V 0 0 4)) from by unfold acou; (try dsimp only); rw [if_pos h1_0]]; (first | done | rfl)
  by_cases h1_1 : x = 1
  · refine (ys21k 72 rfl (by rw [h1_1]; decide)).trans ?_
    refine (ys4 73 (v := .ref (p + 0)) rfl rfl rfl rfl).trans ?_
    refine (ygr 76 rfl hL.2.1 rfl hL.2.2.2.2.1).trans ?_
    refine (yg 79 rfl (zWS.tag hL.2.2.2.2.2.2.1 (o := 0) (by decide) rfl) (zWS.ni hL.2.2.2.2.2.2.1 (o := 0) (by decide) rfl) (by decide) rfl (zpc_at2 hL.2.2.2.2.2.2.2.2.1 (o := 0) (q := 0) (i := 0) rfl (by decide))).trans ?_
    refine (ys36 rfl rfl).trans ?_
    rw [show acou V np nk tl x = (0, (V 0 0 0)) from by unfold acou; (try dsimp only); rw [if_neg h1_0, if_pos h1_1]]; (first | done | rfl)
  by_cases h1_2 : x = 2
  · refine (ys21k 80 rfl (by rw [h1_2]; decide)).trans ?_
    refine (ys4 81 (v := .ref (p + 0)) rfl rfl rfl rfl).trans ?_
    refine (ygr 84 rfl hL.2.1 rfl hL.2.2.2.2.1).trans ?_
    refine (yg 87 rfl (zWS.tag hL.2.2.2.2.2.2.1 (o := 0) (by decide) rfl) (zWS.ni hL.2.2.2.2.2.2.1 (o := 0) (by decide) rfl) (by decide) rfl (zpc_at2 hL.2.2.2.2.2.2.2.2.1 (o := 0) (q := 0) (i := 0) rfl (by decide))).trans ?_
    refine (ys36 rfl rfl).trans ?_
    rw [show acou V np nk tl x = (0, (V 0 0 1)) from by unfold acou; (try dsimp only); rw [if_neg h1_0, if_neg h1_1, if_pos h1_2]]; (first | done | rfl)
  by_cases h1_3 : x = 3
  · refine (ys21k 88 rfl (by rw [h1_3]; decide)).trans ?_
    refine (ys4 89 (v := .ref (p + 0)) rfl rfl rfl rfl).trans ?_
    refine (ygr 92 rfl hL.2.1 rfl hL.2.2.2.2.1).trans ?_
    refine (yg 95 rfl (zWS.tag hL.2.2.2.2.2.2.1 (o := 0) (by decide) rfl) (zWS.ni hL.2.2.2.2.2.2.1 (o := 0) (by decide) rfl) (by decide) rfl (zpc_at2 hL.2.2.2.2.2.2.2.2.1 (o := 0) (q := 0) (i := 0) rfl (by decide))).trans ?_
    refine (ys36 rfl rfl).trans ?_
    rw [show acou V np nk tl x = (0, (V 0 0 2)) from by unfold acou; (try dsimp only); rw [if_neg h1_0, if_neg h1_1, if_neg h1_2, if_pos h1_3]]; (first | done | rfl)
  by_cases h1_4 : x = 4
  · refine (ys21k 96 rfl (by rw [h1_4]; decide)).trans ?_
    refine (ys4 97 (v := .ref (p + 0)) rfl rfl rfl rfl).trans ?_
    refine (ygr 100 rfl hL.2.1 rfl hL.2.2.2.2.1).trans ?_
    refine (yg 103 rfl (zWS.tag hL.2.2.2.2.2.2.1 (o := 0) (by decide) rfl) (zWS.ni hL.2.2.2.2.2.2.1 (o := 0) (by decide) rfl) (by decide) rfl (zpc_at2 hL.2.2.2.2.2.2.2.2.1 (o := 0) (q := 0) (i := 0) rfl (by decide))).trans ?_
    refine (ys36 rfl rfl).trans ?_
    rw [show acou V np nk tl x = (0, (V 0 0 3)) from by unfold acou; (try dsimp only); rw [if_neg h1_0, if_neg h1_1, if_neg h1_2, if_neg h1_3, if_pos h1_4]]; (first | done | rfl)
  by_cases h1_5 : x = 5
  · refine (ys21k 104 rfl (by rw [h1_5]; decide)).trans ?_
    refine (ys4 105 (v := .ref (p + 0)) rfl rfl rfl rfl).trans ?_
    refine (ygr 108 rfl hL.2.1 rfl hL.2.2.2.2.1).trans ?_
    refine (ys1 109 (x := 0) rfl rfl rfl).trans ?_
    refine (yc2 112 rfl rfl (Nat.le_of_ble_eq_true rfl) (Or.inr (by show ztg (zwi _ _) _ = _; rw [ztg_wi]; exact (zWS.tag hL.2.2.2.2.2.2.1 (o := 0) (by decide) rfl))) rfl rfl (lnw hL.2.2.2.2.2.2.2.2.1 (fun _ => c_pth hL.2.2.2.2.2.2.1 hF.2.2.1 hF.2.2.2.1))).trans ?_
    refine (ys36 rfl rfl).trans ?_
    rw [show acou V np nk tl x = (0, (vpthL V 0 np 0 0)) from by unfold acou; (try dsimp only); rw [if_neg h1_0, if_neg h1_1, if_neg h1_2, if_neg h1_3, if_neg h1_4, if_pos h1_5]]; (first | done | rfl)
  by_cases h1_6 : x = 6
  · refine (ys21k 113 rfl (by rw [h1_6]; decide)).trans ?_
    refine (ys4 114 (v := .ref (p + 0)) rfl rfl rfl rfl).trans ?_
    refine (ygr 117 rfl hL.2.1 rfl hL.2.2.2.2.1).trans ?_
    refine (ys1 118 (x := 1) rfl rfl rfl).trans ?_
    refine (yc2 121 rfl rfl (Nat.le_of_ble_eq_true rfl) (Or.inr (by show ztg (zwi _ _) _ = _; rw [ztg_wi]; exact (zWS.tag hL.2.2.2.2.2.2.1 (o := 0) (by decide) rfl))) rfl rfl (lnw hL.2.2.2.2.2.2.2.2.1 (fun _ => c_pth hL.2.2.2.2.2.2.1 hF.2.2.1 hF.2.2.2.1))).trans ?_
    refine (ys36 rfl rfl).trans ?_
    rw [show acou V np nk tl x = (0, (vpthL V 1 np 0 0)) from by unfold acou; (try dsimp only); rw [if_neg h1_0, if_neg h1_1, if_neg h1_2, if_neg h1_3, if_neg h1_4, if_neg h1_5, if_pos h1_6]]; (first | done | rfl)
  by_cases h1_7 : x = 7
  · refine (ys21k 122 rfl (by rw [h1_7]; decide)).trans ?_
    refine (ys4 123 (v := .ref (p + 0)) rfl rfl rfl rfl).trans ?_
    refine (ygr 126 rfl hL.2.1 rfl hL.2.2.2.2.1).trans ?_
    refine (ys1 127 (x := 2) rfl rfl rfl).trans ?_
    refine (yc2 130 rfl rfl (Nat.le_of_ble_eq_true rfl) (Or.inr (by show ztg (zwi _ _) _ = _; rw [ztg_wi]; exact (zWS.tag hL.2.2.2.2.2.2.1 (o := 0) (by decide) rfl))) rfl rfl (lnw hL.2.2.2.2.2.2.2.2.1 (fun _ => c_pth hL.2.2.2.2.2.2.1 hF.2.2.1 hF.2.2.2.1))).trans ?_
    refine (ys36 rfl rfl).trans ?_
    rw [show acou V np nk tl x = (0, (vpthL V 2 np 0 0)) from by unfold acou; (try dsimp only); rw [if_neg h1_0, if_neg h1_1, if_neg h1_2, if_neg h1_3, if_neg h1_4, if_neg h1_5, if_neg h1_6, if_pos h1_7]]; (first | done | rfl)
  by_cases h1_8 : x = 8
  · refine (ys21k 131 rfl (by rw [h1_8]; decide)).trans ?_
    refine (ys4 132 (v := .ref (p + 0)) rfl rfl rfl rfl).trans ?_
    refine (ygr 135 rfl hL.2.1 rfl hL.2.2.2.2.1).trans ?_
    refine (yc1 138 rfl rfl (Nat.le_of_ble_eq_true rfl) (Or.inr (by show ztg (zwi _ _) _ = _; rw [ztg_wi]; exact (zWS.tag hL.2.2.2.2.2.2.1 (o := 0) (by decide) rfl))) rfl rfl (lnw hL.2.2.2.2.2.2.2.2.1 (fun _ => c_al hL.2.2.2.2.2.2.1 hF))).trans ?_
    refine (ys36 rfl rfl).trans ?_
    rw [show acou V np nk tl x = (0, (zcnt (fun i => if varr V i = 0 then false else true) nk 0 0)) from by unfold acou; (try dsimp only); rw [if_neg h1_0, if_neg h1_1, if_neg h1_2, if_neg h1_3, if_neg h1_4, if_neg h1_5, if_neg h1_6, if_neg h1_7, if_pos h1_8]]; (first | done | rfl)
  by_cases h1_9 : x = 9
  · refine (ys21k 139 rfl (by rw [h1_9]; decide)).trans ?_
    refine (ys4 140 (v := .ref (p + 0)) rfl rfl rfl rfl).trans ?_
    refine (ygr 143 rfl hL.2.1 rfl hL.2.2.2.2.1).trans ?_
    refine (yc1 146 rfl rfl (Nat.le_of_ble_eq_true rfl) (Or.inr (by show ztg (zwi _ _) _ = _; rw [ztg_wi]; exact (zWS.tag hL.2.2.2.2.2.2.1 (o := 0) (by decide) rfl))) rfl rfl (lnw hL.2.2.2.2.2.2.2.2.1 (fun _ => c_ll hL.2.2.2.2.2.2.1 hF))).trans ?_
    refine (ys36 rfl rfl).trans ?_
    rw [show acou V np nk tl x = (0, (zcnt (fun i => if vlost V i np = 0 then false else true) nk 0 0)) from by unfold acou; (try dsimp only); rw [if_neg h1_0, if_neg h1_1, if_neg h1_2, if_neg h1_3, if_neg h1_4, if_neg h1_5, if_neg h1_6, if_neg h1_7, if_neg h1_8, if_pos h1_9]]; (first | done | rfl)
  by_cases h1_10 : x = 10
  · refine (ys21k 147 rfl (by rw [h1_10]; decide)).trans ?_
    refine (ys4 148 (v := .ref (p + 0)) rfl rfl rfl rfl).trans ?_
    refine (ygr 151 rfl hL.2.1 rfl hL.2.2.2.2.1).trans ?_
    refine (yg 154 rfl (zWS.tag hL.2.2.2.2.2.2.1 (o := 0) (by decide) rfl) (zWS.ni hL.2.2.2.2.2.2.1 (o := 0) (by decide) rfl) (by decide) rfl (zpc_at2 hL.2.2.2.2.2.2.2.2.1 (o := 0) (q := 0) (i := 0) rfl (by decide))).trans ?_
    refine (ys36 rfl rfl).trans ?_
    rw [show acou V np nk tl x = (0, (V 0 0 5)) from by unfold acou; (try dsimp only); rw [if_neg h1_0, if_neg h1_1, if_neg h1_2, if_neg h1_3, if_neg h1_4, if_neg h1_5, if_neg h1_6, if_neg h1_7, if_neg h1_8, if_neg h1_9, if_pos h1_10]]; (first | done | rfl)
  by_cases h1_11 : x = 11
  · refine (ys21k 155 rfl (by rw [h1_11]; decide)).trans ?_
    refine (ys4 156 (v := .ref (p + 0)) rfl rfl rfl rfl).trans ?_
    refine (ygr 159 rfl hL.2.1 rfl hL.2.2.2.1).trans ?_
    refine (ygr 162 rfl hL.2.2.2.2.2.2.2.2.2.1 rfl hL.2.2.2.2.2.2.2.2.2.2.1).trans ?_
    refine (yg 165 rfl hL.2.2.2.2.2.2.2.2.2.2.2.1 hL.2.2.2.2.2.2.2.2.2.2.2.2.1 (by decide) rfl (zLtape hL htl)).trans ?_
    refine (ys36 rfl rfl).trans ?_
    rw [show acou V np nk tl x = (0, (tl)) from by unfold acou; (try dsimp only); rw [if_neg h1_0, if_neg h1_1, if_neg h1_2, if_neg h1_3, if_neg h1_4, if_neg h1_5, if_neg h1_6, if_neg h1_7, if_neg h1_8, if_neg h1_9, if_neg h1_10, if_pos h1_11]]; (first | done | rfl)
  refine (ys21d 166 rfl rfl (fun j hj => by have hj2 : j < 12 := hj; have hj3 : j = 0 ∨ j = 1 ∨ j = 2 ∨ j = 3 ∨ j = 4 ∨ j = 5 ∨ j = 6 ∨ j = 7 ∨ j = 8 ∨ j = 9 ∨ j = 10 ∨ j = 11 := (by omega); rcases hj3 with rfl | rfl | rfl | rfl | rfl | rfl | rfl | rfl | rfl | rfl | rfl | rfl <;> first | exact Or.inl rfl | (exact Or.inr (by assumption)))).trans ?_
  refine (ys35 rfl (by omega) (Nat.le_of_ble_eq_true rfl)).trans ?_; rw [show acou V np nk tl x = (1, 0) from by unfold acou; (try dsimp only); rw [if_neg h1_0, if_neg h1_1, if_neg h1_2, if_neg h1_3, if_neg h1_4, if_neg h1_5, if_neg h1_6, if_neg h1_7, if_neg h1_8, if_neg h1_9, if_neg h1_10, if_neg h1_11]]; (first | done | rfl)

def alof (V : zV) (np : Nat) (nk : Nat) (x : Int32) (y : Int32) : Nat × Int32 :=
  if (vhas V 0 x) = 0 then
    (1, 0)
  else
    if y < 0 then
      (1, 0)
    else
      if y < 8 then
        if y = 0 then
          (0, (V 1 (zsf x 6) 1))
        else
          if y = 1 then
            (0, (V 1 (zsf x 6) 2))
          else
            if y = 2 then
              (0, (V 1 (zsf x 6) 3))
            else
              if y = 3 then
                (0, (V 1 (zsf x 6) 0))
              else
                if y = 4 then
                  (0, (V 1 (zsf x 6) 4))
                else
                  if y = 5 then
                    (0, (zcnt (fun i => if vcag V i x = 0 then false else true) np 0 0))
                  else
                    if y = 6 then
                      (0, (zcnt (fun i => if V 2 i 0 = 1 then if V 2 i 1 = x then true else false else false) np 0 0))
                    else
                      (0, (zcnt (fun i => if V 4 i 1 = x then true else false) nk 0 0))
      else
        (1, 0)

theorem c_lof {d : Nat} {p r n s : Nat} {V U : zV} {J : zFn} {μ : zM} (hL : zLC μ p r n s) {nl np nh nk : Nat} (hF : zWF V nl np nh nk) {x y : Int32} : zden zcds (d + 8) 6 [.ref (p + 0), .int (x), .int (y)] (zwi μ (zpc (zpc J n V) s U)) = some (zrs ((alof V np nk x y).1) ((alof V np nk x y).2) (zwi μ (zpc (zpc J n V) s U))) := by
  refine (zd_in (d := d + 7) (cd := zc6) (nL := 4) (L := [(0, .ref (p + 0)), (1, .int (x)), (2, .int (y))]) rfl (Nat.le_of_ble_eq_true rfl) rfl).trans ?_
  refine (ys4 1 (v := .ref (p + 0)) rfl rfl rfl rfl).trans ?_
  refine (ygr 4 rfl hL.2.1 rfl hL.2.2.2.2.1).trans ?_
  refine (ys4 5 (v := .int (x)) rfl rfl rfl rfl).trans ?_
  refine (yc2 8 rfl rfl (Nat.le_of_ble_eq_true rfl) (Or.inr (by show ztg (zwi _ _) _ = _; rw [ztg_wi]; exact (zWS.tag hL.2.2.2.2.2.2.1 (o := 0) (by decide) rfl))) rfl rfl (lnw hL.2.2.2.2.2.2.2.2.1 (fun _ => c_has0 hL.2.2.2.2.2.2.1))).trans ?_
  refine ys17_0 11 rfl rfl (fun h8 => ?_) (fun h8 => ?_)
  · refine (ys35 rfl (by omega) (Nat.le_of_ble_eq_true rfl)).trans ?_; rw [show alof V np nk x y = (1, 0) from by unfold alof; (try dsimp only); rw [if_pos h8]]; (first | done | rfl)
  · refine (ys4 12 (v := .int (y)) rfl rfl rfl rfl).trans ?_
    refine ys17_2 15 rfl rfl (fun h12 => ?_) (fun h12 => ?_)
    · refine (ys35 rfl (by omega) (Nat.le_of_ble_eq_true rfl)).trans ?_; rw [show alof V np nk x y = (1, 0) from by unfold alof; (try dsimp only); rw [if_neg h8, if_pos h12]]; (first | done | rfl)
    · refine (ys4 16 (v := .int (y)) rfl rfl rfl rfl).trans ?_
      refine (ys1 18 (x := 8) rfl rfl rfl).trans ?_
      refine ys18_2 21 rfl rfl (fun h18 => ?_) (fun h18 => ?_)
      · refine (ys4 32 (v := .ref (p + 0)) rfl rfl rfl rfl).trans ?_
        refine (ygr 35 rfl hL.2.1 rfl hL.2.2.2.2.1).trans ?_
        refine (ys4 36 (v := .int (x)) rfl rfl rfl rfl).trans ?_
        refine (yc2 39 rfl rfl (Nat.le_of_ble_eq_true rfl) (Or.inr (by show ztg (zwi _ _) _ = _; rw [ztg_wi]; exact (zWS.tag hL.2.2.2.2.2.2.1 (o := 0) (by decide) rfl))) rfl rfl (c_at1 hL.2.2.2.2.2.2.1)).trans ?_
        refine (ys5 40 (L2 := [(3, .ref (n + (5 + 3 * (zsf x 6)))), (0, .ref (p + 0)), (1, .int (x)), (2, .int (y))]) rfl rfl rfl rfl).trans ?_
        refine (ys4 41 (v := .int (y)) rfl rfl rfl rfl).trans ?_
        by_cases h41_0 : y = 0
        · refine (ys21k 84 rfl (by rw [h41_0]; decide)).trans ?_
          refine (ys4 85 (v := .ref (n + (5 + 3 * (zsf x 6)))) rfl rfl rfl rfl).trans ?_
          refine (yg 88 rfl (zWS.tag hL.2.2.2.2.2.2.1 (o := 5 + 3 * (zsf x 6)) (zwT_1 _ (zsf_lt (i := x) (n := 6) (by decide) (by decide))).2.2.2.2 (zwT_1 _ (zsf_lt (i := x) (n := 6) (by decide) (by decide))).1) (zWS.ni hL.2.2.2.2.2.2.1 (o := 5 + 3 * (zsf x 6)) (zwT_1 _ (zsf_lt (i := x) (n := 6) (by decide) (by decide))).2.2.2.2 (zwT_1 _ (zsf_lt (i := x) (n := 6) (by decide) (by decide))).2.1) (by decide) rfl (zpc_at2 hL.2.2.2.2.2.2.2.2.1 (o := 5 + 3 * (zsf x 6)) (zpk_1 _ (zsf_lt (i := x) (n := 6) (by decide) (by decide))) (zwT_1 _ (zsf_lt (i := x) (n := 6) (by decide) (by decide))).2.2.2.2)).trans ?_
          refine (ys36 rfl rfl).trans ?_
          rw [show alof V np nk x y = (0, (V 1 (zsf x 6) 1)) from by unfold alof; (try dsimp only); rw [if_neg h8, if_neg h12, if_pos h18, if_pos h41_0]]; (first | done | rfl)
        by_cases h41_1 : y = 1
        · refine (ys21k 89 rfl (by rw [h41_1]; decide)).trans ?_
          refine (ys4 90 (v := .ref (n + (5 + 3 * (zsf x 6)))) rfl rfl rfl rfl).trans ?_
          refine (yg 93 rfl (zWS.tag hL.2.2.2.2.2.2.1 (o := 5 + 3 * (zsf x 6)) (zwT_1 _ (zsf_lt (i := x) (n := 6) (by decide) (by decide))).2.2.2.2 (zwT_1 _ (zsf_lt (i := x) (n := 6) (by decide) (by decide))).1) (zWS.ni hL.2.2.2.2.2.2.1 (o := 5 + 3 * (zsf x 6)) (zwT_1 _ (zsf_lt (i := x) (n := 6) (by decide) (by decide))).2.2.2.2 (zwT_1 _ (zsf_lt (i := x) (n := 6) (by decide) (by decide))).2.1) (by decide) rfl (zpc_at2 hL.2.2.2.2.2.2.2.2.1 (o := 5 + 3 * (zsf x 6)) (zpk_1 _ (zsf_lt (i := x) (n := 6) (by decide) (by decide))) (zwT_1 _ (zsf_lt (i := x) (n := 6) (by decide) (by decide))).2.2.2.2)).trans ?_
          refine (ys36 rfl rfl).trans ?_
          rw [show alof V np nk x y = (0, (V 1 (zsf x 6) 2)) from by unfold alof; (try dsimp only); rw [if_neg h8, if_neg h12, if_pos h18, if_neg h41_0, if_pos h41_1]]; (first | done | rfl)
        by_cases h41_2 : y = 2
        · refine (ys21k 94 rfl (by rw [h41_2]; decide)).trans ?_
          refine (ys4 95 (v := .ref (n + (5 + 3 * (zsf x 6)))) rfl rfl rfl rfl).trans ?_
          refine (yg 98 rfl (zWS.tag hL.2.2.2.2.2.2.1 (o := 5 + 3 * (zsf x 6)) (zwT_1 _ (zsf_lt (i := x) (n := 6) (by decide) (by decide))).2.2.2.2 (zwT_1 _ (zsf_lt (i := x) (n := 6) (by decide) (by decide))).1) (zWS.ni hL.2.2.2.2.2.2.1 (o := 5 + 3 * (zsf x 6)) (zwT_1 _ (zsf_lt (i := x) (n := 6) (by decide) (by decide))).2.2.2.2 (zwT_1 _ (zsf_lt (i := x) (n := 6) (by decide) (by decide))).2.1) (by decide) rfl (zpc_at2 hL.2.2.2.2.2.2.2.2.1 (o := 5 + 3 * (zsf x 6)) (zpk_1 _ (zsf_lt (i := x) (n := 6) (by decide) (by decide))) (zwT_1 _ (zsf_lt (i := x) (n := 6) (by decide) (by decide))).2.2.2.2)).trans ?_
          refine (ys36 rfl rfl).trans ?_
          rw [show alof V np nk x y = (0, (V 1 (zsf x 6) 3)) from by unfold alof; (try dsimp only); rw [if_neg h8, if_neg h12, if_pos h18, if_neg h41_0, if_neg h41_1, if_pos h41_2]]; (first | done | rfl)
        by_cases h41_3 : y = 3
        · refine (ys21k 99 rfl (by rw [h41_3]; decide)).trans ?_
          refine (ys4 100 (v := .ref (n + (5 + 3 * (zsf x 6)))) rfl rfl rfl rfl).trans ?_
          refine (yg 103 rfl (zWS.tag hL.2.2.2.2.2.2.1 (o := 5 + 3 * (zsf x 6)) (zwT_1 _ (zsf_lt (i := x) (n := 6) (by decide) (by decide))).2.2.2.2 (zwT_1 _ (zsf_lt (i := x) (n := 6) (by decide) (by decide))).1) (zWS.ni hL.2.2.2.2.2.2.1 (o := 5 + 3 * (zsf x 6)) (zwT_1 _ (zsf_lt (i := x) (n := 6) (by decide) (by decide))).2.2.2.2 (zwT_1 _ (zsf_lt (i := x) (n := 6) (by decide) (by decide))).2.1) (by decide) rfl (zpc_at2 hL.2.2.2.2.2.2.2.2.1 (o := 5 + 3 * (zsf x 6)) (zpk_1 _ (zsf_lt (i := x) (n := 6) (by decide) (by decide))) (zwT_1 _ (zsf_lt (i := x) (n := 6) (by decide) (by decide))).2.2.2.2)).trans ?_
          refine (ys36 rfl rfl).trans ?_
          rw [show alof V np nk x y = (0, (V 1 (zsf x 6) 0)) from by unfold alof; (try dsimp only); rw [if_neg h8, if_neg h12, if_pos h18, if_neg h41_0, if_neg h41_1, if_neg h41_2, if_pos h41_3]]; (first | done | rfl)
        by_cases h41_4 : y = 4
        · refine (ys21k 104 rfl (by rw [h41_4]; decide)).trans ?_
          refine (ys4 105 (v := .ref (n + (5 + 3 * (zsf x 6)))) rfl rfl rfl rfl).trans ?_
          refine (yg 108 rfl (zWS.tag hL.2.2.2.2.2.2.1 (o := 5 + 3 * (zsf x 6)) (zwT_1 _ (zsf_lt (i := x) (n := 6) (by decide) (by decide))).2.2.2.2 (zwT_1 _ (zsf_lt (i := x) (n := 6) (by decide) (by decide))).1) (zWS.ni hL.2.2.2.2.2.2.1 (o := 5 + 3 * (zsf x 6)) (zwT_1 _ (zsf_lt (i := x) (n := 6) (by decide) (by decide))).2.2.2.2 (zwT_1 _ (zsf_lt (i := x) (n := 6) (by decide) (by decide))).2.1) (by decide) rfl (zpc_at2 hL.2.2.2.2.2.2.2.2.1 (o := 5 + 3 * (zsf x 6)) (zpk_1 _ (zsf_lt (i := x) (n := 6) (by decide) (by decide))) (zwT_1 _ (zsf_lt (i := x) (n := 6) (by decide) (by decide))).2.2.2.2)).trans ?_
          refine (ys36 rfl rfl).trans ?_
          rw [show alof V np nk x y = (0, (V 1 (zsf x 6) 4)) from by unfold alof; (try dsimp only); rw [if_neg h8, if_neg h12, if_pos h18, if_neg h41_0, if_neg h41_1, if_neg h41_2, if_neg h41_3, if_pos h41_4]]; (first | done | rfl)
        by_cases h41_5 : y = 5
        · refine (ys21k 109 rfl (by rw [h41_5]; decide)).trans ?_
          refine (ys4 110 (v := .ref (p + 0)) rfl rfl rfl rfl).trans ?_
          refine (ygr 113 rfl hL.2.1 rfl hL.2.2.2.2.1).trans ?_
          refine (ys4 114 (v := .int (x)) rfl rfl rfl rfl).trans ?_
          refine (yc2 117 rfl rfl (Nat.le_of_ble_eq_true rfl) (Or.inr (by show ztg (zwi _ _) _ = _; rw [ztg_wi]; exact (zWS.tag hL.2.2.2.2.2.2.1 (o := 0) (by decide) rfl))) rfl rfl (lnw hL.2.2.2.2.2.2.2.2.1 (fun _ => c_pic hL.2.2.2.2.2.2.1 hF))).trans ?_
          refine (ys36 rfl rfl).trans ?_
          rw [show alof V np nk x y = (0, (zcnt (fun i => if vcag V i x = 0 then false else true) np 0 0)) from by unfold alof; (try dsimp only); rw [if_neg h8, if_neg h12, if_pos h18, if_neg h41_0, if_neg h41_1, if_neg h41_2, if_neg h41_3, if_neg h41_4, if_pos h41_5]]; (first | done | rfl)
        by_cases h41_6 : y = 6
        · refine (ys21k 118 rfl (by rw [h41_6]; decide)).trans ?_
          refine (ys4 119 (v := .ref (p + 0)) rfl rfl rfl rfl).trans ?_
          refine (ygr 122 rfl hL.2.1 rfl hL.2.2.2.2.1).trans ?_
          refine (ys4 123 (v := .int (x)) rfl rfl rfl rfl).trans ?_
          refine (yc2 126 rfl rfl (Nat.le_of_ble_eq_true rfl) (Or.inr (by show ztg (zwi _ _) _ = _; rw [ztg_wi]; exact (zWS.tag hL.2.2.2.2.2.2.1 (o := 0) (by decide) rfl))) rfl rfl (lnw hL.2.2.2.2.2.2.2.2.1 (fun _ => c_hpf hL.2.2.2.2.2.2.1 hF))).trans ?_
          refine (ys36 rfl rfl).trans ?_
          rw [show alof V np nk x y = (0, (zcnt (fun i => if V 2 i 0 = 1 then if V 2 i 1 = x then true else false else false) np 0 0)) from by unfold alof; (try dsimp only); rw [if_neg h8, if_neg h12, if_pos h18, if_neg h41_0, if_neg h41_1, if_neg h41_2, if_neg h41_3, if_neg h41_4, if_neg h41_5, if_pos h41_6]]; (first | done | rfl)
        refine (ys21d 127 rfl rfl (fun j hj => by have hj2 : j < 7 := hj; have hj3 : j = 0 ∨ j = 1 ∨ j = 2 ∨ j = 3 ∨ j = 4 ∨ j = 5 ∨ j = 6 := (by omega); rcases hj3 with rfl | rfl | rfl | rfl | rfl | rfl | rfl <;> first | exact Or.inl rfl | (exact Or.inr (by assumption)))).trans ?_
        refine (ys4 128 (v := .ref (p + 0)) rfl rfl rfl rfl).trans ?_
        refine (ygr 131 rfl hL.2.1 rfl hL.2.2.2.2.1).trans ?_
        refine (ys4 132 (v := .int (x)) rfl rfl rfl rfl).trans ?_
        refine (yc2 135 rfl rfl (Nat.le_of_ble_eq_true rfl) (Or.inr (by show ztg (zwi _ _) _ = _; rw [ztg_wi]; exact (zWS.tag hL.2.2.2.2.2.2.1 (o := 0) (by decide) rfl))) rfl rfl (lnw hL.2.2.2.2.2.2.2.2.1 (fun _ => c_lin hL.2.2.2.2.2.2.1 hF))).trans ?_
        refine (ys36 rfl rfl).trans ?_
        rw [show alof V np nk x y = (0, (zcnt (fun i => if V 4 i 1 = x then true else false) nk 0 0)) from by unfold alof; (try dsimp only); rw [if_neg h8, if_neg h12, if_pos h18, if_neg h41_0, if_neg h41_1, if_neg h41_2, if_neg h41_3, if_neg h41_4, if_neg h41_5, if_neg h41_6]]; (first | done | rfl)
      · refine (ys35 rfl (by omega) (Nat.le_of_ble_eq_true rfl)).trans ?_; rw [show alof V np nk x y = (1, 0) from by unfold alof; (try dsimp only); rw [if_neg h8, if_neg h12, if_neg h18]]; (first | done | rfl)

def apig (V : zV) (x : Int32) (y : Int32) : Nat × Int32 :=
  if (vhas V 1 x) = 0 then
    (1, 0)
  else
    if y < 0 then
      (1, 0)
    else
      if y < 8 then
        if y = 0 then
          (0, (V 2 (zsf x 20) 0))
        else
          if y = 1 then
            (0, (vxo V (zsf x 20)))
          else
            if y = 2 then
              (0, (vyo V (zsf x 20)))
            else
              if y = 3 then
                (0, (V 2 (zsf x 20) 1))
              else
                if y = 4 then
                  if (V 2 (zsf x 20) 0) = 0 then
                    (0, (V 2 (zsf x 20) 2))
                  else
                    (0, (-1))
                else
                  if y = 5 then
                    if (V 2 (zsf x 20) 0) = 1 then
                      (0, (V 2 (zsf x 20) 10))
                    else
                      (0, (-1))
                  else
                    if y = 6 then
                      if (V 2 (zsf x 20) 0) = 1 then
                        (0, (V 2 (zsf x 20) 9))
                      else
                        (0, 0)
                    else
                      (0, (vdfh V (zsf x 20)))
      else
        (1, 0)

theorem c_pig {d : Nat} {p r n s : Nat} {V U : zV} {J : zFn} {μ : zM} (hL : zLC μ p r n s) {x y : Int32} : zden zcds (d + 8) 7 [.ref (p + 0), .int (x), .int (y)] (zwi μ (zpc (zpc J n V) s U)) = some (zrs ((apig V x y).1) ((apig V x y).2) (zwi μ (zpc (zpc J n V) s U))) := by
  refine (zd_in (d := d + 7) (cd := zc7) (nL := 4) (L := [(0, .ref (p + 0)), (1, .int (x)), (2, .int (y))]) rfl (Nat.le_of_ble_eq_true rfl) rfl).trans ?_
  refine (ys4 1 (v := .ref (p + 0)) rfl rfl rfl rfl).trans ?_
  refine (ygr 4 rfl hL.2.1 rfl hL.2.2.2.2.1).trans ?_
  refine (ys4 5 (v := .int (x)) rfl rfl rfl rfl).trans ?_
  refine (yc2 8 rfl rfl (Nat.le_of_ble_eq_true rfl) (Or.inr (by show ztg (zwi _ _) _ = _; rw [ztg_wi]; exact (zWS.tag hL.2.2.2.2.2.2.1 (o := 0) (by decide) rfl))) rfl rfl (lnw hL.2.2.2.2.2.2.2.2.1 (fun _ => c_has1 hL.2.2.2.2.2.2.1))).trans ?_
  refine ys17_0 11 rfl rfl (fun h8 => ?_) (fun h8 => ?_)
  · refine (ys35 rfl (by omega) (Nat.le_of_ble_eq_true rfl)).trans ?_; rw [show apig V x y = (1, 0) from by unfold apig; (try dsimp only); rw [if_pos h8]]; (first | done | rfl)
  · refine (ys4 12 (v := .int (y)) rfl rfl rfl rfl).trans ?_
    refine ys17_2 15 rfl rfl (fun h12 => ?_) (fun h12 => ?_)
    · refine (ys35 rfl (by omega) (Nat.le_of_ble_eq_true rfl)).trans ?_; rw [show apig V x y = (1, 0) from by unfold apig; (try dsimp only); rw [if_neg h8, if_pos h12]]; (first | done | rfl)
    · refine (ys4 16 (v := .int (y)) rfl rfl rfl rfl).trans ?_
      refine (ys1 18 (x := 8) rfl rfl rfl).trans ?_
      refine ys18_2 21 rfl rfl (fun h18 => ?_) (fun h18 => ?_)
      · refine (ys4 32 (v := .ref (p + 0)) rfl rfl rfl rfl).trans ?_
        refine (ygr 35 rfl hL.2.1 rfl hL.2.2.2.2.1).trans ?_
        refine (ys4 36 (v := .int (x)) rfl rfl rfl rfl).trans ?_
        refine (yc2 39 rfl rfl (Nat.le_of_ble_eq_true rfl) (Or.inr (by show ztg (zwi _ _) _ = _; rw [ztg_wi]; exact (zWS.tag hL.2.2.2.2.2.2.1 (o := 0) (by decide) rfl))) rfl rfl (c_at2 hL.2.2.2.2.2.2.1)).trans ?_
        refine (ys5 40 (L2 := [(3, .ref (n + (23 + (zsf x 20)))), (0, .ref (p + 0)), (1, .int (x)), (2, .int (y))]) rfl rfl rfl rfl).trans ?_
        refine (ys4 41 (v := .int (y)) rfl rfl rfl rfl).trans ?_
        by_cases h41_0 : y = 0
        · refine (ys21k 84 rfl (by rw [h41_0]; decide)).trans ?_
          refine (ys4 85 (v := .ref (n + (23 + (zsf x 20)))) rfl rfl rfl rfl).trans ?_
          refine (yg 88 rfl (zWS.tag hL.2.2.2.2.2.2.1 (o := 23 + (zsf x 20)) (zwT_2 _ (zsf_lt (i := x) (n := 20) (by decide) (by decide))).2.2 (zwT_2 _ (zsf_lt (i := x) (n := 20) (by decide) (by decide))).1) (zWS.ni hL.2.2.2.2.2.2.1 (o := 23 + (zsf x 20)) (zwT_2 _ (zsf_lt (i := x) (n := 20) (by decide) (by decide))).2.2 (zwT_2 _ (zsf_lt (i := x) (n := 20) (by decide) (by decide))).2.1) (by decide) rfl (zpc_at2 hL.2.2.2.2.2.2.2.2.1 (o := 23 + (zsf x 20)) (zpk_2 _ (zsf_lt (i := x) (n := 20) (by decide) (by decide))) (zwT_2 _ (zsf_lt (i := x) (n := 20) (by decide) (by decide))).2.2)).trans ?_
          refine (ys36 rfl rfl).trans ?_
          rw [show apig V x y = (0, (V 2 (zsf x 20) 0)) from by unfold apig; (try dsimp only); rw [if_neg h8, if_neg h12, if_pos h18, if_pos h41_0]]; (first | done | rfl)
        by_cases h41_1 : y = 1
        · refine (ys21k 89 rfl (by rw [h41_1]; decide)).trans ?_
          refine (ys4 90 (v := .ref (p + 0)) rfl rfl rfl rfl).trans ?_
          refine (ygr 93 rfl hL.2.1 rfl hL.2.2.2.2.1).trans ?_
          refine (ys4 94 (v := .ref (n + (23 + (zsf x 20)))) rfl rfl rfl rfl).trans ?_
          refine (yc2 97 rfl rfl (Nat.le_of_ble_eq_true rfl) (Or.inr (by show ztg (zwi _ _) _ = _; rw [ztg_wi]; exact (zWS.tag hL.2.2.2.2.2.2.1 (o := 0) (by decide) rfl))) rfl rfl (lnw hL.2.2.2.2.2.2.2.2.1 (fun _ => c_xOf hL.2.2.2.2.2.2.1 (zsf_lt (i := x) (n := 20) (by decide) (by decide))))).trans ?_
          refine (ys36 rfl rfl).trans ?_
          rw [show apig V x y = (0, (vxo V (zsf x 20))) from by unfold apig; (try dsimp only); rw [if_neg h8, if_neg h12, if_pos h18, if_neg h41_0, if_pos h41_1]]; (first | done | rfl)
        by_cases h41_2 : y = 2
        · refine (ys21k 98 rfl (by rw [h41_2]; decide)).trans ?_
          refine (ys4 99 (v := .ref (p + 0)) rfl rfl rfl rfl).trans ?_
          refine (ygr 102 rfl hL.2.1 rfl hL.2.2.2.2.1).trans ?_
          refine (ys4 103 (v := .ref (n + (23 + (zsf x 20)))) rfl rfl rfl rfl).trans ?_
          refine (yc2 106 rfl rfl (Nat.le_of_ble_eq_true rfl) (Or.inr (by show ztg (zwi _ _) _ = _; rw [ztg_wi]; exact (zWS.tag hL.2.2.2.2.2.2.1 (o := 0) (by decide) rfl))) rfl rfl (lnw hL.2.2.2.2.2.2.2.2.1 (fun _ => c_yOf hL.2.2.2.2.2.2.1 (zsf_lt (i := x) (n := 20) (by decide) (by decide))))).trans ?_
          refine (ys36 rfl rfl).trans ?_
          rw [show apig V x y = (0, (vyo V (zsf x 20))) from by unfold apig; (try dsimp only); rw [if_neg h8, if_neg h12, if_pos h18, if_neg h41_0, if_neg h41_1, if_pos h41_2]]; (first | done | rfl)
        by_cases h41_3 : y = 3
        · refine (ys21k 107 rfl (by rw [h41_3]; decide)).trans ?_
          refine (ys4 108 (v := .ref (n + (23 + (zsf x 20)))) rfl rfl rfl rfl).trans ?_
          refine (yg 111 rfl (zWS.tag hL.2.2.2.2.2.2.1 (o := 23 + (zsf x 20)) (zwT_2 _ (zsf_lt (i := x) (n := 20) (by decide) (by decide))).2.2 (zwT_2 _ (zsf_lt (i := x) (n := 20) (by decide) (by decide))).1) (zWS.ni hL.2.2.2.2.2.2.1 (o := 23 + (zsf x 20)) (zwT_2 _ (zsf_lt (i := x) (n := 20) (by decide) (by decide))).2.2 (zwT_2 _ (zsf_lt (i := x) (n := 20) (by decide) (by decide))).2.1) (by decide) rfl (zpc_at2 hL.2.2.2.2.2.2.2.2.1 (o := 23 + (zsf x 20)) (zpk_2 _ (zsf_lt (i := x) (n := 20) (by decide) (by decide))) (zwT_2 _ (zsf_lt (i := x) (n := 20) (by decide) (by decide))).2.2)).trans ?_
          refine (ys36 rfl rfl).trans ?_
          rw [show apig V x y = (0, (V 2 (zsf x 20) 1)) from by unfold apig; (try dsimp only); rw [if_neg h8, if_neg h12, if_pos h18, if_neg h41_0, if_neg h41_1, if_neg h41_2, if_pos h41_3]]; (first | done | rfl)
        by_cases h41_4 : y = 4
        · refine (ys21k 112 rfl (by rw [h41_4]; decide)).trans ?_
          refine (ys4 113 (v := .ref (n + (23 + (zsf x 20)))) rfl rfl rfl rfl).trans ?_
          refine (yg 116 rfl (zWS.tag hL.2.2.2.2.2.2.1 (o := 23 + (zsf x 20)) (zwT_2 _ (zsf_lt (i := x) (n := 20) (by decide) (by decide))).2.2 (zwT_2 _ (zsf_lt (i := x) (n := 20) (by decide) (by decide))).1) (zWS.ni hL.2.2.2.2.2.2.1 (o := 23 + (zsf x 20)) (zwT_2 _ (zsf_lt (i := x) (n := 20) (by decide) (by decide))).2.2 (zwT_2 _ (zsf_lt (i := x) (n := 20) (by decide) (by decide))).2.1) (by decide) rfl (zpc_at2 hL.2.2.2.2.2.2.2.2.1 (o := 23 + (zsf x 20)) (zpk_2 _ (zsf_lt (i := x) (n := 20) (by decide) (by decide))) (zwT_2 _ (zsf_lt (i := x) (n := 20) (by decide) (by decide))).2.2)).trans ?_
          refine ys17_1 119 rfl rfl (fun h116 => ?_) (fun h116 => ?_)
          · refine (ys4 120 (v := .ref (n + (23 + (zsf x 20)))) rfl rfl rfl rfl).trans ?_
            refine (yg 123 rfl (zWS.tag hL.2.2.2.2.2.2.1 (o := 23 + (zsf x 20)) (zwT_2 _ (zsf_lt (i := x) (n := 20) (by decide) (by decide))).2.2 (zwT_2 _ (zsf_lt (i := x) (n := 20) (by decide) (by decide))).1) (zWS.ni hL.2.2.2.2.2.2.1 (o := 23 + (zsf x 20)) (zwT_2 _ (zsf_lt (i := x) (n := 20) (by decide) (by decide))).2.2 (zwT_2 _ (zsf_lt (i := x) (n := 20) (by decide) (by decide))).2.1) (by decide) rfl (zpc_at2 hL.2.2.2.2.2.2.2.2.1 (o := 23 + (zsf x 20)) (zpk_2 _ (zsf_lt (i := x) (n := 20) (by decide) (by decide))) (zwT_2 _ (zsf_lt (i := x) (n := 20) (by decide) (by decide))).2.2)).trans ?_
            refine (ys19 rfl).trans ?_
            refine (ys36 rfl rfl).trans ?_
            rw [show apig V x y = (0, (V 2 (zsf x 20) 2)) from by unfold apig; (try dsimp only); rw [if_neg h8, if_neg h12, if_pos h18, if_neg h41_0, if_neg h41_1, if_neg h41_2, if_neg h41_3, if_pos h41_4, if_pos h116]]; (first | done | rfl)
          · refine (ys1 127 (x := (-1)) rfl rfl rfl).trans ?_
            refine (ys36 rfl rfl).trans ?_
            rw [show apig V x y = (0, (-1)) from by unfold apig; (try dsimp only); rw [if_neg h8, if_neg h12, if_pos h18, if_neg h41_0, if_neg h41_1, if_neg h41_2, if_neg h41_3, if_pos h41_4, if_neg h116]]; (first | done | rfl)
        by_cases h41_5 : y = 5
        · refine (ys21k 128 rfl (by rw [h41_5]; decide)).trans ?_
          refine (ys4 129 (v := .ref (n + (23 + (zsf x 20)))) rfl rfl rfl rfl).trans ?_
          refine (yg 132 rfl (zWS.tag hL.2.2.2.2.2.2.1 (o := 23 + (zsf x 20)) (zwT_2 _ (zsf_lt (i := x) (n := 20) (by decide) (by decide))).2.2 (zwT_2 _ (zsf_lt (i := x) (n := 20) (by decide) (by decide))).1) (zWS.ni hL.2.2.2.2.2.2.1 (o := 23 + (zsf x 20)) (zwT_2 _ (zsf_lt (i := x) (n := 20) (by decide) (by decide))).2.2 (zwT_2 _ (zsf_lt (i := x) (n := 20) (by decide) (by decide))).2.1) (by decide) rfl (zpc_at2 hL.2.2.2.2.2.2.2.2.1 (o := 23 + (zsf x 20)) (zpk_2 _ (zsf_lt (i := x) (n := 20) (by decide) (by decide))) (zwT_2 _ (zsf_lt (i := x) (n := 20) (by decide) (by decide))).2.2)).trans ?_
          refine (ys1 133 (x := 1) rfl rfl rfl).trans ?_
          refine ys18_1 136 rfl rfl (fun h133 => ?_) (fun h133 => ?_)
          · refine (ys4 137 (v := .ref (n + (23 + (zsf x 20)))) rfl rfl rfl rfl).trans ?_
            refine (yg 140 rfl (zWS.tag hL.2.2.2.2.2.2.1 (o := 23 + (zsf x 20)) (zwT_2 _ (zsf_lt (i := x) (n := 20) (by decide) (by decide))).2.2 (zwT_2 _ (zsf_lt (i := x) (n := 20) (by decide) (by decide))).1) (zWS.ni hL.2.2.2.2.2.2.1 (o := 23 + (zsf x 20)) (zwT_2 _ (zsf_lt (i := x) (n := 20) (by decide) (by decide))).2.2 (zwT_2 _ (zsf_lt (i := x) (n := 20) (by decide) (by decide))).2.1) (by decide) rfl (zpc_at2 hL.2.2.2.2.2.2.2.2.1 (o := 23 + (zsf x 20)) (zpk_2 _ (zsf_lt (i := x) (n := 20) (by decide) (by decide))) (zwT_2 _ (zsf_lt (i := x) (n := 20) (by decide) (by decide))).2.2)).trans ?_
            refine (ys19 rfl).trans ?_
            refine (ys36 rfl rfl).trans ?_
            rw [show apig V x y = (0, (V 2 (zsf x 20) 10)) from by unfold apig; (try dsimp only); rw [if_neg h8, if_neg h12, if_pos h18, if_neg h41_0, if_neg h41_1, if_neg h41_2, if_neg h41_3, if_neg h41_4, if_pos h41_5, if_pos h133]]; (first | done | rfl)
          · refine (ys1 144 (x := (-1)) rfl rfl rfl).trans ?_
            refine (ys36 rfl rfl).trans ?_
            rw [show apig V x y = (0, (-1)) from by unfold apig; (try dsimp only); rw [if_neg h8, if_neg h12, if_pos h18, if_neg h41_0, if_neg h41_1, if_neg h41_2, if_neg h41_3, if_neg h41_4, if_pos h41_5, if_neg h133]]; (first | done | rfl)
        by_cases h41_6 : y = 6
        · refine (ys21k 145 rfl (by rw [h41_6]; decide)).trans ?_
          refine (ys4 146 (v := .ref (n + (23 + (zsf x 20)))) rfl rfl rfl rfl).trans ?_
          refine (yg 149 rfl (zWS.tag hL.2.2.2.2.2.2.1 (o := 23 + (zsf x 20)) (zwT_2 _ (zsf_lt (i := x) (n := 20) (by decide) (by decide))).2.2 (zwT_2 _ (zsf_lt (i := x) (n := 20) (by decide) (by decide))).1) (zWS.ni hL.2.2.2.2.2.2.1 (o := 23 + (zsf x 20)) (zwT_2 _ (zsf_lt (i := x) (n := 20) (by decide) (by decide))).2.2 (zwT_2 _ (zsf_lt (i := x) (n := 20) (by decide) (by decide))).2.1) (by decide) rfl (zpc_at2 hL.2.2.2.2.2.2.2.2.1 (o := 23 + (zsf x 20)) (zpk_2 _ (zsf_lt (i := x) (n := 20) (by decide) (by decide))) (zwT_2 _ (zsf_lt (i := x) (n := 20) (by decide) (by decide))).2.2)).trans ?_
          refine (ys1 150 (x := 1) rfl rfl rfl).trans ?_
          refine ys18_1 153 rfl rfl (fun h150 => ?_) (fun h150 => ?_)
          · refine (ys4 154 (v := .ref (n + (23 + (zsf x 20)))) rfl rfl rfl rfl).trans ?_
            refine (yg 157 rfl (zWS.tag hL.2.2.2.2.2.2.1 (o := 23 + (zsf x 20)) (zwT_2 _ (zsf_lt (i := x) (n := 20) (by decide) (by decide))).2.2 (zwT_2 _ (zsf_lt (i := x) (n := 20) (by decide) (by decide))).1) (zWS.ni hL.2.2.2.2.2.2.1 (o := 23 + (zsf x 20)) (zwT_2 _ (zsf_lt (i := x) (n := 20) (by decide) (by decide))).2.2 (zwT_2 _ (zsf_lt (i := x) (n := 20) (by decide) (by decide))).2.1) (by decide) rfl (zpc_at2 hL.2.2.2.2.2.2.2.2.1 (o := 23 + (zsf x 20)) (zpk_2 _ (zsf_lt (i := x) (n := 20) (by decide) (by decide))) (zwT_2 _ (zsf_lt (i := x) (n := 20) (by decide) (by decide))).2.2)).trans ?_
            refine (ys19 rfl).trans ?_
            refine (ys36 rfl rfl).trans ?_
            rw [show apig V x y = (0, (V 2 (zsf x 20) 9)) from by unfold apig; (try dsimp only); rw [if_neg h8, if_neg h12, if_pos h18, if_neg h41_0, if_neg h41_1, if_neg h41_2, if_neg h41_3, if_neg h41_4, if_neg h41_5, if_pos h41_6, if_pos h150]]; (first | done | rfl)
          · refine (ys1 161 (x := 0) rfl rfl rfl).trans ?_
            refine (ys36 rfl rfl).trans ?_
            rw [show apig V x y = (0, 0) from by unfold apig; (try dsimp only); rw [if_neg h8, if_neg h12, if_pos h18, if_neg h41_0, if_neg h41_1, if_neg h41_2, if_neg h41_3, if_neg h41_4, if_neg h41_5, if_pos h41_6, if_neg h150]]; (first | done | rfl)
        refine (ys21d 162 rfl rfl (fun j hj => by have hj2 : j < 7 := hj; have hj3 : j = 0 ∨ j = 1 ∨ j = 2 ∨ j = 3 ∨ j = 4 ∨ j = 5 ∨ j = 6 := (by omega); rcases hj3 with rfl | rfl | rfl | rfl | rfl | rfl | rfl <;> first | exact Or.inl rfl | (exact Or.inr (by assumption)))).trans ?_
        refine (ys4 163 (v := .ref (p + 0)) rfl rfl rfl rfl).trans ?_
        refine (ygr 166 rfl hL.2.1 rfl hL.2.2.2.2.1).trans ?_
        refine (ys4 167 (v := .ref (n + (23 + (zsf x 20)))) rfl rfl rfl rfl).trans ?_
        refine (yc2 170 rfl rfl (Nat.le_of_ble_eq_true rfl) (Or.inr (by show ztg (zwi _ _) _ = _; rw [ztg_wi]; exact (zWS.tag hL.2.2.2.2.2.2.1 (o := 0) (by decide) rfl))) rfl rfl (lnw hL.2.2.2.2.2.2.2.2.1 (fun _ => c_dfh hL.2.2.2.2.2.2.1 (zsf_lt (i := x) (n := 20) (by decide) (by decide))))).trans ?_
        refine (ys36 rfl rfl).trans ?_
        rw [show apig V x y = (0, (vdfh V (zsf x 20))) from by unfold apig; (try dsimp only); rw [if_neg h8, if_neg h12, if_pos h18, if_neg h41_0, if_neg h41_1, if_neg h41_2, if_neg h41_3, if_neg h41_4, if_neg h41_5, if_neg h41_6]]; (first | done | rfl)
      · refine (ys35 rfl (by omega) (Nat.le_of_ble_eq_true rfl)).trans ?_; rw [show apig V x y = (1, 0) from by unfold apig; (try dsimp only); rw [if_neg h8, if_neg h12, if_neg h18]]; (first | done | rfl)

def ahaw (V : zV) (x : Int32) (y : Int32) : Nat × Int32 :=
  if (vhas V 2 x) = 0 then
    (1, 0)
  else
    if y < 0 then
      (1, 0)
    else
      if y < 5 then
        if y = 0 then
          (0, (V 3 (zsf x 6) 0))
        else
          if y = 1 then
            (0, (V 3 (zsf x 6) 1))
          else
            if y = 2 then
              (0, (V 3 (zsf x 6) 2))
            else
              if y = 3 then
                (0, (V 3 (zsf x 6) 4))
              else
                (0, (V 3 (zsf x 6) 5))
      else
        (1, 0)

theorem c_haw {d : Nat} {p r n s : Nat} {V U : zV} {J : zFn} {μ : zM} (hL : zLC μ p r n s) {x y : Int32} : zden zcds (d + 8) 8 [.ref (p + 0), .int (x), .int (y)] (zwi μ (zpc (zpc J n V) s U)) = some (zrs ((ahaw V x y).1) ((ahaw V x y).2) (zwi μ (zpc (zpc J n V) s U))) := by
  refine (zd_in (d := d + 7) (cd := zc8) (nL := 4) (L := [(0, .ref (p + 0)), (1, .int (x)), (2, .int (y))]) rfl (Nat.le_of_ble_eq_true rfl) rfl).trans ?_
  refine (ys4 1 (v := .ref (p + 0)) rfl rfl rfl rfl).trans ?_
  refine (ygr 4 rfl hL.2.1 rfl hL.2.2.2.2.1).trans ?_
  refine (ys4 5 (v := .int (x)) rfl rfl rfl rfl).trans ?_
  refine (yc2 8 rfl rfl (Nat.le_of_ble_eq_true rfl) (Or.inr (by show ztg (zwi _ _) _ = _; rw [ztg_wi]; exact (zWS.tag hL.2.2.2.2.2.2.1 (o := 0) (by decide) rfl))) rfl rfl (lnw hL.2.2.2.2.2.2.2.2.1 (fun _ => c_has2 hL.2.2.2.2.2.2.1))).trans ?_
  refine ys17_0 11 rfl rfl (fun h8 => ?_) (fun h8 => ?_)
  · refine (ys35 rfl (by omega) (Nat.le_of_ble_eq_true rfl)).trans ?_; rw [show ahaw V x y = (1, 0) from by unfold ahaw; (try dsimp only); rw [if_pos h8]]; (first | done | rfl)
  · refine (ys4 12 (v := .int (y)) rfl rfl rfl rfl).trans ?_
    refine ys17_2 15 rfl rfl (fun h12 => ?_) (fun h12 => ?_)
    · refine (ys35 rfl (by omega) (Nat.le_of_ble_eq_true rfl)).trans ?_; rw [show ahaw V x y = (1, 0) from by unfold ahaw; (try dsimp only); rw [if_neg h8, if_pos h12]]; (first | done | rfl)
    · refine (ys4 16 (v := .int (y)) rfl rfl rfl rfl).trans ?_
      refine (ys1 17 (x := 5) rfl rfl rfl).trans ?_
      refine ys18_2 20 rfl rfl (fun h17 => ?_) (fun h17 => ?_)
      · refine (ys4 31 (v := .ref (p + 0)) rfl rfl rfl rfl).trans ?_
        refine (ygr 34 rfl hL.2.1 rfl hL.2.2.2.2.1).trans ?_
        refine (ys4 35 (v := .int (x)) rfl rfl rfl rfl).trans ?_
        refine (yc2 38 rfl rfl (Nat.le_of_ble_eq_true rfl) (Or.inr (by show ztg (zwi _ _) _ = _; rw [ztg_wi]; exact (zWS.tag hL.2.2.2.2.2.2.1 (o := 0) (by decide) rfl))) rfl rfl (c_at3 hL.2.2.2.2.2.2.1)).trans ?_
        refine (ys5 39 (L2 := [(3, .ref (n + (43 + (zsf x 6)))), (0, .ref (p + 0)), (1, .int (x)), (2, .int (y))]) rfl rfl rfl rfl).trans ?_
        refine (ys4 40 (v := .int (y)) rfl rfl rfl rfl).trans ?_
        by_cases h40_0 : y = 0
        · refine (ys21k 72 rfl (by rw [h40_0]; decide)).trans ?_
          refine (ys4 73 (v := .ref (n + (43 + (zsf x 6)))) rfl rfl rfl rfl).trans ?_
          refine (yg 76 rfl (zWS.tag hL.2.2.2.2.2.2.1 (o := 43 + (zsf x 6)) (zwT_3 _ (zsf_lt (i := x) (n := 6) (by decide) (by decide))).2.2 (zwT_3 _ (zsf_lt (i := x) (n := 6) (by decide) (by decide))).1) (zWS.ni hL.2.2.2.2.2.2.1 (o := 43 + (zsf x 6)) (zwT_3 _ (zsf_lt (i := x) (n := 6) (by decide) (by decide))).2.2 (zwT_3 _ (zsf_lt (i := x) (n := 6) (by decide) (by decide))).2.1) (by decide) rfl (zpc_at2 hL.2.2.2.2.2.2.2.2.1 (o := 43 + (zsf x 6)) (zpk_3 _ (zsf_lt (i := x) (n := 6) (by decide) (by decide))) (zwT_3 _ (zsf_lt (i := x) (n := 6) (by decide) (by decide))).2.2)).trans ?_
          refine (ys36 rfl rfl).trans ?_
          rw [show ahaw V x y = (0, (V 3 (zsf x 6) 0)) from by unfold ahaw; (try dsimp only); rw [if_neg h8, if_neg h12, if_pos h17, if_pos h40_0]]; (first | done | rfl)
        by_cases h40_1 : y = 1
        · refine (ys21k 77 rfl (by rw [h40_1]; decide)).trans ?_
          refine (ys4 78 (v := .ref (n + (43 + (zsf x 6)))) rfl rfl rfl rfl).trans ?_
          refine (yg 81 rfl (zWS.tag hL.2.2.2.2.2.2.1 (o := 43 + (zsf x 6)) (zwT_3 _ (zsf_lt (i := x) (n := 6) (by decide) (by decide))).2.2 (zwT_3 _ (zsf_lt (i := x) (n := 6) (by decide) (by decide))).1) (zWS.ni hL.2.2.2.2.2.2.1 (o := 43 + (zsf x 6)) (zwT_3 _ (zsf_lt (i := x) (n := 6) (by decide) (by decide))).2.2 (zwT_3 _ (zsf_lt (i := x) (n := 6) (by decide) (by decide))).2.1) (by decide) rfl (zpc_at2 hL.2.2.2.2.2.2.2.2.1 (o := 43 + (zsf x 6)) (zpk_3 _ (zsf_lt (i := x) (n := 6) (by decide) (by decide))) (zwT_3 _ (zsf_lt (i := x) (n := 6) (by decide) (by decide))).2.2)).trans ?_
          refine (ys36 rfl rfl).trans ?_
          rw [show ahaw V x y = (0, (V 3 (zsf x 6) 1)) from by unfold ahaw; (try dsimp only); rw [if_neg h8, if_neg h12, if_pos h17, if_neg h40_0, if_pos h40_1]]; (first | done | rfl)
        by_cases h40_2 : y = 2
        · refine (ys21k 82 rfl (by rw [h40_2]; decide)).trans ?_
          refine (ys4 83 (v := .ref (n + (43 + (zsf x 6)))) rfl rfl rfl rfl).trans ?_
          refine (yg 86 rfl (zWS.tag hL.2.2.2.2.2.2.1 (o := 43 + (zsf x 6)) (zwT_3 _ (zsf_lt (i := x) (n := 6) (by decide) (by decide))).2.2 (zwT_3 _ (zsf_lt (i := x) (n := 6) (by decide) (by decide))).1) (zWS.ni hL.2.2.2.2.2.2.1 (o := 43 + (zsf x 6)) (zwT_3 _ (zsf_lt (i := x) (n := 6) (by decide) (by decide))).2.2 (zwT_3 _ (zsf_lt (i := x) (n := 6) (by decide) (by decide))).2.1) (by decide) rfl (zpc_at2 hL.2.2.2.2.2.2.2.2.1 (o := 43 + (zsf x 6)) (zpk_3 _ (zsf_lt (i := x) (n := 6) (by decide) (by decide))) (zwT_3 _ (zsf_lt (i := x) (n := 6) (by decide) (by decide))).2.2)).trans ?_
          refine (ys36 rfl rfl).trans ?_
          rw [show ahaw V x y = (0, (V 3 (zsf x 6) 2)) from by unfold ahaw; (try dsimp only); rw [if_neg h8, if_neg h12, if_pos h17, if_neg h40_0, if_neg h40_1, if_pos h40_2]]; (first | done | rfl)
        by_cases h40_3 : y = 3
        · refine (ys21k 87 rfl (by rw [h40_3]; decide)).trans ?_
          refine (ys4 88 (v := .ref (n + (43 + (zsf x 6)))) rfl rfl rfl rfl).trans ?_
          refine (yg 91 rfl (zWS.tag hL.2.2.2.2.2.2.1 (o := 43 + (zsf x 6)) (zwT_3 _ (zsf_lt (i := x) (n := 6) (by decide) (by decide))).2.2 (zwT_3 _ (zsf_lt (i := x) (n := 6) (by decide) (by decide))).1) (zWS.ni hL.2.2.2.2.2.2.1 (o := 43 + (zsf x 6)) (zwT_3 _ (zsf_lt (i := x) (n := 6) (by decide) (by decide))).2.2 (zwT_3 _ (zsf_lt (i := x) (n := 6) (by decide) (by decide))).2.1) (by decide) rfl (zpc_at2 hL.2.2.2.2.2.2.2.2.1 (o := 43 + (zsf x 6)) (zpk_3 _ (zsf_lt (i := x) (n := 6) (by decide) (by decide))) (zwT_3 _ (zsf_lt (i := x) (n := 6) (by decide) (by decide))).2.2)).trans ?_
          refine (ys36 rfl rfl).trans ?_
          rw [show ahaw V x y = (0, (V 3 (zsf x 6) 4)) from by unfold ahaw; (try dsimp only); rw [if_neg h8, if_neg h12, if_pos h17, if_neg h40_0, if_neg h40_1, if_neg h40_2, if_pos h40_3]]; (first | done | rfl)
        refine (ys21d 92 rfl rfl (fun j hj => by have hj2 : j < 4 := hj; have hj3 : j = 0 ∨ j = 1 ∨ j = 2 ∨ j = 3 := (by omega); rcases hj3 with rfl | rfl | rfl | rfl <;> first | exact Or.inl rfl | (exact Or.inr (by assumption)))).trans ?_
        refine (ys4 93 (v := .ref (n + (43 + (zsf x 6)))) rfl rfl rfl rfl).trans ?_
        refine (yg 96 rfl (zWS.tag hL.2.2.2.2.2.2.1 (o := 43 + (zsf x 6)) (zwT_3 _ (zsf_lt (i := x) (n := 6) (by decide) (by decide))).2.2 (zwT_3 _ (zsf_lt (i := x) (n := 6) (by decide) (by decide))).1) (zWS.ni hL.2.2.2.2.2.2.1 (o := 43 + (zsf x 6)) (zwT_3 _ (zsf_lt (i := x) (n := 6) (by decide) (by decide))).2.2 (zwT_3 _ (zsf_lt (i := x) (n := 6) (by decide) (by decide))).2.1) (by decide) rfl (zpc_at2 hL.2.2.2.2.2.2.2.2.1 (o := 43 + (zsf x 6)) (zpk_3 _ (zsf_lt (i := x) (n := 6) (by decide) (by decide))) (zwT_3 _ (zsf_lt (i := x) (n := 6) (by decide) (by decide))).2.2)).trans ?_
        refine (ys36 rfl rfl).trans ?_
        rw [show ahaw V x y = (0, (V 3 (zsf x 6) 5)) from by unfold ahaw; (try dsimp only); rw [if_neg h8, if_neg h12, if_pos h17, if_neg h40_0, if_neg h40_1, if_neg h40_2, if_neg h40_3]]; (first | done | rfl)
      · refine (ys35 rfl (by omega) (Nat.le_of_ble_eq_true rfl)).trans ?_; rw [show ahaw V x y = (1, 0) from by unfold ahaw; (try dsimp only); rw [if_neg h8, if_neg h12, if_neg h17]]; (first | done | rfl)

def alett (V : zV) (np : Nat) (nk : Nat) (x : Int32) (y : Int32) : Nat × Int32 :=
  if (vhas V 3 x) = 0 then
    (1, 0)
  else
    if y < 0 then
      (1, 0)
    else
      if y < 8 then
        if y = 0 then
          (0, (V 4 (zsf x 12) 1))
        else
          if y = 1 then
            (0, (V 4 (zsf x 12) 2))
          else
            if y = 2 then
              (0, (V 4 (zsf x 12) 0))
            else
              if y = 3 then
                if (varr V (zsf x 12)) = 0 then
                  (0, 0)
                else
                  (0, 1)
              else
                if y = 4 then
                  if (vlost V (zsf x 12) np) = 0 then
                    (0, 0)
                  else
                    (0, 1)
                else
                  if y = 5 then
                    (0, (zcnt (fun i => if V 2 i 0 = 1 then if V 2 i 10 = x then true else false else false) np 0 0))
                  else
                    if y = 6 then
                      (0, (V 4 (zsf x 12) 4))
                    else
                      (0, (V 4 (zsf x 12) 5))
      else
        (1, 0)

theorem c_lett {d : Nat} {p r n s : Nat} {V U : zV} {J : zFn} {μ : zM} (hL : zLC μ p r n s) {nl np nh nk : Nat} (hF : zWF V nl np nh nk) {x y : Int32} : zden zcds (d + 8) 9 [.ref (p + 0), .int (x), .int (y)] (zwi μ (zpc (zpc J n V) s U)) = some (zrs ((alett V np nk x y).1) ((alett V np nk x y).2) (zwi μ (zpc (zpc J n V) s U))) := by
  refine (zd_in (d := d + 7) (cd := zc9) (nL := 4) (L := [(0, .ref (p + 0)), (1, .int (x)), (2, .int (y))]) rfl (Nat.le_of_ble_eq_true rfl) rfl).trans ?_
  refine (ys4 1 (v := .ref (p + 0)) rfl rfl rfl rfl).trans ?_
  refine (ygr 4 rfl hL.2.1 rfl hL.2.2.2.2.1).trans ?_
  refine (ys4 5 (v := .int (x)) rfl rfl rfl rfl).trans ?_
  refine (yc2 8 rfl rfl (Nat.le_of_ble_eq_true rfl) (Or.inr (by show ztg (zwi _ _) _ = _; rw [ztg_wi]; exact (zWS.tag hL.2.2.2.2.2.2.1 (o := 0) (by decide) rfl))) rfl rfl (lnw hL.2.2.2.2.2.2.2.2.1 (fun _ => c_has3 hL.2.2.2.2.2.2.1))).trans ?_
  refine ys17_0 11 rfl rfl (fun h8 => ?_) (fun h8 => ?_)
  · refine (ys35 rfl (by omega) (Nat.le_of_ble_eq_true rfl)).trans ?_; rw [show alett V np nk x y = (1, 0) from by unfold alett; (try dsimp only); rw [if_pos h8]]; (first | done | rfl)
  · refine (ys4 12 (v := .int (y)) rfl rfl rfl rfl).trans ?_
    refine ys17_2 15 rfl rfl (fun h12 => ?_) (fun h12 => ?_)
    · refine (ys35 rfl (by omega) (Nat.le_of_ble_eq_true rfl)).trans ?_; rw [show alett V np nk x y = (1, 0) from by unfold alett; (try dsimp only); rw [if_neg h8, if_pos h12]]; (first | done | rfl)
    · refine (ys4 16 (v := .int (y)) rfl rfl rfl rfl).trans ?_
      refine (ys1 18 (x := 8) rfl rfl rfl).trans ?_
      refine ys18_2 21 rfl rfl (fun h18 => ?_) (fun h18 => ?_)
      · have hx := vhas_nI (N := 12) hF.2.2.2.2.2.2.1 hF.2.2.2.2.2.2.2.1 (by decide) h8
        refine (ys4 32 (v := .ref (p + 0)) rfl rfl rfl rfl).trans ?_
        refine (ygr 35 rfl hL.2.1 rfl hL.2.2.2.2.1).trans ?_
        refine (ys4 36 (v := .int (x)) rfl rfl rfl rfl).trans ?_
        refine (yc2 39 rfl rfl (Nat.le_of_ble_eq_true rfl) (Or.inr (by show ztg (zwi _ _) _ = _; rw [ztg_wi]; exact (zWS.tag hL.2.2.2.2.2.2.1 (o := 0) (by decide) rfl))) rfl rfl (c_at4 hL.2.2.2.2.2.2.1)).trans ?_
        refine (ys5 40 (L2 := [(3, .ref (n + (49 + 3 * (zsf x 12)))), (0, .ref (p + 0)), (1, .int (x)), (2, .int (y))]) rfl rfl rfl rfl).trans ?_
        refine (ys4 41 (v := .int (y)) rfl rfl rfl rfl).trans ?_
        by_cases h41_0 : y = 0
        · refine (ys21k 84 rfl (by rw [h41_0]; decide)).trans ?_
          refine (ys4 85 (v := .ref (n + (49 + 3 * (zsf x 12)))) rfl rfl rfl rfl).trans ?_
          refine (yg 88 rfl (zWS.tag hL.2.2.2.2.2.2.1 (o := 49 + 3 * (zsf x 12)) (zwT_4 _ (zsf_lt (i := x) (n := 12) (by decide) (by decide))).2.2.2.2 (zwT_4 _ (zsf_lt (i := x) (n := 12) (by decide) (by decide))).1) (zWS.ni hL.2.2.2.2.2.2.1 (o := 49 + 3 * (zsf x 12)) (zwT_4 _ (zsf_lt (i := x) (n := 12) (by decide) (by decide))).2.2.2.2 (zwT_4 _ (zsf_lt (i := x) (n := 12) (by decide) (by decide))).2.1) (by decide) rfl (zpc_at2 hL.2.2.2.2.2.2.2.2.1 (o := 49 + 3 * (zsf x 12)) (zpk_4 _ (zsf_lt (i := x) (n := 12) (by decide) (by decide))) (zwT_4 _ (zsf_lt (i := x) (n := 12) (by decide) (by decide))).2.2.2.2)).trans ?_
          refine (ys36 rfl rfl).trans ?_
          rw [show alett V np nk x y = (0, (V 4 (zsf x 12) 1)) from by unfold alett; (try dsimp only); rw [if_neg h8, if_neg h12, if_pos h18, if_pos h41_0]]; (first | done | rfl)
        by_cases h41_1 : y = 1
        · refine (ys21k 89 rfl (by rw [h41_1]; decide)).trans ?_
          refine (ys4 90 (v := .ref (n + (49 + 3 * (zsf x 12)))) rfl rfl rfl rfl).trans ?_
          refine (yg 93 rfl (zWS.tag hL.2.2.2.2.2.2.1 (o := 49 + 3 * (zsf x 12)) (zwT_4 _ (zsf_lt (i := x) (n := 12) (by decide) (by decide))).2.2.2.2 (zwT_4 _ (zsf_lt (i := x) (n := 12) (by decide) (by decide))).1) (zWS.ni hL.2.2.2.2.2.2.1 (o := 49 + 3 * (zsf x 12)) (zwT_4 _ (zsf_lt (i := x) (n := 12) (by decide) (by decide))).2.2.2.2 (zwT_4 _ (zsf_lt (i := x) (n := 12) (by decide) (by decide))).2.1) (by decide) rfl (zpc_at2 hL.2.2.2.2.2.2.2.2.1 (o := 49 + 3 * (zsf x 12)) (zpk_4 _ (zsf_lt (i := x) (n := 12) (by decide) (by decide))) (zwT_4 _ (zsf_lt (i := x) (n := 12) (by decide) (by decide))).2.2.2.2)).trans ?_
          refine (ys36 rfl rfl).trans ?_
          rw [show alett V np nk x y = (0, (V 4 (zsf x 12) 2)) from by unfold alett; (try dsimp only); rw [if_neg h8, if_neg h12, if_pos h18, if_neg h41_0, if_pos h41_1]]; (first | done | rfl)
        by_cases h41_2 : y = 2
        · refine (ys21k 94 rfl (by rw [h41_2]; decide)).trans ?_
          refine (ys4 95 (v := .ref (n + (49 + 3 * (zsf x 12)))) rfl rfl rfl rfl).trans ?_
          refine (yg 98 rfl (zWS.tag hL.2.2.2.2.2.2.1 (o := 49 + 3 * (zsf x 12)) (zwT_4 _ (zsf_lt (i := x) (n := 12) (by decide) (by decide))).2.2.2.2 (zwT_4 _ (zsf_lt (i := x) (n := 12) (by decide) (by decide))).1) (zWS.ni hL.2.2.2.2.2.2.1 (o := 49 + 3 * (zsf x 12)) (zwT_4 _ (zsf_lt (i := x) (n := 12) (by decide) (by decide))).2.2.2.2 (zwT_4 _ (zsf_lt (i := x) (n := 12) (by decide) (by decide))).2.1) (by decide) rfl (zpc_at2 hL.2.2.2.2.2.2.2.2.1 (o := 49 + 3 * (zsf x 12)) (zpk_4 _ (zsf_lt (i := x) (n := 12) (by decide) (by decide))) (zwT_4 _ (zsf_lt (i := x) (n := 12) (by decide) (by decide))).2.2.2.2)).trans ?_
          refine (ys36 rfl rfl).trans ?_
          rw [show alett V np nk x y = (0, (V 4 (zsf x 12) 0)) from by unfold alett; (try dsimp only); rw [if_neg h8, if_neg h12, if_pos h18, if_neg h41_0, if_neg h41_1, if_pos h41_2]]; (first | done | rfl)
        by_cases h41_3 : y = 3
        · refine (ys21k 99 rfl (by rw [h41_3]; decide)).trans ?_
          refine (ys4 100 (v := .ref (n + (49 + 3 * (zsf x 12)))) rfl rfl rfl rfl).trans ?_
          refine (yc1 103 rfl rfl (Nat.le_of_ble_eq_true rfl) (Or.inr (by show ztg (zwi _ _) _ = _; rw [ztg_wi]; exact (zWS.tag hL.2.2.2.2.2.2.1 (o := 49 + 3 * (zsf x 12)) (zwT_4 _ (zsf_lt (i := x) (n := 12) (by decide) (by decide))).2.2.2.2 (zwT_4 _ (zsf_lt (i := x) (n := 12) (by decide) (by decide))).1))) rfl rfl (lnw hL.2.2.2.2.2.2.2.2.1 (fun _ => c_arr hL.2.2.2.2.2.2.1 (zsf_lt (i := x) (n := 12) (by decide) (by decide))))).trans ?_
          refine ys17_0 106 rfl rfl (fun h103 => ?_) (fun h103 => ?_)
          · refine (ys1 111 (x := 0) rfl rfl rfl).trans ?_
            refine (ys36 rfl rfl).trans ?_
            rw [show alett V np nk x y = (0, 0) from by unfold alett; (try dsimp only); rw [if_neg h8, if_neg h12, if_pos h18, if_neg h41_0, if_neg h41_1, if_neg h41_2, if_pos h41_3, if_pos h103]]; (first | done | rfl)
          · refine (ys1 107 (x := 1) rfl rfl rfl).trans ?_
            refine (ys19 rfl).trans ?_
            refine (ys36 rfl rfl).trans ?_
            rw [show alett V np nk x y = (0, 1) from by unfold alett; (try dsimp only); rw [if_neg h8, if_neg h12, if_pos h18, if_neg h41_0, if_neg h41_1, if_neg h41_2, if_pos h41_3, if_neg h103]]; (first | done | rfl)
        by_cases h41_4 : y = 4
        · refine (ys21k 112 rfl (by rw [h41_4]; decide)).trans ?_
          refine (ys4 113 (v := .ref (p + 0)) rfl rfl rfl rfl).trans ?_
          refine (ygr 116 rfl hL.2.1 rfl hL.2.2.2.2.1).trans ?_
          refine (ys4 117 (v := .int (x)) rfl rfl rfl rfl).trans ?_
          refine (yc2 120 rfl rfl (Nat.le_of_ble_eq_true rfl) (Or.inr (by show ztg (zwi _ _) _ = _; rw [ztg_wi]; exact (zWS.tag hL.2.2.2.2.2.2.1 (o := 0) (by decide) rfl))) rfl rfl (lnw hL.2.2.2.2.2.2.2.2.1 (fun _ => c_lostx hL.2.2.2.2.2.2.1 hF hx.1 hx.2))).trans ?_
          refine ys17_0 123 rfl rfl (fun h120 => ?_) (fun h120 => ?_)
          · refine (ys1 128 (x := 0) rfl rfl rfl).trans ?_
            refine (ys36 rfl rfl).trans ?_
            rw [show alett V np nk x y = (0, 0) from by unfold alett; (try dsimp only); rw [if_neg h8, if_neg h12, if_pos h18, if_neg h41_0, if_neg h41_1, if_neg h41_2, if_neg h41_3, if_pos h41_4, if_pos h120]]; (first | done | rfl)
          · refine (ys1 124 (x := 1) rfl rfl rfl).trans ?_
            refine (ys19 rfl).trans ?_
            refine (ys36 rfl rfl).trans ?_
            rw [show alett V np nk x y = (0, 1) from by unfold alett; (try dsimp only); rw [if_neg h8, if_neg h12, if_pos h18, if_neg h41_0, if_neg h41_1, if_neg h41_2, if_neg h41_3, if_pos h41_4, if_neg h120]]; (first | done | rfl)
        by_cases h41_5 : y = 5
        · refine (ys21k 129 rfl (by rw [h41_5]; decide)).trans ?_
          refine (ys4 130 (v := .ref (p + 0)) rfl rfl rfl rfl).trans ?_
          refine (ygr 133 rfl hL.2.1 rfl hL.2.2.2.2.1).trans ?_
          refine (ys4 134 (v := .int (x)) rfl rfl rfl rfl).trans ?_
          refine (yc2 137 rfl rfl (Nat.le_of_ble_eq_true rfl) (Or.inr (by show ztg (zwi _ _) _ = _; rw [ztg_wi]; exact (zWS.tag hL.2.2.2.2.2.2.1 (o := 0) (by decide) rfl))) rfl rfl (lnw hL.2.2.2.2.2.2.2.2.1 (fun _ => c_dtf hL.2.2.2.2.2.2.1 hF))).trans ?_
          refine (ys36 rfl rfl).trans ?_
          rw [show alett V np nk x y = (0, (zcnt (fun i => if V 2 i 0 = 1 then if V 2 i 10 = x then true else false else false) np 0 0)) from by unfold alett; (try dsimp only); rw [if_neg h8, if_neg h12, if_pos h18, if_neg h41_0, if_neg h41_1, if_neg h41_2, if_neg h41_3, if_neg h41_4, if_pos h41_5]]; (first | done | rfl)
        by_cases h41_6 : y = 6
        · refine (ys21k 138 rfl (by rw [h41_6]; decide)).trans ?_
          refine (ys4 139 (v := .ref (n + (49 + 3 * (zsf x 12)))) rfl rfl rfl rfl).trans ?_
          refine (yg 142 rfl (zWS.tag hL.2.2.2.2.2.2.1 (o := 49 + 3 * (zsf x 12)) (zwT_4 _ (zsf_lt (i := x) (n := 12) (by decide) (by decide))).2.2.2.2 (zwT_4 _ (zsf_lt (i := x) (n := 12) (by decide) (by decide))).1) (zWS.ni hL.2.2.2.2.2.2.1 (o := 49 + 3 * (zsf x 12)) (zwT_4 _ (zsf_lt (i := x) (n := 12) (by decide) (by decide))).2.2.2.2 (zwT_4 _ (zsf_lt (i := x) (n := 12) (by decide) (by decide))).2.1) (by decide) rfl (zpc_at2 hL.2.2.2.2.2.2.2.2.1 (o := 49 + 3 * (zsf x 12)) (zpk_4 _ (zsf_lt (i := x) (n := 12) (by decide) (by decide))) (zwT_4 _ (zsf_lt (i := x) (n := 12) (by decide) (by decide))).2.2.2.2)).trans ?_
          refine (ys36 rfl rfl).trans ?_
          rw [show alett V np nk x y = (0, (V 4 (zsf x 12) 4)) from by unfold alett; (try dsimp only); rw [if_neg h8, if_neg h12, if_pos h18, if_neg h41_0, if_neg h41_1, if_neg h41_2, if_neg h41_3, if_neg h41_4, if_neg h41_5, if_pos h41_6]]; (first | done | rfl)
        refine (ys21d 143 rfl rfl (fun j hj => by have hj2 : j < 7 := hj; have hj3 : j = 0 ∨ j = 1 ∨ j = 2 ∨ j = 3 ∨ j = 4 ∨ j = 5 ∨ j = 6 := (by omega); rcases hj3 with rfl | rfl | rfl | rfl | rfl | rfl | rfl <;> first | exact Or.inl rfl | (exact Or.inr (by assumption)))).trans ?_
        refine (ys4 144 (v := .ref (n + (49 + 3 * (zsf x 12)))) rfl rfl rfl rfl).trans ?_
        refine (yg 147 rfl (zWS.tag hL.2.2.2.2.2.2.1 (o := 49 + 3 * (zsf x 12)) (zwT_4 _ (zsf_lt (i := x) (n := 12) (by decide) (by decide))).2.2.2.2 (zwT_4 _ (zsf_lt (i := x) (n := 12) (by decide) (by decide))).1) (zWS.ni hL.2.2.2.2.2.2.1 (o := 49 + 3 * (zsf x 12)) (zwT_4 _ (zsf_lt (i := x) (n := 12) (by decide) (by decide))).2.2.2.2 (zwT_4 _ (zsf_lt (i := x) (n := 12) (by decide) (by decide))).2.1) (by decide) rfl (zpc_at2 hL.2.2.2.2.2.2.2.2.1 (o := 49 + 3 * (zsf x 12)) (zpk_4 _ (zsf_lt (i := x) (n := 12) (by decide) (by decide))) (zwT_4 _ (zsf_lt (i := x) (n := 12) (by decide) (by decide))).2.2.2.2)).trans ?_
        refine (ys36 rfl rfl).trans ?_
        rw [show alett V np nk x y = (0, (V 4 (zsf x 12) 5)) from by unfold alett; (try dsimp only); rw [if_neg h8, if_neg h12, if_pos h18, if_neg h41_0, if_neg h41_1, if_neg h41_2, if_neg h41_3, if_neg h41_4, if_neg h41_5, if_neg h41_6]]; (first | done | rfl)
      · refine (ys35 rfl (by omega) (Nat.le_of_ble_eq_true rfl)).trans ?_; rw [show alett V np nk x y = (1, 0) from by unfold alett; (try dsimp only); rw [if_neg h8, if_neg h12, if_neg h18]]; (first | done | rfl)

def abri (V : zV) (x : Int32) (y : Int32) : Nat × Int32 × zV :=
  if (vhas V 1 x) = 0 then
    (1, 0, V)
  else
    if (vhas V 0 y) = 0 then
      (1, 0, V)
    else
      if (V 2 (zsf x 20) 0) = 0 then
        let V1 := zvu V 2 (zsf x 20) 2 (y)
        (0, (V 2 (zsf x 20) 2), V1)
      else
        (2, 0, V)

theorem c_bri {d : Nat} {p r n s : Nat} {V U : zV} {J : zFn} {μ : zM} (hL : zLC μ p r n s) {x y : Int32} : zden zcds (d + 8) 10 [.ref (p + 0), .int (x), .int (y)] (zwi μ (zpc (zpc J n V) s U)) = some (zrs ((abri V x y).1) ((abri V x y).2.1) (zwi μ (zpc (zpc J n ((abri V x y).2.2)) s U))) := by
  refine (zd_in (d := d + 7) (cd := zc10) (nL := 5) (L := [(0, .ref (p + 0)), (1, .int (x)), (2, .int (y))]) rfl (Nat.le_of_ble_eq_true rfl) rfl).trans ?_
  refine (ys4 1 (v := .ref (p + 0)) rfl rfl rfl rfl).trans ?_
  refine (ygr 4 rfl hL.2.1 rfl hL.2.2.2.2.1).trans ?_
  refine (ys4 5 (v := .int (x)) rfl rfl rfl rfl).trans ?_
  refine (yc2 8 rfl rfl (Nat.le_of_ble_eq_true rfl) (Or.inr (by show ztg (zwi _ _) _ = _; rw [ztg_wi]; exact (zWS.tag hL.2.2.2.2.2.2.1 (o := 0) (by decide) rfl))) rfl rfl (lnw hL.2.2.2.2.2.2.2.2.1 (fun _ => c_has1 hL.2.2.2.2.2.2.1))).trans ?_
  refine ys17_0 11 rfl rfl (fun h8 => ?_) (fun h8 => ?_)
  · refine (ys35 rfl (by omega) (Nat.le_of_ble_eq_true rfl)).trans ?_; rw [show abri V x y = (1, 0, V) from by unfold abri; (try dsimp only); rw [if_pos h8]]; (first | done | rfl)
  · refine (ys4 12 (v := .ref (p + 0)) rfl rfl rfl rfl).trans ?_
    refine (ygr 15 rfl hL.2.1 rfl hL.2.2.2.2.1).trans ?_
    refine (ys4 16 (v := .int (y)) rfl rfl rfl rfl).trans ?_
    refine (yc2 19 rfl rfl (Nat.le_of_ble_eq_true rfl) (Or.inr (by show ztg (zwi _ _) _ = _; rw [ztg_wi]; exact (zWS.tag hL.2.2.2.2.2.2.1 (o := 0) (by decide) rfl))) rfl rfl (lnw hL.2.2.2.2.2.2.2.2.1 (fun _ => c_has0 hL.2.2.2.2.2.2.1))).trans ?_
    refine ys17_1 22 rfl rfl (fun h19 => ?_) (fun h19 => ?_)
    · refine (ys35 rfl (by omega) (Nat.le_of_ble_eq_true rfl)).trans ?_; rw [show abri V x y = (1, 0, V) from by unfold abri; (try dsimp only); rw [if_neg h8, if_pos h19]]; (first | done | rfl)
    · refine (ys4 33 (v := .ref (p + 0)) rfl rfl rfl rfl).trans ?_
      refine (ygr 36 rfl hL.2.1 rfl hL.2.2.2.2.1).trans ?_
      refine (ys4 37 (v := .int (x)) rfl rfl rfl rfl).trans ?_
      refine (yc2 40 rfl rfl (Nat.le_of_ble_eq_true rfl) (Or.inr (by show ztg (zwi _ _) _ = _; rw [ztg_wi]; exact (zWS.tag hL.2.2.2.2.2.2.1 (o := 0) (by decide) rfl))) rfl rfl (c_at2 hL.2.2.2.2.2.2.1)).trans ?_
      refine (ys5 41 (L2 := [(3, .ref (n + (23 + (zsf x 20)))), (0, .ref (p + 0)), (1, .int (x)), (2, .int (y))]) rfl rfl rfl rfl).trans ?_
      refine (ys4 42 (v := .ref (n + (23 + (zsf x 20)))) rfl rfl rfl rfl).trans ?_
      refine (yg 45 rfl (zWS.tag hL.2.2.2.2.2.2.1 (o := 23 + (zsf x 20)) (zwT_2 _ (zsf_lt (i := x) (n := 20) (by decide) (by decide))).2.2 (zwT_2 _ (zsf_lt (i := x) (n := 20) (by decide) (by decide))).1) (zWS.ni hL.2.2.2.2.2.2.1 (o := 23 + (zsf x 20)) (zwT_2 _ (zsf_lt (i := x) (n := 20) (by decide) (by decide))).2.2 (zwT_2 _ (zsf_lt (i := x) (n := 20) (by decide) (by decide))).2.1) (by decide) rfl (zpc_at2 hL.2.2.2.2.2.2.2.2.1 (o := 23 + (zsf x 20)) (zpk_2 _ (zsf_lt (i := x) (n := 20) (by decide) (by decide))) (zwT_2 _ (zsf_lt (i := x) (n := 20) (by decide) (by decide))).2.2)).trans ?_
      refine ys17_0 48 rfl rfl (fun h45 => ?_) (fun h45 => ?_)
      · refine (ys4 59 (v := .ref (n + (23 + (zsf x 20)))) rfl rfl rfl rfl).trans ?_
        refine (yg 62 rfl (zWS.tag hL.2.2.2.2.2.2.1 (o := 23 + (zsf x 20)) (zwT_2 _ (zsf_lt (i := x) (n := 20) (by decide) (by decide))).2.2 (zwT_2 _ (zsf_lt (i := x) (n := 20) (by decide) (by decide))).1) (zWS.ni hL.2.2.2.2.2.2.1 (o := 23 + (zsf x 20)) (zwT_2 _ (zsf_lt (i := x) (n := 20) (by decide) (by decide))).2.2 (zwT_2 _ (zsf_lt (i := x) (n := 20) (by decide) (by decide))).2.1) (by decide) rfl (zpc_at2 hL.2.2.2.2.2.2.2.2.1 (o := 23 + (zsf x 20)) (zpk_2 _ (zsf_lt (i := x) (n := 20) (by decide) (by decide))) (zwT_2 _ (zsf_lt (i := x) (n := 20) (by decide) (by decide))).2.2)).trans ?_
        refine (ys5 64 (L2 := [(4, .int ((V 2 (zsf x 20) 2))), (3, .ref (n + (23 + (zsf x 20)))), (0, .ref (p + 0)), (1, .int (x)), (2, .int (y))]) rfl rfl rfl rfl).trans ?_
        refine (ys4 65 (v := .ref (n + (23 + (zsf x 20)))) rfl rfl rfl rfl).trans ?_
        refine (ys4 66 (v := .int (y)) rfl rfl rfl rfl).trans ?_
        refine (yq 69 rfl (zWS.tag hL.2.2.2.2.2.2.1 (o := 23 + (zsf x 20)) (zwT_2 _ (zsf_lt (i := x) (n := 20) (by decide) (by decide))).2.2 (zwT_2 _ (zsf_lt (i := x) (n := 20) (by decide) (by decide))).1) (zWS.k0 hL.2.2.2.2.2.2.1 (o := 23 + (zsf x 20))) (zWS.ni hL.2.2.2.2.2.2.1 (o := 23 + (zsf x 20)) (zwT_2 _ (zsf_lt (i := x) (n := 20) (by decide) (by decide))).2.2 (zwT_2 _ (zsf_lt (i := x) (n := 20) (by decide) (by decide))).2.1) (by decide) rfl (zpc_up2 hL.2.2.2.2.2.2.2.2.1 (o := 23 + (zsf x 20)) (zpk_2 _ (zsf_lt (i := x) (n := 20) (by decide) (by decide))) (zwT_2 _ (zsf_lt (i := x) (n := 20) (by decide) (by decide))).2.2)).trans ?_
        generalize hV1 : zvu V 2 (zsf x 20) 2 (y) = V1
        refine (ys4 71 (v := .int ((V 2 (zsf x 20) 2))) rfl rfl rfl rfl).trans ?_
        refine (ys36 rfl rfl).trans ?_
        rw [show abri V x y = (0, (V 2 (zsf x 20) 2), V1) from by subst hV1; unfold abri; (try dsimp only); rw [if_neg h8, if_neg h19, if_pos h45]]; (first | done | rfl)
      · refine (ys35 rfl (by omega) (Nat.le_of_ble_eq_true rfl)).trans ?_; rw [show abri V x y = (2, 0, V) from by unfold abri; (try dsimp only); rw [if_neg h8, if_neg h19, if_neg h45]]; (first | done | rfl)

def alur (V : zV) (x : Int32) (y : Int32) (z : Int32) : Nat × Int32 × zV :=
  if (vhas V 2 x) = 0 then
    (1, 0, V)
  else
    if y < 0 then
      (3, 0, V)
    else
      if 63 < y then
        (3, 0, V)
      else
        if z < 0 then
          (3, 0, V)
        else
          if z ≤ 63 then
            let V1 := zvu V 3 (zsf x 6) 0 (y)
            let V2 := zvu V1 3 (zsf x 6) 1 (z)
            (0, (zdst (V 3 (zsf x 6) 0) (V 3 (zsf x 6) 1) y z), V2)
          else
            (3, 0, V)

theorem c_lur {d : Nat} {p r n s : Nat} {V U : zV} {J : zFn} {μ : zM} (hL : zLC μ p r n s) {x y z : Int32} : zden zcds (d + 8) 11 [.ref (p + 0), .int (x), .int (y), .int (z)] (zwi μ (zpc (zpc J n V) s U)) = some (zrs ((alur V x y z).1) ((alur V x y z).2.1) (zwi μ (zpc (zpc J n ((alur V x y z).2.2)) s U))) := by
  refine (zd_in (d := d + 7) (cd := zc11) (nL := 6) (L := [(0, .ref (p + 0)), (1, .int (x)), (2, .int (y)), (3, .int (z))]) rfl (Nat.le_of_ble_eq_true rfl) rfl).trans ?_
  refine (ys4 1 (v := .ref (p + 0)) rfl rfl rfl rfl).trans ?_
  refine (ygr 4 rfl hL.2.1 rfl hL.2.2.2.2.1).trans ?_
  refine (ys4 5 (v := .int (x)) rfl rfl rfl rfl).trans ?_
  refine (yc2 8 rfl rfl (Nat.le_of_ble_eq_true rfl) (Or.inr (by show ztg (zwi _ _) _ = _; rw [ztg_wi]; exact (zWS.tag hL.2.2.2.2.2.2.1 (o := 0) (by decide) rfl))) rfl rfl (lnw hL.2.2.2.2.2.2.2.2.1 (fun _ => c_has2 hL.2.2.2.2.2.2.1))).trans ?_
  refine ys17_1 11 rfl rfl (fun h8 => ?_) (fun h8 => ?_)
  · refine (ys35 rfl (by omega) (Nat.le_of_ble_eq_true rfl)).trans ?_; rw [show alur V x y z = (1, 0, V) from by unfold alur; (try dsimp only); rw [if_pos h8]]; (first | done | rfl)
  · refine (ys4 22 (v := .int (y)) rfl rfl rfl rfl).trans ?_
    refine ys17_2 25 rfl rfl (fun h22 => ?_) (fun h22 => ?_)
    · refine (ys35 rfl (by omega) (Nat.le_of_ble_eq_true rfl)).trans ?_; rw [show alur V x y z = (3, 0, V) from by unfold alur; (try dsimp only); rw [if_neg h8, if_pos h22]]; (first | done | rfl)
    · refine (ys4 26 (v := .int (y)) rfl rfl rfl rfl).trans ?_
      refine (ys1 28 (x := 63) rfl rfl rfl).trans ?_
      refine ys18_4 31 rfl rfl (fun h28 => ?_) (fun h28 => ?_)
      · refine (ys35 rfl (by omega) (Nat.le_of_ble_eq_true rfl)).trans ?_; rw [show alur V x y z = (3, 0, V) from by unfold alur; (try dsimp only); rw [if_neg h8, if_neg h22, if_pos h28]]; (first | done | rfl)
      · refine (ys4 32 (v := .int (z)) rfl rfl rfl rfl).trans ?_
        refine ys17_2 35 rfl rfl (fun h32 => ?_) (fun h32 => ?_)
        · refine (ys35 rfl (by omega) (Nat.le_of_ble_eq_true rfl)).trans ?_; rw [show alur V x y z = (3, 0, V) from by unfold alur; (try dsimp only); rw [if_neg h8, if_neg h22, if_neg h28, if_pos h32]]; (first | done | rfl)
        · refine (ys4 36 (v := .int (z)) rfl rfl rfl rfl).trans ?_
          refine (ys1 38 (x := 63) rfl rfl rfl).trans ?_
          refine ys18_5 41 rfl rfl (fun h38 => ?_) (fun h38 => ?_)
          · refine (ys4 52 (v := .ref (p + 0)) rfl rfl rfl rfl).trans ?_
            refine (ygr 55 rfl hL.2.1 rfl hL.2.2.2.2.1).trans ?_
            refine (ys4 56 (v := .int (x)) rfl rfl rfl rfl).trans ?_
            refine (yc2 59 rfl rfl (Nat.le_of_ble_eq_true rfl) (Or.inr (by show ztg (zwi _ _) _ = _; rw [ztg_wi]; exact (zWS.tag hL.2.2.2.2.2.2.1 (o := 0) (by decide) rfl))) rfl rfl (c_at3 hL.2.2.2.2.2.2.1)).trans ?_
            refine (ys5 61 (L2 := [(4, .ref (n + (43 + (zsf x 6)))), (0, .ref (p + 0)), (1, .int (x)), (2, .int (y)), (3, .int (z))]) rfl rfl rfl rfl).trans ?_
            refine (ys4 63 (v := .ref (n + (43 + (zsf x 6)))) rfl rfl rfl rfl).trans ?_
            refine (yg 66 rfl (zWS.tag hL.2.2.2.2.2.2.1 (o := 43 + (zsf x 6)) (zwT_3 _ (zsf_lt (i := x) (n := 6) (by decide) (by decide))).2.2 (zwT_3 _ (zsf_lt (i := x) (n := 6) (by decide) (by decide))).1) (zWS.ni hL.2.2.2.2.2.2.1 (o := 43 + (zsf x 6)) (zwT_3 _ (zsf_lt (i := x) (n := 6) (by decide) (by decide))).2.2 (zwT_3 _ (zsf_lt (i := x) (n := 6) (by decide) (by decide))).2.1) (by decide) rfl (zpc_at2 hL.2.2.2.2.2.2.2.2.1 (o := 43 + (zsf x 6)) (zpk_3 _ (zsf_lt (i := x) (n := 6) (by decide) (by decide))) (zwT_3 _ (zsf_lt (i := x) (n := 6) (by decide) (by decide))).2.2)).trans ?_
            refine (ys4 68 (v := .ref (n + (43 + (zsf x 6)))) rfl rfl rfl rfl).trans ?_
            refine (yg 71 rfl (zWS.tag hL.2.2.2.2.2.2.1 (o := 43 + (zsf x 6)) (zwT_3 _ (zsf_lt (i := x) (n := 6) (by decide) (by decide))).2.2 (zwT_3 _ (zsf_lt (i := x) (n := 6) (by decide) (by decide))).1) (zWS.ni hL.2.2.2.2.2.2.1 (o := 43 + (zsf x 6)) (zwT_3 _ (zsf_lt (i := x) (n := 6) (by decide) (by decide))).2.2 (zwT_3 _ (zsf_lt (i := x) (n := 6) (by decide) (by decide))).2.1) (by decide) rfl (zpc_at2 hL.2.2.2.2.2.2.2.2.1 (o := 43 + (zsf x 6)) (zpk_3 _ (zsf_lt (i := x) (n := 6) (by decide) (by decide))) (zwT_3 _ (zsf_lt (i := x) (n := 6) (by decide) (by decide))).2.2)).trans ?_
            refine (ys4 72 (v := .int (y)) rfl rfl rfl rfl).trans ?_
            refine (ys4 73 (v := .int (z)) rfl rfl rfl rfl).trans ?_
            refine (yc4 76 rfl rfl (Nat.le_of_ble_eq_true rfl) (Or.inl rfl) rfl rfl c_dst).trans ?_
            refine (ys5 78 (L2 := [(5, .int ((zdst (V 3 (zsf x 6) 0) (V 3 (zsf x 6) 1) y z))), (4, .ref (n + (43 + (zsf x 6)))), (0, .ref (p + 0)), (1, .int (x)), (2, .int (y)), (3, .int (z))]) rfl rfl rfl rfl).trans ?_
            refine (ys4 80 (v := .ref (n + (43 + (zsf x 6)))) rfl rfl rfl rfl).trans ?_
            refine (ys4 81 (v := .int (y)) rfl rfl rfl rfl).trans ?_
            refine (yq 84 rfl (zWS.tag hL.2.2.2.2.2.2.1 (o := 43 + (zsf x 6)) (zwT_3 _ (zsf_lt (i := x) (n := 6) (by decide) (by decide))).2.2 (zwT_3 _ (zsf_lt (i := x) (n := 6) (by decide) (by decide))).1) (zWS.k0 hL.2.2.2.2.2.2.1 (o := 43 + (zsf x 6))) (zWS.ni hL.2.2.2.2.2.2.1 (o := 43 + (zsf x 6)) (zwT_3 _ (zsf_lt (i := x) (n := 6) (by decide) (by decide))).2.2 (zwT_3 _ (zsf_lt (i := x) (n := 6) (by decide) (by decide))).2.1) (by decide) rfl (zpc_up2 hL.2.2.2.2.2.2.2.2.1 (o := 43 + (zsf x 6)) (zpk_3 _ (zsf_lt (i := x) (n := 6) (by decide) (by decide))) (zwT_3 _ (zsf_lt (i := x) (n := 6) (by decide) (by decide))).2.2)).trans ?_
            generalize hV1 : zvu V 3 (zsf x 6) 0 (y) = V1
            refine (ys4 86 (v := .ref (n + (43 + (zsf x 6)))) rfl rfl rfl rfl).trans ?_
            refine (ys4 87 (v := .int (z)) rfl rfl rfl rfl).trans ?_
            refine (yq 90 rfl (zWS.tag hL.2.2.2.2.2.2.1 (o := 43 + (zsf x 6)) (zwT_3 _ (zsf_lt (i := x) (n := 6) (by decide) (by decide))).2.2 (zwT_3 _ (zsf_lt (i := x) (n := 6) (by decide) (by decide))).1) (zWS.k0 hL.2.2.2.2.2.2.1 (o := 43 + (zsf x 6))) (zWS.ni hL.2.2.2.2.2.2.1 (o := 43 + (zsf x 6)) (zwT_3 _ (zsf_lt (i := x) (n := 6) (by decide) (by decide))).2.2 (zwT_3 _ (zsf_lt (i := x) (n := 6) (by decide) (by decide))).2.1) (by decide) rfl (zpc_up2 hL.2.2.2.2.2.2.2.2.1 (o := 43 + (zsf x 6)) (zpk_3 _ (zsf_lt (i := x) (n := 6) (by decide) (by decide))) (zwT_3 _ (zsf_lt (i := x) (n := 6) (by decide) (by decide))).2.2)).trans ?_
            generalize hV2 : zvu V1 3 (zsf x 6) 1 (z) = V2
            refine (ys4 92 (v := .int ((zdst (V 3 (zsf x 6) 0) (V 3 (zsf x 6) 1) y z))) rfl rfl rfl rfl).trans ?_
            refine (ys36 rfl rfl).trans ?_
            rw [show alur V x y z = (0, (zdst (V 3 (zsf x 6) 0) (V 3 (zsf x 6) 1) y z), V2) from by subst hV2 hV1; unfold alur; (try dsimp only); rw [if_neg h8, if_neg h22, if_neg h28, if_neg h32, if_pos h38]]; (first | done | rfl)
          · refine (ys35 rfl (by omega) (Nat.le_of_ble_eq_true rfl)).trans ?_; rw [show alur V x y z = (3, 0, V) from by unfold alur; (try dsimp only); rw [if_neg h8, if_neg h22, if_neg h28, if_neg h32, if_neg h38]]; (first | done | rfl)

