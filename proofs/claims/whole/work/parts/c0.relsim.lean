/-! ... are met by the machine on any memory -/
def rsO (P : zM) : zS ⊕ zR → zS ⊕ zR
  | .inl S => .inl (rshS P S)
  | .inr r => .inr (rshR P r)
section ZRX
variable {P : zM} {d : Nat} {call call' : Nat → List Value → zM → Option zR} {o : zS ⊕ zR} {pc c sl : Nat} {l : zL} {st : List Value} {μ : zM}
theorem rs_1 {len : Nat} {k : Int} {S : zS} (h : zo1 len k S = some o) : zo1 len k (rshS P S) = some (rsO P o) := by
  obtain ⟨pc, l, st, c, sl, μ⟩ := S
  cases h
  rfl
theorem rs_4 {len a b : Nat} {S : zS} (h : zo4 len a b S = some o) : zo4 len a b (rshS P S) = some (rsO P o) := by
  obtain ⟨pc, l, st, c, sl, μ⟩ := S
  simp only [zo4, rshS, rsh_lk] at h ⊢
  cases hl : l.lookup a with
  | none => rw [hl] at h; cases h
  | some v =>
    rw [hl] at h
    simp only [Option.map, rsh_kind] at h ⊢
    split at h
    · cases h
      rename_i hk
      rw [if_pos hk]
      rfl
    · cases h
theorem rs_5 {len a b : Nat} {S : zS} (h : zo5 len a b S = some o) : zo5 len a b (rshS P S) = some (rsO P o) := by
  obtain ⟨pc, l, st, c, sl, μ⟩ := S
  cases st with
  | nil => cases h
  | cons v st =>
    simp only [zo5, rshS, List.map_cons, rsh_kind, rsh_st] at h ⊢
    split at h
    · cases h
      rename_i hk
      rw [if_pos hk]
      rfl
    · cases h
theorem rs_6 {len a : Nat} {k : Int} {S : zS} (h : zo6 len a k S = some o) : zo6 len a k (rshS P S) = some (rsO P o) := by
  obtain ⟨pc, l, st, c, sl, μ⟩ := S
  simp only [zo6, rshS, rsh_lk] at h ⊢
  cases hl : l.lookup a with
  | none => rw [hl] at h; cases h
  | some v =>
    rw [hl] at h
    cases v with
    | int x =>
      cases h
      show some (Sum.inl (pc + len, zst 0 (rshL P.length l) a (rsh P.length (.int (x + Int32.ofInt k))), _)) = _
      rw [rsh_st]
      rfl
    | _ => cases h
theorem rs_14 {S : zS} (h : zo14 S = some o) : zo14 (rshS P S) = some (rsO P o) := by
  obtain ⟨pc, l, st, c, sl, μ⟩ := S
  cases st with
  | nil => cases h
  | cons v st =>
    simp only [zo14, rshS, List.map_cons, rsh_kind] at h ⊢
    split at h
    · cases h
      rename_i hk
      rw [if_pos hk]
      rfl
    · cases h
theorem rs_18 {a b : Nat} {S : zS} (h : zo18 a b S = some o) : zo18 a b (rshS P S) = some (rsO P o) := by
  obtain ⟨pc, l, st, c, sl, μ⟩ := S
  cases st with
  | nil => cases h
  | cons v st =>
    cases st with
    | nil => cases v <;> cases h
    | cons w st =>
      cases v <;> cases w <;> cases h
      rfl
theorem rs_19 {a : Nat} {S : zS} (h : zo19 a S = some o) : zo19 a (rshS P S) = some (rsO P o) := by
  obtain ⟨pc, l, st, c, sl, μ⟩ := S
  cases h
  rfl
theorem rs_23 {a b : Nat} {k : Int} {S : zS} (hk : k ≠ 0) (h : zo23 a b k S = some o) : zo23 a b k (rshS P S) = some (rsO P o) := by
  obtain ⟨pc, l, st, c, sl, μ⟩ := S
  cases st with
  | nil => cases h
  | cons v st =>
    cases v with
    | ref r =>
      simp only [zo23, rshS, List.map_cons, rsh, rsh_tg, if_neg hk, rsh_gr, rsh_rf] at h ⊢
      split at h
      · cases h
        rename_i h1
        rw [if_pos h1]
        rfl
      · cases h
    | _ => cases h
theorem rs_24 {a b : Nat} {k : Int} {S : zS} (hP : zK0 ≤ P.length) (h : ro24 a b k S = some o) : zo24 a b k (rshS P S) = some (rsO P o) := by
  obtain ⟨pc, l, st, c, sl, μ⟩ := S
  cases st with
  | nil => cases h
  | cons v st =>
    cases st with
    | nil => cases v <;> cases h
    | cons w st =>
      cases v with
      | int x =>
        cases w with
        | ref r =>
          simp only [ro24] at h
          split at h
          · rename_i h1
            cases h
            simp only [zo24, rshS, List.map_cons, rsh, rsh_tg, rsh_ni, rsh_si]
            rw [if_pos ⟨h1.1, by omega⟩, if_pos h1.2.2.1, if_pos h1.2.2.2]
            rfl
          · cases h
        | _ => cases h
      | ref x =>
        cases w with
        | ref r =>
          simp only [ro24] at h
          split at h
          · rename_i h1
            cases h
            have e : zmr (.ref (P.length + x)) = some (some (P.length + x)) := by
              show (if P.length + x = zUK then none else some (some (P.length + x))) = _
              rw [if_neg (by unfold zUK zK0 at *; omega)]
            simp only [zo24, rshS, List.map_cons, rsh, rsh_tg, rsh_nr, e, rsh_sr]
            rw [if_pos ⟨h1.1, by omega⟩, if_neg h1.2.2.1, if_pos h1.2.2.2]
            rfl
          · cases h
        | _ => cases h
      | _ => cases w <;> cases h
theorem rs_27 {S : zS} (hP : zK0 ≤ P.length) (h : ro27 S = some o) : zo27 3 (rshS P S) = some (rsO P o) := by
  obtain ⟨pc, l, st, c, sl, μ⟩ := S
  cases st with
  | nil => cases h
  | cons v st =>
    cases st with
    | nil => cases v <;> cases h
    | cons w st =>
      cases st with
      | nil => cases v <;> cases w <;> cases h
      | cons z st =>
        cases v with
        | ref x =>
          cases w with
          | int j =>
            cases z with
            | ref r =>
              simp only [ro27] at h
              split at h
              · rename_i h1
                cases h
                simp only [zo27, rshS, List.map_cons, rsh, rsh_tg, rsh_nr, rsh_sr]
                rw [if_pos ⟨by omega, h1.1⟩, if_pos ⟨h1.2.1, h1.2.2.1, h1.2.2.2.1, h1.2.2.2.2.1, fun e => absurd (show P.length + x = 22 from e) (by have : 82 ≤ P.length := hP; omega), h1.2.2.2.2.2⟩]
                rfl
              · cases h
            | _ => cases h
          | _ => cases z <;> cases h
        | _ => cases w <;> cases z <;> cases h
theorem rsh_al (r : Nat) : zal (P ++ rshM P.length μ) (P.length + r) = zal μ r := by
  unfold zal
  rw [rsh_tg, rsh_ni, rsh_nl, rsh_nr]
theorem rs_28 {S : zS} (h : zo28 S = some o) : zo28 (rshS P S) = some (rsO P o) := by
  obtain ⟨pc, l, st, c, sl, μ⟩ := S
  cases st with
  | nil => cases h
  | cons v st =>
    cases v with
    | ref r =>
      simp only [zo28, rshS, List.map_cons, rsh, rsh_al] at h ⊢
      cases hz : zal μ r with
      | none => rw [hz] at h; cases h
      | some n =>
        rw [hz] at h
        cases h
        rfl
    | _ => cases h
theorem rs_29 {a : Nat} {S : zS} (h : zo29 a S = some o) : zo29 a (rshS P S) = some (rsO P o) := by
  obtain ⟨pc, l, st, c, sl, μ⟩ := S
  cases h
  simp only [zo29, rshS, rsO]
  rw [rsh_len, ← rsh_app]
  unfold rshE
  simp only [List.map_replicate]
  rfl
theorem rs_30 {b : Nat} {S : zS} (h : ro30 b S = some o) : zo30 b (rshS P S) = some (rsO P o) := by
  obtain ⟨pc, l, st, c, sl, μ⟩ := S
  cases st with
  | nil => cases h
  | cons v st =>
    cases v with
    | int n =>
      simp only [ro30] at h
      split at h
      · rename_i h1
        cases h
        simp only [zo30, rshS, rsO, List.map_cons, rsh]
        rw [if_pos ⟨h1.1, h1.2.1⟩, if_neg h1.2.2, rsh_len, ← rsh_app]
        rfl
      · cases h
    | _ => cases h
theorem rs_31 {b : Nat} {S : zS} (h : zo31 b S = some o) : zo31 b (rshS P S) = some (rsO P o) := by
  obtain ⟨pc, l, st, c, sl, μ⟩ := S
  cases st with
  | nil => cases h
  | cons v st =>
    cases v with
    | int n =>
      simp only [zo31] at h
      split at h
      · rename_i h1
        cases h
        simp only [zo31, rshS, rsO, List.map_cons, rsh]
        rw [if_pos h1, rsh_len, ← rsh_app]
        unfold rshE
        simp only [List.map_replicate]
        rfl
      · cases h
    | _ => cases h
theorem rsh_hd (a : List Value) (h : zhd μ a ≠ 98) : zhd (P ++ rshM P.length μ) (a.map (rsh P.length)) = zhd μ a := by
  cases a with
  | nil => rfl
  | cons v a =>
    cases v with
    | ref r => exact rsh_tg μ r
    | _ => rfl
theorem rs_32 {a n t : Nat} {S : zS} (hc : ∀ m args ν r, call m args ν = some r → call' m (args.map (rsh P.length)) (P ++ rshM P.length ν) = some (rshR P r)) (h : zo32 call a n t S = some o) : zo32 call' a n t (rshS P S) = some (rsO P o) := by
  obtain ⟨pc, l, st, c, sl, μ⟩ := S
  simp only [zo32] at h
  split at h
  · rename_i h1
    have e1 : ((st.map (rsh P.length)).take n).reverse = ((st.take n).reverse).map (rsh P.length) := by
      rw [← List.map_take, List.map_reverse]
    have e2 : (((st.map (rsh P.length)).drop n).map fun v => v.category).sum = ((st.drop n).map fun v => v.category).sum := by
      rw [← List.map_drop, rsh_sum]
    have e3 : zhd (P ++ rshM P.length μ) ((st.take n).reverse.map (rsh P.length)) = zhd μ (st.take n).reverse := by
      cases (st.take n).reverse with
      | nil => rfl
      | cons v a =>
        cases v with
        | ref r => exact rsh_tg μ r
        | _ => rfl
    cases hq : call a (st.take n).reverse μ with
    | none => rw [hq] at h; cases h
    | some q =>
      obtain ⟨E, v, c1, s1, μ1⟩ := q
      rw [hq] at h
      cases E with
      | succ E => cases h
      | zero =>
        cases h
        have hcond : n ≤ (st.map (rsh P.length)).length ∧ (((st.map (rsh P.length)).drop n).map fun v => v.category).sum ≤ 8 ∧ (t = 99 ∨ zhd (P ++ rshM P.length μ) ((st.map (rsh P.length)).take n).reverse = t) := ⟨by rw [List.length_map]; exact h1.1, by rw [e2]; exact h1.2.1, by rw [e1, e3]; exact h1.2.2⟩
        unfold zo32 rshS
        dsimp only
        rw [if_pos hcond, e1, hc _ _ _ _ hq]
        simp only [rshR, rsO, rshS]
        rw [← List.map_drop, List.map_append]
        cases v <;> rfl
  · cases h
theorem rs_33 {S : zS} (hP : zK0 ≤ P.length) (h : ro33 S = some o) : zo33 (rshS P S) = some (rsO P o) := by
  obtain ⟨pc, l, st, c, sl, μ⟩ := S
  cases st with
  | nil => cases h
  | cons v st =>
    cases v with
    | ref r =>
      simp only [ro33] at h
      split at h
      · rename_i h1
        cases h
        simp only [zo33, rshS, rsO, List.map_cons, rsh]
        rw [rsh_sum, if_pos ⟨h1, fun e => absurd (show P.length + r = 22 from e) (by have : 82 ≤ P.length := hP; omega)⟩]
      · cases h
    | _ => cases h
theorem rs_36 {b : Nat} {S : zS} (h : ro36 b S = some o) : zo36 b (rshS P S) = some (rsO P o) := by
  obtain ⟨pc, l, st, c, sl, μ⟩ := S
  cases st with
  | nil =>
    simp only [ro36] at h
    split at h
    · rename_i h1
      cases h
      subst h1
      rfl
    · cases h
  | cons v st => cases h
theorem rx_sim {q : zRI} {S : zS} (hP : zK0 ≤ P.length) (hc : ∀ m args ν r, call m args ν = some r → call' m (args.map (rsh P.length)) (P ++ rshM P.length ν) = some (rshR P r)) (h : rx call q S = some o) : zx d call' q (rshS P S) = some (rsO P o) := by
  obtain ⟨op, len, a, b, k, ext⟩ := q
  unfold rx at h
  dsimp only at h
  split at h
  · exact rs_1 h
  · exact rs_4 h
  · exact rs_5 h
  · exact rs_6 h
  · exact rs_14 h
  · exact rs_18 h
  · exact rs_19 h
  · split at h
    · cases h
    · exact rs_23 (by assumption) h
  · exact rs_24 hP h
  · split at h
    · rename_i hb
      subst hb
      exact rs_27 hP h
    · cases h
  · exact rs_28 h
  · exact rs_29 h
  · exact rs_30 h
  · exact rs_31 h
  · exact rs_32 hc h
  · exact rs_33 hP h
  · exact rs_36 h
  · cases h
theorem rrun_sim {cd : List zRI} (hP : zK0 ≤ P.length) (hc : ∀ m args ν r, call m args ν = some r → call' m (args.map (rsh P.length)) (P ++ rshM P.length ν) = some (rshR P r)) : ∀ (n : Nat) (S : zS) (r : zR), rrun call cd n S = some r → zrun d call' cd n (rshS P S) = some (rshR P r)
  | 0, _, _, h => by cases h
  | n + 1, S, r, h => by
    unfold rrun at h
    unfold zrun
    cases hx : rx call (zfetch cd S.1) S with
    | none => rw [hx] at h; cases h
    | some o =>
      have e : zn d call' cd (rshS P S) = some (rsO P o) := rx_sim hP hc hx
      rw [hx] at h
      rw [e]
      cases o with
      | inl S1 => exact rrun_sim hP hc n S1 r h
      | inr r1 => cases h; rfl
end ZRX
theorem rden_sim {P : zM} {F : Nat} (hP : zK0 ≤ P.length) : ∀ (d m : Nat) (args : List Value) (ν : zM) (r : zR), rden zcds F d m args ν = some r → zden zcds d m (args.map (rsh P.length)) (P ++ rshM P.length ν) = some (rshR P r)
  | 0, _, _, _, _, h => by cases h
  | d + 1, m, args, ν, r, h => by
    unfold rden at h
    split at h
    · rename_i h1
      unfold zden
      rw [rsh_sum, if_pos h1, rsh_args]
      exact zden1_iff.mpr ⟨F, rrun_sim (call := rden zcds F d) hP (rden_sim hP d) F _ _ h⟩
    · cases h
