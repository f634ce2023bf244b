/-! an index known to be nI of a number -/
theorem ylx {d : Nat} {call : Nat → List Value → zM → Option zR} {cd : List zRI} {pc : Nat} {L : zL} {st : List Value} {c sl len a : Nat} {k : Int} {ext : List Nat} {μ : zM} {I : Nat → Nat → Int32} (pc' : Nat) {r N j : Nat} {x y : Int32} (hy : y = nI j) (hf : zfetch cd pc = (26, len, a, 0, k, ext)) (ht : ztg μ r = 20 ∨ ztg μ r = 30) (hn : zni μ r = N) (hj : j < N) (hN : N < 2 ^ 31) (hp : pc + 1 = pc') (hx : I r j = x) : zden1 d call cd (pc, L, .int y :: .ref r :: st, c, sl, zwi μ I) = zden1 d call cd (pc', L, .int x :: st, c, sl, zwi μ I) := by
  subst hy
  exact yl pc' hf ht hn hj hN hp hx
