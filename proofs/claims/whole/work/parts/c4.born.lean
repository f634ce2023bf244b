/-! THE MAKERS OF THE CLASS AND OF THE REFERENCE: what they leave -/
abbrev rFS (ν : zM) (b : Nat) (T N : List Nat) : Prop := ∀ j, j < T.length → ztg ν (b + j) = T.getD j 0 ∧ zni ν (b + j) = N.getD j 0
abbrev rWS (ν : zM) (w : Nat) : Prop := ∀ o, o < 85 → ztg ν (w + o) = zwT o ∧ zni ν (w + o) = zwN o ∧ (zen ν (w + o)).2.2.1 = (zwR o).map (fun q => q.map (w + ·))
abbrev rPost1 (ν : zM) : Prop := ν.length = 180 ∧ (zen ν 0 = (0, [-1], [some 1, some 10, some 95], []))
  ∧ rFS ν 1 [1, 2, 21, 23, 20, 20, 20, 20, 20] [6, 2, 2000, 0, 401, 401, 6, 20, 12]
abbrev rPost2 (ν : zM) : Prop := (zen ν 1).2.2.1 = [some 2, some 7, some 8, some 9] ∧ (zen ν 2).2.2.1 = [some 3, some 4, some 5, some 6] ∧ zen ν 4 = (23, [], List.replicate 401 none, [])
abbrev rPost3 (ν : zM) : Prop := ∀ k, k < 180 → k = 0 ∨ (zen ν k).2.1.all (· == 0) = true
abbrev rModel (ν : zM) : Prop := ν.length = 67 ∧ (zen ν 0 = (8, [0, 0, -1, 0], [some 1, some 2, some 3, some 4, some 5, some 6, some 6, some 23, some 45], []))
  ∧ rFS ν 0 [8, 20, 20, 20, 20, 20] [4, 2000, 401, 401, 401, 401]
  ∧ rFS ν 6 [9, 20, 20, 20, 20, 20, 20, 20, 20, 20, 20, 20, 20, 20, 20, 20, 20] [4, 6, 36, 36, 6, 20, 20, 20, 20, 6, 6, 6, 6, 12, 12, 72, 1440] ∧ (∀ k, k < 16 → zgr ν 6 k = some (6 + (k + 1)))
  ∧ rFS ν 23 [10, 20, 20, 20, 20, 20, 20, 20, 20, 20, 20, 20, 20, 20, 20, 20, 20, 20, 20, 20, 20, 20] [3, 6, 6, 6, 20, 20, 20, 20, 20, 20, 20, 20, 20, 6, 6, 6, 6, 12, 12, 12, 12, 12] ∧ (∀ k, k < 21 → zgr ν 23 k = some (23 + (k + 1))) ∧ zgr ν 23 21 = some 0
  ∧ rFS ν 45 [10, 20, 20, 20, 20, 20, 20, 20, 20, 20, 20, 20, 20, 20, 20, 20, 20, 20, 20, 20, 20, 20] [3, 6, 6, 6, 20, 20, 20, 20, 20, 20, 20, 20, 20, 6, 6, 6, 6, 12, 12, 12, 12, 12] ∧ (∀ k, k < 21 → zgr ν 45 k = some (45 + (k + 1))) ∧ zgr ν 45 21 = some 0
  ∧ (zen ν 23).2.1 = [0, 0, -1] ∧ (zen ν 45).2.1 = [0, 0, -1] ∧ ∀ k, k < 67 → k = 0 ∨ k = 23 ∨ k = 45 ∨ (zen ν k).2.1.all (· == 0) = true
def rP0 : zE := (0, [0], [none, none, none], [])
def rM0 : zE := (8, [0, 0, 0, 0], List.replicate 9 none, [])
theorem run_post : rck (rden zcds 3000 12 0 [.ref 0] [rP0]) (fun c s ν => decide (c = 179) && (decide (s ≤ 20000) && (decide (rPost1 ν) && (decide (rPost2 ν) && (decide (rPost3 ν) && (decide (rWS ν 10) && decide (rWS ν 95))))))) = true := by decide +kernel
theorem run_model : rck (rden zcds 3000 12 123 [.ref 0] [rM0]) (fun c s ν => decide (c = 66) && (decide (s ≤ 20000) && decide (rModel ν))) = true := by decide +kernel
