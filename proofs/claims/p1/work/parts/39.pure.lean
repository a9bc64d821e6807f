/-! THE TWO AT THE START: the reference's memory, and what each call answers on both sides -/
def MR : Mm := fun K i k => if K = 0 then (if k = 9 then -1 else 0) else if K = 4 ∧ i = 0 ∧ k < 6 then -1 else if K = 1 ∧ i = 0 ∨ K = 2 ∧ i = 0 ∧ k < 4805 then (if k = 0 then 2 else if 1600 ≤ k ∧ k < 1604 then 120 else 0) else 0
def MRa : Mm := mup (mup (mup (mup (mup N00 1 0 0 2) 1 0 1600 120) 1 0 1601 120) 1 0 1602 120) 1 0 1603 120
def MRb : Mm := mcp MRa 1 0 0 2 0 0 4805
def MRc : Mm := mup (mup (mup (mup (mup (mup MRb 4 0 0 (-1)) 4 0 1 (-1)) 4 0 2 (-1)) 4 0 3 (-1)) 4 0 4 (-1)) 4 0 5 (-1)
theorem mra (K i k : Nat) : MRa K i k = if K = 0 then (if k = 9 then -1 else 0) else if K = 1 ∧ i = 0 then (if k = 0 then 2 else if 1600 ≤ k ∧ k < 1604 then 120 else 0) else 0 := by
  simp only [MRa, mup, N00]
  repeat' split
  all_goals omega
theorem mrb (K i k : Nat) : MRb K i k = if K = 0 then (if k = 9 then -1 else 0) else if K = 1 ∧ i = 0 ∨ K = 2 ∧ i = 0 ∧ k < 4805 then (if k = 0 then 2 else if 1600 ≤ k ∧ k < 1604 then 120 else 0) else 0 := by
  unfold MRb mcp
  by_cases h : K = 2 ∧ i = 0 ∧ 0 ≤ k ∧ k < 0 + 4805
  · rw [if_pos h, mra, if_neg (by decide), if_pos ⟨rfl, rfl⟩, if_neg (by omega : ¬ K = 0), if_pos (Or.inr ⟨h.1, h.2.1, by omega⟩), show 0 + (k - 0) = k by omega]
  · rw [if_neg h, mra]
    repeat' split
    all_goals omega
theorem mrc (K i k : Nat) : MRc K i k = MR K i k := by
  simp only [MRc, mup, mrb, MR]
  repeat' split
  all_goals omega
set_option maxHeartbeats 4000000 in
set_option maxRecDepth 100000 in
theorem mr_init : F_X4_init_61 N00 = some MRc := rfl
theorem mr_eq : MRc = MR := by
  funext K i k
  exact mrc K i k
