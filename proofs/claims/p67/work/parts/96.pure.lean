theorem law_true (xs : Nat → Int32) (L : Nat) : ∃ M', F_L_law_15 xs L FU M0 0 (fun _ => 0) = some (1, M') := sorry
