theorem law_pure (L : Nat) (hL : L ≤ 3072) (xs : Nat → Int32) : ∃ σ', f_L_law_l18 L xs FU s0 0 93 0 = some (1, σ') := sorry
