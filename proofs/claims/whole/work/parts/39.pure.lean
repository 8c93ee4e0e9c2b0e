theorem law_pure (L : Nat) (xs : Nat → Int32) (hL : L ≤ 3073) (sd : Int64) : ∃ r0 : Int32 × St, f_L_law_b28 L xs (S0 sd) = some r0 ∧ r0.1 = 1 := sorry
