theorem law_true {L : Nat} {xs : Nat → Int32} (hL : L ≤ 3584) : ∃ r, b_L_law_0 L xs g_u0.1 g_u0.2.1 g_u0.2.2 = some r ∧ r.1 = 1 := sorry
