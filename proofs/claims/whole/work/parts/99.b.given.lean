/-! whole, if an EXPONENT always comes in time: what is left is LOCKS -/
theorem whole_of (hL : LOCKS) : Claimed_1_1 ∧ Claimed_1_2 := i_vc_of (pure_all hL 3584)
