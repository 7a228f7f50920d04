/-! what is owed -/
theorem i_vc : Claimed_1_1 ∧ Claimed_1_2 := vc_of (scr_of h_c4 h_c13)
