/-! THE CLAIM -/
theorem i_vc : Claimed_1_1 ∧ Claimed_1_2 := vc_of_run law_ok
