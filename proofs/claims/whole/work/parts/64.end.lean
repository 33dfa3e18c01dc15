theorem i_vc : Claimed_1_1 ∧ Claimed_1_2 := ax_vc ax_law
