theorem i_vc : Claimed_1_1 ∧ Claimed_1_2 := ax_vc (fun L xs hL => ax_law_ok L xs hL)
