theorem xlaw : xLaw := fun L xs hL => xrun L xs hL
theorem i_vc : Claimed_1_1 ∧ Claimed_1_2 := i_vc_open xall_ok xlaw
