/-! the end -/
theorem i_vc : Claimed_1_1 ∧ Claimed_1_2 := i_vc_open EQ_pw_ok EQ_lg_ok EQ_sn_ok EQ_cs_ok EQ_an_ok EQ_rt_ok EQ_dp_ok EQ_dw_ok
