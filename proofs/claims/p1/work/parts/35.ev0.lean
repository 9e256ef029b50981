/-! EVALUATIONS 0 (printed by genclaim.py) -/
theorem ev_0_0 : st_yes (st_law mk_no (st_G 0 0 [] [])) = true := by decide +kernel
theorem ev_1_0 : st_yes (st_law mk_no (st_G 1 1 [] [])) = true := by decide +kernel
theorem ev_2_0 : st_yes (st_law mk_no (st_G 2 2 [] [])) = true := by decide +kernel
theorem ev_3_0 : st_yes (st_law mk_no (st_G 3 3 [] [])) = true := by decide +kernel
theorem ev_4_0 : st_yes (st_law mk_no (st_G 4 4 [] [])) = true := by decide +kernel
theorem ev_5_0 : st_yes (st_law mk_no (st_G 5 5 [] [])) = true := by decide +kernel
theorem ev_6_0 : st_yes (st_law mk_no (st_G 6 6 [] [])) = true := by decide +kernel
theorem ev_7_0 : st_yes (st_law mk_no (st_G 7 7 [] [])) = true := by decide +kernel
theorem ev_8_0 : st_yes (st_law mk_no (st_G 8 8 [] [])) = true := by decide +kernel
theorem ev_9_0 : st_yes (st_law mk_no (st_G 9 9 [] [])) = true := by decide +kernel
theorem ev_10_0 : st_yes (st_law mk_no (st_G 10 10 [] [])) = true := by decide +kernel
theorem ev_11_0 : st_yes (st_law mk_no (st_G 11 11 [] [])) = true := by decide +kernel
theorem ev_12_0 : st_yes (st_law mk_no (st_G 12 12 [] [])) = true := by decide +kernel
theorem ev_13_0 : st_yes (st_law mk_no (st_G 13 13 [] [])) = true := by decide +kernel
theorem ev_14_0 : st_yes (st_law mk_no (st_G 14 14 [] [])) = true := by decide +kernel
theorem ev_15_0 : st_yes (st_law mk_no (st_G 15 15 [(2, (-2147483648), 0)] [])) = true := by decide +kernel
theorem ev_15_5 : st_yes (st_law mk_no (st_G 15 15 [(2, 5, 2147483647)] [])) = true := by decide +kernel
