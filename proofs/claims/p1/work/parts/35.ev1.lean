/-! EVALUATIONS 1 (printed by genclaim.py) -/
theorem ev_16_0 : st_yes (st_law mk_no (st_G 16 16 [(3, (-2147483648), (-1))] [])) = true := by decide +kernel
theorem ev_16_1 : st_yes (st_law mk_no (st_G 16 16 [(3, 0, 0)] [(3, 0)])) = true := by decide +kernel
theorem ev_16_2 : st_yes (st_law mk_no (st_G 16 16 [(3, 1, 1)] [(3, 1)])) = true := by decide +kernel
theorem ev_16_3 : st_yes (st_law mk_no (st_G 16 16 [(3, 2, 2147483647)] [])) = true := by decide +kernel
theorem ev_17_0 : st_yes (st_law mk_no (st_G 17 17 [] [])) = true := by decide +kernel
theorem ev_18_0 : st_yes (st_law mk_no (st_G 18 18 [(2, (-2147483648), (-2))] [])) = true := by decide +kernel
theorem ev_18_1 : st_yes (st_law mk_no (st_G 18 18 [(2, (-1), (-1)), (3, (-2147483648), (-1))] [(2, (-1))])) = true := by decide +kernel
theorem ev_18_2 : st_yes (st_law mk_no (st_G 18 18 [(2, (-1), (-1)), (3, 0, 0)] [(2, (-1)), (3, 0)])) = true := by decide +kernel
theorem ev_18_3 : st_yes (st_law mk_no (st_G 18 18 [(2, (-1), (-1)), (3, 1, 2147483647)] [(2, (-1))])) = true := by decide +kernel
theorem ev_18_4 : st_yes (st_law mk_no (st_G 18 18 [(2, 0, 2147483647)] [])) = true := by decide +kernel
theorem ev_20_0 : st_yes (st_law mk_no (st_G 20 20 [] [])) = true := by decide +kernel
theorem ev_21_0 : st_yes (st_law mk_no (st_G 21 21 [] [])) = true := by decide +kernel
theorem ev_22_0 : st_yes (st_law mk_no (st_G 22 22 [] [])) = true := by decide +kernel
theorem ev_23_0 : st_yes (st_law mk_no (st_G 23 23 [] [])) = true := by decide +kernel
theorem ev_24_0 : st_yes (st_law mk_no (st_G 24 24 [] [])) = true := by decide +kernel
theorem ev_25_0 : st_yes (st_law mk_no (st_G 25 25 [] [])) = true := by decide +kernel
theorem ev_26_0 : st_yes (st_law mk_no (st_G 26 26 [] [])) = true := by decide +kernel
theorem ev_27_0 : st_yes (st_law mk_27 (st_G 27 27 [] [])) = true := by decide +kernel
theorem ev_28_0 : st_yes (st_law mk_no (st_G 28 28 [] [])) = true := by decide +kernel
theorem ev_29_0 : st_yes (st_law mk_no (st_G 29 29 [] [])) = true := by decide +kernel
theorem ev_30_0 : st_yes (st_law mk_no (st_G 30 30 [] [])) = true := by decide +kernel
theorem ev_31_0 : st_yes (st_law mk_no (st_G 31 31 [] [])) = true := by decide +kernel
theorem ev_32_0 : st_yes (st_law mk_no (st_G 32 32 [] [])) = true := by decide +kernel
theorem ev_33_0 : st_yes (st_law mk_no (st_G 33 63 [] [])) = true := by decide +kernel
theorem el_0 : st_yes (st_law mk_no (st_G0 0)) = true := by decide +kernel
theorem el_1 : st_yes (st_law mk_no (st_G0 1)) = true := by decide +kernel
theorem el_2 : st_yes (st_law mk_no (st_G0 2)) = true := by decide +kernel
theorem el_3 : st_yes (st_law mk_no (st_G0 3)) = true := by decide +kernel
theorem el_4 : st_yes (st_law mk_no (st_G0 4)) = true := by decide +kernel
theorem el_5 : st_yes (st_law mk_no (st_G0 5)) = true := by decide +kernel
theorem el_6 : st_yes (st_law mk_no (st_G0 6)) = true := by decide +kernel
theorem el_7 : st_yes (st_law mk_no (st_G0 7)) = true := by decide +kernel
theorem el_8 : st_yes (st_law mk_no (st_G0 8)) = true := by decide +kernel
theorem el_9 : st_yes (st_law mk_no (st_G0 9)) = true := by decide +kernel
