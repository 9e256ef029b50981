/-! EVALUATIONS 2 (printed by genclaim.py) -/
theorem ev_15_1 : st_yes (st_law mk_15_1 (st_G 15 15 [(2, 1, 1)] [(2, 1)])) = true := by decide +kernel
theorem ev_15_2 : st_yes (st_law mk_15_2 (st_G 15 15 [(2, 2, 2)] [(2, 2)])) = true := by decide +kernel
theorem ev_19_0 : st_yes (st_law mk_19 (st_G 19 19 [] [])) = true := by decide +kernel
