/-! EVALUATIONS 3 (printed by genclaim.py) -/
theorem ev_15_3 : st_yes (st_law mk_15_3 (st_G 15 15 [(2, 3, 3)] [(2, 3)])) = true := by decide +kernel
theorem ev_15_4 : st_yes (st_law mk_15_4 (st_G 15 15 [(2, 4, 4)] [(2, 4)])) = true := by decide +kernel
