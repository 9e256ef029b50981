theorem te_0 : st_yes (st_law mk_15_4 (st_G 15 15 [(2, 4, 4)] [(2, 4)])) = true := by decide +kernel
