theorem te_0 : st_yes (st_law mk_no (st_G 0 0 [] [])) = true := by decide +kernel
