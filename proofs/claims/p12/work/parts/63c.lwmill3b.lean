/-! THE LAW: mill, 3 of them told (rows) -/
theorem lx_mu3_1 : lx_mkU lx_Tu3 (lx_bk (1) (1)) [270, 271, 272, 273, 274, 275, 276, 277, 278, 293] lx_P2f_3 lx_P2_3 3 = true := by decide +kernel
theorem lx_mu3_3 : lx_mkU lx_Tu3 (lx_bk (3) (3)) [270, 271, 272, 273, 274, 275, 276, 277, 278, 293] lx_P2f_3 lx_P2_3 3 = true := by decide +kernel
