/-! THE LAW: mill, 3 of them told (rows) -/
theorem lx_m3_0 : lx_mkA lx_Tv3 (lx_bk 2 2) [270, 271, 272, 273, 274, 275, 276, 277, 278] lx_P2 3 0 = true := by decide +kernel
