/-! THE LAW: mill, 3 of them told (printed by lawq.py) -/
noncomputable def lx_P2_3 : List (Nat × Nat × Nat) := [(1, 0, 4), (29, 62, 5), (30, 62, 6), (31, 62, 7), (32, 62, 8), (70, 264, 1), (73, 17, 2), (136, 62, 0), (140, 62, 1), (144, 62, 2), (148, 62, 3), (152, 62, 4), (156, 275, 3), (160, 276, 3), (164, 277, 3), (168, 278, 3), (372, 293, 3)]
noncomputable def lx_P2f_3 : List (Nat × Nat × Nat) := [(1, 0, 4), (70, 264, 1), (73, 17, 2)]
noncomputable def lx_Tu3 : List (Nat × us_C) := []
theorem lx_Tu3_ok : lt_all 60 lx_Tu3 := trivial
theorem lx_pf3 : lx_pcK 3 lx_P2f_3 = true := by decide +kernel
theorem lx_pk3 : lx_pcK 3 lx_P2_3 = true := by decide +kernel
noncomputable def lx_Tv3 : List (Nat × us_C) := []
theorem lx_Tv3_ok : lt_all 60 lx_Tv3 := trivial
theorem lx_mu3_neg : lx_mkU lx_Tu3 (lx_bk (-2147483648) (-1)) [270, 271, 272, 273, 274, 275, 276, 277, 278, 293] lx_P2f_3 lx_P2_3 3 = true := by decide +kernel
theorem lx_mu3_big : lx_mkU lx_Tu3 (lx_bk (4) (2147483647)) [270, 271, 272, 273, 274, 275, 276, 277, 278, 293] lx_P2f_3 lx_P2_3 3 = true := by decide +kernel
theorem lx_mu3_0 : lx_mkU lx_Tu3 (lx_bk (0) (0)) [270, 271, 272, 273, 274, 275, 276, 277, 278, 293] lx_P2f_3 lx_P2_3 3 = true := by decide +kernel
