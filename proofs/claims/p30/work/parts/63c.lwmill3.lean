/-! THE LAW: mill, 3 of them told (printed by lawq.py) -/
noncomputable def lx_P2_3 : List (Nat × Nat × Nat) := [(1, 0, 4), (29, 62, 5), (30, 62, 6), (31, 62, 7), (32, 62, 8), (72, 264, 1), (75, 17, 2), (138, 62, 0), (142, 62, 1), (146, 62, 2), (150, 62, 3), (154, 62, 4), (158, 275, 3), (162, 276, 3), (166, 277, 3), (170, 278, 3)]
noncomputable def lx_P2f_3 : List (Nat × Nat × Nat) := [(1, 0, 4), (72, 264, 1), (75, 17, 2)]
noncomputable def lx_Tu3 : List (Nat × us_C) := []
theorem lx_Tu3_ok : lt_all 60 lx_Tu3 := trivial
theorem lx_pf3 : lx_pcK 3 lx_P2f_3 = true := by decide +kernel
theorem lx_pk3 : lx_pcK 3 lx_P2_3 = true := by decide +kernel
noncomputable def lx_Tv3 : List (Nat × us_C) := []
theorem lx_Tv3_ok : lt_all 60 lx_Tv3 := trivial
theorem lx_mu3_neg : lx_mkU lx_Tu3 (lx_bk (-2147483648) (-1)) [270, 271, 272, 273, 274, 275, 276, 277, 278] lx_P2f_3 lx_P2_3 3 = true := by decide +kernel
theorem lx_mu3_big : lx_mkU lx_Tu3 (lx_bk (4) (2147483647)) [270, 271, 272, 273, 274, 275, 276, 277, 278] lx_P2f_3 lx_P2_3 3 = true := by decide +kernel
theorem lx_mu3_0 : lx_mkU lx_Tu3 (lx_bk (0) (0)) [270, 271, 272, 273, 274, 275, 276, 277, 278] lx_P2f_3 lx_P2_3 3 = true := by decide +kernel
