/-! THE LAW: mill, 0 of them told (printed by lawq.py) -/
noncomputable def lx_P2 : List (Nat × Nat × Nat) := [(1, 0, 4), (9, 44, 9), (10, 44, 10), (17, 50, 9), (18, 50, 10), (25, 56, 9), (26, 56, 10), (33, 62, 9), (34, 62, 10), (70, 264, 1), (73, 17, 2), (133, 44, 0), (134, 50, 0), (135, 56, 0), (136, 62, 0), (137, 44, 1), (138, 50, 1), (139, 56, 1), (140, 62, 1), (141, 44, 2), (142, 50, 2), (143, 56, 2), (144, 62, 2), (145, 44, 3), (146, 50, 3), (147, 56, 3), (148, 62, 3), (149, 44, 4), (150, 50, 4), (151, 56, 4), (152, 62, 4), (153, 275, 0), (154, 275, 1), (155, 275, 2), (156, 275, 3), (157, 276, 0), (158, 276, 1), (159, 276, 2), (160, 276, 3), (161, 277, 0), (162, 277, 1), (163, 277, 2), (164, 277, 3), (165, 278, 0), (166, 278, 1), (167, 278, 2), (168, 278, 3), (369, 293, 0), (370, 293, 1), (371, 293, 2), (372, 293, 3)]
noncomputable def lx_P2_0 : List (Nat × Nat × Nat) := [(1, 0, 4), (5, 44, 5), (6, 44, 6), (7, 44, 7), (8, 44, 8), (70, 264, 1), (73, 17, 2), (133, 44, 0), (137, 44, 1), (141, 44, 2), (145, 44, 3), (149, 44, 4), (153, 275, 0), (157, 276, 0), (161, 277, 0), (165, 278, 0), (369, 293, 0)]
noncomputable def lx_P2f_0 : List (Nat × Nat × Nat) := [(1, 0, 4), (70, 264, 1), (73, 17, 2)]
noncomputable def lx_Tu0 : List (Nat × us_C) := []
theorem lx_Tu0_ok : lt_all 60 lx_Tu0 := trivial
theorem lx_pf0 : lx_pcK 0 lx_P2f_0 = true := by decide +kernel
theorem lx_pk0 : lx_pcK 0 lx_P2_0 = true := by decide +kernel
theorem lx_mu0_neg : lx_mkU lx_Tu0 (lx_bk (-2147483648) (-1)) [270, 271, 272, 273, 274, 275, 276, 277, 278, 293] lx_P2f_0 lx_P2_0 0 = true := by decide +kernel
theorem lx_mu0_big : lx_mkU lx_Tu0 (lx_bk (4) (2147483647)) [270, 271, 272, 273, 274, 275, 276, 277, 278, 293] lx_P2f_0 lx_P2_0 0 = true := by decide +kernel
theorem lx_mu0_0 : lx_mkU lx_Tu0 (lx_bk (0) (0)) [270, 271, 272, 273, 274, 275, 276, 277, 278, 293] lx_P2f_0 lx_P2_0 0 = true := by decide +kernel
theorem lx_mu0_1 : lx_mkU lx_Tu0 (lx_bk (1) (1)) [270, 271, 272, 273, 274, 275, 276, 277, 278, 293] lx_P2f_0 lx_P2_0 0 = true := by decide +kernel
theorem lx_mu0_3 : lx_mkU lx_Tu0 (lx_bk (3) (3)) [270, 271, 272, 273, 274, 275, 276, 277, 278, 293] lx_P2f_0 lx_P2_0 0 = true := by decide +kernel
noncomputable def lx_Tv0 : List (Nat × us_C) := []
theorem lx_Tv0_ok : lt_all 60 lx_Tv0 := trivial
theorem lx_m0_0 : lx_mkA lx_Tv0 (lx_bk 2 2) [270, 271, 272, 273, 274, 275, 276, 277, 278, 293] lx_P2 0 0 = true := by decide +kernel
theorem lx_mq0 : ∀ v, v ≤ 0 → lx_MKQ 0 v := fun v h => match v with
  | 0 => lx_MKQ5 lx_Tu0_ok lx_Tv0_ok lx_pf0 lx_pk0 lx_mu0_neg lx_mu0_big lx_mu0_0 lx_mu0_1 lx_mu0_3 lx_m0_0
  | n + 1 => absurd h (by omega)
