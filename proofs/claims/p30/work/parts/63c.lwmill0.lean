/-! THE LAW: mill, 0 of them told (printed by lawq.py) -/
noncomputable def lx_P2 : List (Nat × Nat × Nat) := [(1, 0, 4), (9, 44, 9), (10, 44, 10), (17, 50, 9), (18, 50, 10), (25, 56, 9), (26, 56, 10), (33, 62, 9), (34, 62, 10), (72, 264, 1), (75, 17, 2), (135, 44, 0), (136, 50, 0), (137, 56, 0), (138, 62, 0), (139, 44, 1), (140, 50, 1), (141, 56, 1), (142, 62, 1), (143, 44, 2), (144, 50, 2), (145, 56, 2), (146, 62, 2), (147, 44, 3), (148, 50, 3), (149, 56, 3), (150, 62, 3), (151, 44, 4), (152, 50, 4), (153, 56, 4), (154, 62, 4), (155, 275, 0), (156, 275, 1), (157, 275, 2), (158, 275, 3), (159, 276, 0), (160, 276, 1), (161, 276, 2), (162, 276, 3), (163, 277, 0), (164, 277, 1), (165, 277, 2), (166, 277, 3), (167, 278, 0), (168, 278, 1), (169, 278, 2), (170, 278, 3)]
noncomputable def lx_P2_0 : List (Nat × Nat × Nat) := [(1, 0, 4), (5, 44, 5), (6, 44, 6), (7, 44, 7), (8, 44, 8), (72, 264, 1), (75, 17, 2), (135, 44, 0), (139, 44, 1), (143, 44, 2), (147, 44, 3), (151, 44, 4), (155, 275, 0), (159, 276, 0), (163, 277, 0), (167, 278, 0)]
noncomputable def lx_P2f_0 : List (Nat × Nat × Nat) := [(1, 0, 4), (72, 264, 1), (75, 17, 2)]
noncomputable def lx_Tu0 : List (Nat × us_C) := []
theorem lx_Tu0_ok : lt_all 60 lx_Tu0 := trivial
theorem lx_pf0 : lx_pcK 0 lx_P2f_0 = true := by decide +kernel
theorem lx_pk0 : lx_pcK 0 lx_P2_0 = true := by decide +kernel
theorem lx_mu0_neg : lx_mkU lx_Tu0 (lx_bk (-2147483648) (-1)) [270, 271, 272, 273, 274, 275, 276, 277, 278] lx_P2f_0 lx_P2_0 0 = true := by decide +kernel
theorem lx_mu0_big : lx_mkU lx_Tu0 (lx_bk (4) (2147483647)) [270, 271, 272, 273, 274, 275, 276, 277, 278] lx_P2f_0 lx_P2_0 0 = true := by decide +kernel
theorem lx_mu0_0 : lx_mkU lx_Tu0 (lx_bk (0) (0)) [270, 271, 272, 273, 274, 275, 276, 277, 278] lx_P2f_0 lx_P2_0 0 = true := by decide +kernel
theorem lx_mu0_1 : lx_mkU lx_Tu0 (lx_bk (1) (1)) [270, 271, 272, 273, 274, 275, 276, 277, 278] lx_P2f_0 lx_P2_0 0 = true := by decide +kernel
theorem lx_mu0_3 : lx_mkU lx_Tu0 (lx_bk (3) (3)) [270, 271, 272, 273, 274, 275, 276, 277, 278] lx_P2f_0 lx_P2_0 0 = true := by decide +kernel
noncomputable def lx_Tv0 : List (Nat × us_C) := []
theorem lx_Tv0_ok : lt_all 60 lx_Tv0 := trivial
theorem lx_m0_0 : lx_mkA lx_Tv0 (lx_bk 2 2) [270, 271, 272, 273, 274, 275, 276, 277, 278] lx_P2 0 0 = true := by decide +kernel
theorem lx_mq0 : ∀ v, v ≤ 0 → lx_MKQ 0 v := fun v h => match v with
  | 0 => lx_MKQ5 lx_Tu0_ok lx_Tv0_ok lx_pf0 lx_pk0 lx_mu0_neg lx_mu0_big lx_mu0_0 lx_mu0_1 lx_mu0_3 lx_m0_0
  | n + 1 => absurd h (by omega)
