/-! THE LAW: mill, 0 of them told (printed by lawq.py) -/
noncomputable def lx_P2 : List (Nat × Nat × Nat) := [(1, 0, 4), (9, 44, 0), (10, 44, 2), (11, 44, 4), (16, 44, 9), (17, 44, 10), (22, 50, 0), (23, 50, 2), (24, 50, 4), (29, 50, 9), (30, 50, 10), (35, 56, 0), (36, 56, 2), (37, 56, 4), (42, 56, 9), (43, 56, 10), (48, 62, 0), (49, 62, 2), (50, 62, 4), (55, 62, 9), (56, 62, 10), (94, 264, 1), (97, 17, 2), (137, 44, 1), (138, 50, 1), (139, 56, 1), (140, 62, 1), (141, 44, 3), (142, 50, 3), (143, 56, 3), (144, 62, 3), (145, 275, 0), (146, 275, 1), (147, 275, 2), (148, 275, 3)]
noncomputable def lx_P2_0 : List (Nat × Nat × Nat) := [(1, 0, 4), (9, 44, 0), (10, 44, 2), (11, 44, 4), (12, 44, 5), (13, 44, 6), (14, 44, 7), (15, 44, 8), (94, 264, 1), (97, 17, 2), (137, 44, 1), (141, 44, 3), (145, 275, 0)]
noncomputable def lx_P2f_0 : List (Nat × Nat × Nat) := [(1, 0, 4), (94, 264, 1), (97, 17, 2)]
noncomputable def lx_Tu0 : List (Nat × us_C) := []
theorem lx_Tu0_ok : lt_all 60 lx_Tu0 := trivial
theorem lx_pf0 : lx_pcK 0 lx_P2f_0 = true := by decide +kernel
theorem lx_pk0 : lx_pcK 0 lx_P2_0 = true := by decide +kernel
theorem lx_mu0_neg : lx_mkU lx_Tu0 (lx_bk (-2147483648) (-1)) [271, 273, 275] lx_P2f_0 lx_P2_0 0 = true := by decide +kernel
theorem lx_mu0_big : lx_mkU lx_Tu0 (lx_bk (4) (2147483647)) [271, 273, 275] lx_P2f_0 lx_P2_0 0 = true := by decide +kernel
theorem lx_mu0_0 : lx_mkU lx_Tu0 (lx_bk (0) (0)) [271, 273, 275] lx_P2f_0 lx_P2_0 0 = true := by decide +kernel
theorem lx_mu0_1 : lx_mkU lx_Tu0 (lx_bk (1) (1)) [271, 273, 275] lx_P2f_0 lx_P2_0 0 = true := by decide +kernel
theorem lx_mu0_3 : lx_mkU lx_Tu0 (lx_bk (3) (3)) [271, 273, 275] lx_P2f_0 lx_P2_0 0 = true := by decide +kernel
noncomputable def lx_Tv0 : List (Nat × us_C) := []
theorem lx_Tv0_ok : lt_all 60 lx_Tv0 := trivial
theorem lx_m0_0 : lx_mkA lx_Tv0 (lx_bk 2 2) [271, 273, 275] lx_P2 0 0 = true := by decide +kernel
theorem lx_mq0 : ∀ v, v ≤ 0 → lx_MKQ 0 v := fun v h => match v with
  | 0 => lx_MKQ5 lx_Tu0_ok lx_Tv0_ok lx_pf0 lx_pk0 lx_mu0_neg lx_mu0_big lx_mu0_0 lx_mu0_1 lx_mu0_3 lx_m0_0
  | n + 1 => absurd h (by omega)
