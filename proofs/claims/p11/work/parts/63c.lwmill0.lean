/-! THE LAW: mill, 0 of them told (printed by lawq.py) -/
noncomputable def lx_P2 : List (Nat × Nat × Nat) := [(1, 0, 4), (9, 44, 0), (10, 44, 2), (11, 44, 3), (12, 44, 4), (17, 44, 9), (18, 44, 10), (23, 50, 0), (24, 50, 2), (25, 50, 3), (26, 50, 4), (31, 50, 9), (32, 50, 10), (37, 56, 0), (38, 56, 2), (39, 56, 3), (40, 56, 4), (45, 56, 9), (46, 56, 10), (51, 62, 0), (52, 62, 2), (53, 62, 3), (54, 62, 4), (59, 62, 9), (60, 62, 10), (99, 264, 1), (102, 17, 2), (142, 44, 1), (143, 50, 1), (144, 56, 1), (145, 62, 1), (146, 275, 0), (147, 275, 1), (148, 275, 2), (149, 275, 3)]
noncomputable def lx_P2_0 : List (Nat × Nat × Nat) := [(1, 0, 4), (9, 44, 0), (10, 44, 2), (11, 44, 3), (12, 44, 4), (13, 44, 5), (14, 44, 6), (15, 44, 7), (16, 44, 8), (99, 264, 1), (102, 17, 2), (142, 44, 1), (146, 275, 0)]
noncomputable def lx_P2f_0 : List (Nat × Nat × Nat) := [(1, 0, 4), (99, 264, 1), (102, 17, 2)]
noncomputable def lx_Tu0 : List (Nat × us_C) := []
theorem lx_Tu0_ok : lt_all 60 lx_Tu0 := trivial
theorem lx_pf0 : lx_pcK 0 lx_P2f_0 = true := by decide +kernel
theorem lx_pk0 : lx_pcK 0 lx_P2_0 = true := by decide +kernel
theorem lx_mu0_neg : lx_mkU lx_Tu0 (lx_bk (-2147483648) (-1)) [271, 275] lx_P2f_0 lx_P2_0 0 = true := by decide +kernel
theorem lx_mu0_big : lx_mkU lx_Tu0 (lx_bk (4) (2147483647)) [271, 275] lx_P2f_0 lx_P2_0 0 = true := by decide +kernel
theorem lx_mu0_0 : lx_mkU lx_Tu0 (lx_bk (0) (0)) [271, 275] lx_P2f_0 lx_P2_0 0 = true := by decide +kernel
theorem lx_mu0_1 : lx_mkU lx_Tu0 (lx_bk (1) (1)) [271, 275] lx_P2f_0 lx_P2_0 0 = true := by decide +kernel
theorem lx_mu0_3 : lx_mkU lx_Tu0 (lx_bk (3) (3)) [271, 275] lx_P2f_0 lx_P2_0 0 = true := by decide +kernel
noncomputable def lx_Tv0 : List (Nat × us_C) := []
theorem lx_Tv0_ok : lt_all 60 lx_Tv0 := trivial
theorem lx_m0_0 : lx_mkA lx_Tv0 (lx_bk 2 2) [271, 275] lx_P2 0 0 = true := by decide +kernel
theorem lx_mq0 : ∀ v, v ≤ 0 → lx_MKQ 0 v := fun v h => match v with
  | 0 => lx_MKQ5 lx_Tu0_ok lx_Tv0_ok lx_pf0 lx_pk0 lx_mu0_neg lx_mu0_big lx_mu0_0 lx_mu0_1 lx_mu0_3 lx_m0_0
  | n + 1 => absurd h (by omega)
