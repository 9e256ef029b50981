/-! THE LAW: mill, 0 of them told (printed by lawq.py) -/
noncomputable def lx_P2 : List (Nat × Nat × Nat) := [(1, 0, 4), (29, 44, 0), (30, 44, 2), (31, 44, 3), (32, 44, 4), (37, 44, 9), (38, 44, 10), (43, 50, 0), (44, 50, 2), (45, 50, 3), (46, 50, 4), (51, 50, 9), (52, 50, 10), (57, 56, 0), (58, 56, 2), (59, 56, 3), (60, 56, 4), (65, 56, 9), (66, 56, 10), (71, 62, 0), (72, 62, 2), (73, 62, 3), (74, 62, 4), (79, 62, 9), (80, 62, 10), (121, 264, 1), (124, 17, 2), (179, 44, 1), (180, 50, 1), (181, 56, 1), (182, 62, 1), (183, 275, 0), (184, 275, 1), (185, 275, 2), (186, 275, 3)]
noncomputable def lx_P2_0 : List (Nat × Nat × Nat) := [(1, 0, 4), (29, 44, 0), (30, 44, 2), (31, 44, 3), (32, 44, 4), (33, 44, 5), (34, 44, 6), (35, 44, 7), (36, 44, 8), (121, 264, 1), (124, 17, 2), (179, 44, 1), (183, 275, 0)]
noncomputable def lx_P2f_0 : List (Nat × Nat × Nat) := [(1, 0, 4), (121, 264, 1), (124, 17, 2)]
noncomputable def lx_Tu0 : List (Nat × us_C) := []
theorem lx_Tu0_ok : lt_all 60 lx_Tu0 := trivial
theorem lx_pf0 : lx_pcK 0 lx_P2f_0 = true := by decide +kernel
theorem lx_pk0 : lx_pcK 0 lx_P2_0 = true := by decide +kernel
theorem lx_mu0_neg : lx_mkU lx_Tu0 (lx_bk (-2147483648) (-1)) [271, 275] lx_P2f_0 lx_P2_0 0 = true := by decide +kernel
theorem lx_mu0_big : lx_mkU lx_Tu0 (lx_bk (4) (2147483647)) [271, 275] lx_P2f_0 lx_P2_0 0 = true := by decide +kernel
theorem lx_mu0_0 : lx_mkU lx_Tu0 (lx_bk (0) (0)) [271, 275] lx_P2f_0 lx_P2_0 0 = true := by decide +kernel
theorem lx_mu0_1 : lx_mkU lx_Tu0 (lx_bk (1) (1)) [271, 275] lx_P2f_0 lx_P2_0 0 = true := by decide +kernel
theorem lx_mu0_3 : lx_mkU lx_Tu0 (lx_bk (3) (3)) [271, 275] lx_P2f_0 lx_P2_0 0 = true := by decide +kernel
noncomputable def lx_Tv0 : List (Nat × us_C) := []
theorem lx_Tv0_ok : lt_all 60 lx_Tv0 := trivial
theorem lx_m0_0 : lx_mkA lx_Tv0 (lx_bk 2 2) [271, 275] lx_P2 0 0 = true := by decide +kernel
theorem lx_mq0 : ∀ v, v ≤ 0 → lx_MKQ 0 v := fun v h => match v with
  | 0 => lx_MKQ5 lx_Tu0_ok lx_Tv0_ok lx_pf0 lx_pk0 lx_mu0_neg lx_mu0_big lx_mu0_0 lx_mu0_1 lx_mu0_3 lx_m0_0
  | n + 1 => absurd h (by omega)
