/-! THE LAW: mill, 1 of them told (printed by lawq.py) -/
noncomputable def lx_P2_1 : List (Nat × Nat × Nat) := [(1, 0, 4), (23, 50, 0), (24, 50, 2), (25, 50, 3), (26, 50, 4), (27, 50, 5), (28, 50, 6), (29, 50, 7), (30, 50, 8), (99, 264, 1), (102, 17, 2), (143, 50, 1), (147, 275, 1)]
noncomputable def lx_P2f_1 : List (Nat × Nat × Nat) := [(1, 0, 4), (99, 264, 1), (102, 17, 2)]
noncomputable def lx_Tu1 : List (Nat × us_C) := []
theorem lx_Tu1_ok : lt_all 60 lx_Tu1 := trivial
theorem lx_pf1 : lx_pcK 1 lx_P2f_1 = true := by decide +kernel
theorem lx_pk1 : lx_pcK 1 lx_P2_1 = true := by decide +kernel
theorem lx_mu1_neg : lx_mkU lx_Tu1 (lx_bk (-2147483648) (-1)) [271, 275] lx_P2f_1 lx_P2_1 1 = true := by decide +kernel
theorem lx_mu1_big : lx_mkU lx_Tu1 (lx_bk (4) (2147483647)) [271, 275] lx_P2f_1 lx_P2_1 1 = true := by decide +kernel
theorem lx_mu1_0 : lx_mkU lx_Tu1 (lx_bk (0) (0)) [271, 275] lx_P2f_1 lx_P2_1 1 = true := by decide +kernel
theorem lx_mu1_1 : lx_mkU lx_Tu1 (lx_bk (1) (1)) [271, 275] lx_P2f_1 lx_P2_1 1 = true := by decide +kernel
theorem lx_mu1_3 : lx_mkU lx_Tu1 (lx_bk (3) (3)) [271, 275] lx_P2f_1 lx_P2_1 1 = true := by decide +kernel
noncomputable def lx_Tv1 : List (Nat × us_C) := []
theorem lx_Tv1_ok : lt_all 60 lx_Tv1 := trivial
theorem lx_m1_0 : lx_mkA lx_Tv1 (lx_bk 2 2) [271, 275] lx_P2 1 0 = true := by decide +kernel
theorem lx_m1_1 : lx_mkA lx_Tv1 (lx_bk 2 2) [271, 275] lx_P2 1 1 = true := by decide +kernel
theorem lx_mq1 : ∀ v, v ≤ 1 → lx_MKQ 1 v := fun v h => match v with
  | 0 => lx_MKQ5 lx_Tu1_ok lx_Tv1_ok lx_pf1 lx_pk1 lx_mu1_neg lx_mu1_big lx_mu1_0 lx_mu1_1 lx_mu1_3 lx_m1_0
  | 1 => lx_MKQ5 lx_Tu1_ok lx_Tv1_ok lx_pf1 lx_pk1 lx_mu1_neg lx_mu1_big lx_mu1_0 lx_mu1_1 lx_mu1_3 lx_m1_1
  | n + 2 => absurd h (by omega)
