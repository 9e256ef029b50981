/-! THE LAW: mill, 1 of them told (printed by lawq.py) -/
noncomputable def lx_P2_1 : List (Nat × Nat × Nat) := [(1, 0, 4), (13, 50, 5), (14, 50, 6), (15, 50, 7), (16, 50, 8), (70, 264, 1), (73, 17, 2), (134, 50, 0), (138, 50, 1), (142, 50, 2), (146, 50, 3), (150, 50, 4), (154, 275, 1), (158, 276, 1), (162, 277, 1), (166, 278, 1), (370, 293, 1)]
noncomputable def lx_P2f_1 : List (Nat × Nat × Nat) := [(1, 0, 4), (70, 264, 1), (73, 17, 2)]
noncomputable def lx_Tu1 : List (Nat × us_C) := []
theorem lx_Tu1_ok : lt_all 60 lx_Tu1 := trivial
theorem lx_pf1 : lx_pcK 1 lx_P2f_1 = true := by decide +kernel
theorem lx_pk1 : lx_pcK 1 lx_P2_1 = true := by decide +kernel
theorem lx_mu1_neg : lx_mkU lx_Tu1 (lx_bk (-2147483648) (-1)) [270, 271, 272, 273, 274, 275, 276, 277, 278, 293] lx_P2f_1 lx_P2_1 1 = true := by decide +kernel
theorem lx_mu1_big : lx_mkU lx_Tu1 (lx_bk (4) (2147483647)) [270, 271, 272, 273, 274, 275, 276, 277, 278, 293] lx_P2f_1 lx_P2_1 1 = true := by decide +kernel
theorem lx_mu1_0 : lx_mkU lx_Tu1 (lx_bk (0) (0)) [270, 271, 272, 273, 274, 275, 276, 277, 278, 293] lx_P2f_1 lx_P2_1 1 = true := by decide +kernel
theorem lx_mu1_1 : lx_mkU lx_Tu1 (lx_bk (1) (1)) [270, 271, 272, 273, 274, 275, 276, 277, 278, 293] lx_P2f_1 lx_P2_1 1 = true := by decide +kernel
theorem lx_mu1_3 : lx_mkU lx_Tu1 (lx_bk (3) (3)) [270, 271, 272, 273, 274, 275, 276, 277, 278, 293] lx_P2f_1 lx_P2_1 1 = true := by decide +kernel
noncomputable def lx_Tv1 : List (Nat × us_C) := []
theorem lx_Tv1_ok : lt_all 60 lx_Tv1 := trivial
theorem lx_m1_0 : lx_mkA lx_Tv1 (lx_bk 2 2) [270, 271, 272, 273, 274, 275, 276, 277, 278, 293] lx_P2 1 0 = true := by decide +kernel
theorem lx_m1_1 : lx_mkA lx_Tv1 (lx_bk 2 2) [270, 271, 272, 273, 274, 275, 276, 277, 278, 293] lx_P2 1 1 = true := by decide +kernel
theorem lx_mq1 : ∀ v, v ≤ 1 → lx_MKQ 1 v := fun v h => match v with
  | 0 => lx_MKQ5 lx_Tu1_ok lx_Tv1_ok lx_pf1 lx_pk1 lx_mu1_neg lx_mu1_big lx_mu1_0 lx_mu1_1 lx_mu1_3 lx_m1_0
  | 1 => lx_MKQ5 lx_Tu1_ok lx_Tv1_ok lx_pf1 lx_pk1 lx_mu1_neg lx_mu1_big lx_mu1_0 lx_mu1_1 lx_mu1_3 lx_m1_1
  | n + 2 => absurd h (by omega)
