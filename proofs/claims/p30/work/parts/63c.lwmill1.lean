/-! THE LAW: mill, 1 of them told (printed by lawq.py) -/
noncomputable def lx_P2_1 : List (Nat × Nat × Nat) := [(1, 0, 4), (13, 50, 5), (14, 50, 6), (15, 50, 7), (16, 50, 8), (72, 264, 1), (75, 17, 2), (136, 50, 0), (140, 50, 1), (144, 50, 2), (148, 50, 3), (152, 50, 4), (156, 275, 1), (160, 276, 1), (164, 277, 1), (168, 278, 1)]
noncomputable def lx_P2f_1 : List (Nat × Nat × Nat) := [(1, 0, 4), (72, 264, 1), (75, 17, 2)]
noncomputable def lx_Tu1 : List (Nat × us_C) := []
theorem lx_Tu1_ok : lt_all 60 lx_Tu1 := trivial
theorem lx_pf1 : lx_pcK 1 lx_P2f_1 = true := by decide +kernel
theorem lx_pk1 : lx_pcK 1 lx_P2_1 = true := by decide +kernel
theorem lx_mu1_neg : lx_mkU lx_Tu1 (lx_bk (-2147483648) (-1)) [270, 271, 272, 273, 274, 275, 276, 277, 278] lx_P2f_1 lx_P2_1 1 = true := by decide +kernel
theorem lx_mu1_big : lx_mkU lx_Tu1 (lx_bk (4) (2147483647)) [270, 271, 272, 273, 274, 275, 276, 277, 278] lx_P2f_1 lx_P2_1 1 = true := by decide +kernel
theorem lx_mu1_0 : lx_mkU lx_Tu1 (lx_bk (0) (0)) [270, 271, 272, 273, 274, 275, 276, 277, 278] lx_P2f_1 lx_P2_1 1 = true := by decide +kernel
theorem lx_mu1_1 : lx_mkU lx_Tu1 (lx_bk (1) (1)) [270, 271, 272, 273, 274, 275, 276, 277, 278] lx_P2f_1 lx_P2_1 1 = true := by decide +kernel
theorem lx_mu1_3 : lx_mkU lx_Tu1 (lx_bk (3) (3)) [270, 271, 272, 273, 274, 275, 276, 277, 278] lx_P2f_1 lx_P2_1 1 = true := by decide +kernel
noncomputable def lx_Tv1 : List (Nat × us_C) := []
theorem lx_Tv1_ok : lt_all 60 lx_Tv1 := trivial
theorem lx_m1_0 : lx_mkA lx_Tv1 (lx_bk 2 2) [270, 271, 272, 273, 274, 275, 276, 277, 278] lx_P2 1 0 = true := by decide +kernel
theorem lx_m1_1 : lx_mkA lx_Tv1 (lx_bk 2 2) [270, 271, 272, 273, 274, 275, 276, 277, 278] lx_P2 1 1 = true := by decide +kernel
theorem lx_mq1 : ∀ v, v ≤ 1 → lx_MKQ 1 v := fun v h => match v with
  | 0 => lx_MKQ5 lx_Tu1_ok lx_Tv1_ok lx_pf1 lx_pk1 lx_mu1_neg lx_mu1_big lx_mu1_0 lx_mu1_1 lx_mu1_3 lx_m1_0
  | 1 => lx_MKQ5 lx_Tu1_ok lx_Tv1_ok lx_pf1 lx_pk1 lx_mu1_neg lx_mu1_big lx_mu1_0 lx_mu1_1 lx_mu1_3 lx_m1_1
  | n + 2 => absurd h (by omega)
