/-! THE LAW: mill, 2 of them told (printed by lawq.py) -/
noncomputable def lx_P2_2 : List (Nat × Nat × Nat) := [(1, 0, 4), (21, 56, 5), (22, 56, 6), (23, 56, 7), (24, 56, 8), (70, 264, 1), (73, 17, 2), (135, 56, 0), (139, 56, 1), (143, 56, 2), (147, 56, 3), (151, 56, 4), (155, 275, 2), (159, 276, 2), (163, 277, 2), (167, 278, 2), (371, 293, 2)]
noncomputable def lx_P2f_2 : List (Nat × Nat × Nat) := [(1, 0, 4), (70, 264, 1), (73, 17, 2)]
noncomputable def lx_Tu2 : List (Nat × us_C) := []
theorem lx_Tu2_ok : lt_all 60 lx_Tu2 := trivial
theorem lx_pf2 : lx_pcK 2 lx_P2f_2 = true := by decide +kernel
theorem lx_pk2 : lx_pcK 2 lx_P2_2 = true := by decide +kernel
theorem lx_mu2_neg : lx_mkU lx_Tu2 (lx_bk (-2147483648) (-1)) [270, 271, 272, 273, 274, 275, 276, 277, 278, 293] lx_P2f_2 lx_P2_2 2 = true := by decide +kernel
theorem lx_mu2_big : lx_mkU lx_Tu2 (lx_bk (4) (2147483647)) [270, 271, 272, 273, 274, 275, 276, 277, 278, 293] lx_P2f_2 lx_P2_2 2 = true := by decide +kernel
theorem lx_mu2_0 : lx_mkU lx_Tu2 (lx_bk (0) (0)) [270, 271, 272, 273, 274, 275, 276, 277, 278, 293] lx_P2f_2 lx_P2_2 2 = true := by decide +kernel
theorem lx_mu2_1 : lx_mkU lx_Tu2 (lx_bk (1) (1)) [270, 271, 272, 273, 274, 275, 276, 277, 278, 293] lx_P2f_2 lx_P2_2 2 = true := by decide +kernel
theorem lx_mu2_3 : lx_mkU lx_Tu2 (lx_bk (3) (3)) [270, 271, 272, 273, 274, 275, 276, 277, 278, 293] lx_P2f_2 lx_P2_2 2 = true := by decide +kernel
noncomputable def lx_Tv2 : List (Nat × us_C) := []
theorem lx_Tv2_ok : lt_all 60 lx_Tv2 := trivial
theorem lx_m2_0 : lx_mkA lx_Tv2 (lx_bk 2 2) [270, 271, 272, 273, 274, 275, 276, 277, 278, 293] lx_P2 2 0 = true := by decide +kernel
theorem lx_m2_1 : lx_mkA lx_Tv2 (lx_bk 2 2) [270, 271, 272, 273, 274, 275, 276, 277, 278, 293] lx_P2 2 1 = true := by decide +kernel
theorem lx_m2_2 : lx_mkA lx_Tv2 (lx_bk 2 2) [270, 271, 272, 273, 274, 275, 276, 277, 278, 293] lx_P2 2 2 = true := by decide +kernel
theorem lx_mq2 : ∀ v, v ≤ 2 → lx_MKQ 2 v := fun v h => match v with
  | 0 => lx_MKQ5 lx_Tu2_ok lx_Tv2_ok lx_pf2 lx_pk2 lx_mu2_neg lx_mu2_big lx_mu2_0 lx_mu2_1 lx_mu2_3 lx_m2_0
  | 1 => lx_MKQ5 lx_Tu2_ok lx_Tv2_ok lx_pf2 lx_pk2 lx_mu2_neg lx_mu2_big lx_mu2_0 lx_mu2_1 lx_mu2_3 lx_m2_1
  | 2 => lx_MKQ5 lx_Tu2_ok lx_Tv2_ok lx_pf2 lx_pk2 lx_mu2_neg lx_mu2_big lx_mu2_0 lx_mu2_1 lx_mu2_3 lx_m2_2
  | n + 3 => absurd h (by omega)
