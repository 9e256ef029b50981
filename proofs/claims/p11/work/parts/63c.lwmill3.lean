/-! THE LAW: mill, 3 of them told (printed by lawq.py) -/
noncomputable def lx_P2_3 : List (Nat × Nat × Nat) := [(1, 0, 4), (51, 62, 0), (52, 62, 2), (53, 62, 3), (54, 62, 4), (55, 62, 5), (56, 62, 6), (57, 62, 7), (58, 62, 8), (99, 264, 1), (102, 17, 2), (145, 62, 1), (149, 275, 3)]
noncomputable def lx_P2f_3 : List (Nat × Nat × Nat) := [(1, 0, 4), (99, 264, 1), (102, 17, 2)]
noncomputable def lx_Tu3 : List (Nat × us_C) := []
theorem lx_Tu3_ok : lt_all 60 lx_Tu3 := trivial
theorem lx_pf3 : lx_pcK 3 lx_P2f_3 = true := by decide +kernel
theorem lx_pk3 : lx_pcK 3 lx_P2_3 = true := by decide +kernel
theorem lx_mu3_neg : lx_mkU lx_Tu3 (lx_bk (-2147483648) (-1)) [271, 275] lx_P2f_3 lx_P2_3 3 = true := by decide +kernel
theorem lx_mu3_big : lx_mkU lx_Tu3 (lx_bk (4) (2147483647)) [271, 275] lx_P2f_3 lx_P2_3 3 = true := by decide +kernel
theorem lx_mu3_0 : lx_mkU lx_Tu3 (lx_bk (0) (0)) [271, 275] lx_P2f_3 lx_P2_3 3 = true := by decide +kernel
theorem lx_mu3_1 : lx_mkU lx_Tu3 (lx_bk (1) (1)) [271, 275] lx_P2f_3 lx_P2_3 3 = true := by decide +kernel
theorem lx_mu3_3 : lx_mkU lx_Tu3 (lx_bk (3) (3)) [271, 275] lx_P2f_3 lx_P2_3 3 = true := by decide +kernel
noncomputable def lx_Tv3 : List (Nat × us_C) := []
theorem lx_Tv3_ok : lt_all 60 lx_Tv3 := trivial
theorem lx_m3_0 : lx_mkA lx_Tv3 (lx_bk 2 2) [271, 275] lx_P2 3 0 = true := by decide +kernel
theorem lx_m3_1 : lx_mkA lx_Tv3 (lx_bk 2 2) [271, 275] lx_P2 3 1 = true := by decide +kernel
theorem lx_m3_2 : lx_mkA lx_Tv3 (lx_bk 2 2) [271, 275] lx_P2 3 2 = true := by decide +kernel
theorem lx_m3_3 : lx_mkA lx_Tv3 (lx_bk 2 2) [271, 275] lx_P2 3 3 = true := by decide +kernel
theorem lx_mq3 : ∀ v, v ≤ 3 → lx_MKQ 3 v := fun v h => match v with
  | 0 => lx_MKQ5 lx_Tu3_ok lx_Tv3_ok lx_pf3 lx_pk3 lx_mu3_neg lx_mu3_big lx_mu3_0 lx_mu3_1 lx_mu3_3 lx_m3_0
  | 1 => lx_MKQ5 lx_Tu3_ok lx_Tv3_ok lx_pf3 lx_pk3 lx_mu3_neg lx_mu3_big lx_mu3_0 lx_mu3_1 lx_mu3_3 lx_m3_1
  | 2 => lx_MKQ5 lx_Tu3_ok lx_Tv3_ok lx_pf3 lx_pk3 lx_mu3_neg lx_mu3_big lx_mu3_0 lx_mu3_1 lx_mu3_3 lx_m3_2
  | 3 => lx_MKQ5 lx_Tu3_ok lx_Tv3_ok lx_pf3 lx_pk3 lx_mu3_neg lx_mu3_big lx_mu3_0 lx_mu3_1 lx_mu3_3 lx_m3_3
  | n + 4 => absurd h (by omega)
