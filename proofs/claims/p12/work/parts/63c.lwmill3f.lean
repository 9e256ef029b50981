/-! THE LAW: mill, 3 of them told (rows) -/
theorem lx_m3_3_A : lx_mkA lx_Tv3 (lx_bx lx_bA) [270, 271, 272, 273, 274, 275, 276, 277, 278, 293] lx_P2 3 3 = true := by decide +kernel
theorem lx_m3_3_B : lx_mkA lx_Tv3 (lx_bx lx_bB) [270, 271, 272, 273, 274, 275, 276, 277, 278, 293] lx_P2 3 3 = true := by decide +kernel
theorem lx_m3_3_C : lx_mkA lx_Tv3 (lx_bx lx_bC) [270, 271, 272, 273, 274, 275, 276, 277, 278, 293] lx_P2 3 3 = true := by decide +kernel
theorem lx_m3_3_D : lx_mkA lx_Tv3 (lx_bx lx_bD) [270, 271, 272, 273, 274, 275, 276, 277, 278, 293] lx_P2 3 3 = true := by decide +kernel
theorem lx_m3_3_E : lx_mkA lx_Tv3 (lx_bx lx_bE) [270, 271, 272, 273, 274, 275, 276, 277, 278, 293] lx_P2 3 3 = true := by decide +kernel
theorem lx_m3_3_F : lx_mkA lx_Tv3 (lx_bx lx_bF) [270, 271, 272, 273, 274, 275, 276, 277, 278, 293] lx_P2 3 3 = true := by decide +kernel
theorem lx_m3_3 : lx_SX lx_Tv3 [270, 271, 272, 273, 274, 275, 276, 277, 278, 293] lx_P2 3 3 := lx_six lx_m3_3_A lx_m3_3_B lx_m3_3_C lx_m3_3_D lx_m3_3_E lx_m3_3_F
theorem lx_mq3 : ∀ v, v ≤ 3 → lx_MKQ 3 v := fun v h => match v with
  | 0 => lx_MKQ6 lx_Tu3_ok lx_Tv3_ok lx_pf3 lx_pk3 lx_mu3_neg lx_mu3_big lx_mu3_0 lx_mu3_1 lx_mu3_3 lx_m3_0
  | 1 => lx_MKQ6 lx_Tu3_ok lx_Tv3_ok lx_pf3 lx_pk3 lx_mu3_neg lx_mu3_big lx_mu3_0 lx_mu3_1 lx_mu3_3 lx_m3_1
  | 2 => lx_MKQ6 lx_Tu3_ok lx_Tv3_ok lx_pf3 lx_pk3 lx_mu3_neg lx_mu3_big lx_mu3_0 lx_mu3_1 lx_mu3_3 lx_m3_2
  | 3 => lx_MKQ6 lx_Tu3_ok lx_Tv3_ok lx_pf3 lx_pk3 lx_mu3_neg lx_mu3_big lx_mu3_0 lx_mu3_1 lx_mu3_3 lx_m3_3
  | n + 4 => absurd h (by omega)
