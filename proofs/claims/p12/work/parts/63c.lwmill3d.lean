/-! THE LAW: mill, 3 of them told (rows) -/
theorem lx_m3_1_A : lx_mkA lx_Tv3 (lx_bx lx_bA) [270, 271, 272, 273, 274, 275, 276, 277, 278, 293] lx_P2 3 1 = true := by decide +kernel
theorem lx_m3_1_B : lx_mkA lx_Tv3 (lx_bx lx_bB) [270, 271, 272, 273, 274, 275, 276, 277, 278, 293] lx_P2 3 1 = true := by decide +kernel
theorem lx_m3_1_C : lx_mkA lx_Tv3 (lx_bx lx_bC) [270, 271, 272, 273, 274, 275, 276, 277, 278, 293] lx_P2 3 1 = true := by decide +kernel
theorem lx_m3_1_D : lx_mkA lx_Tv3 (lx_bx lx_bD) [270, 271, 272, 273, 274, 275, 276, 277, 278, 293] lx_P2 3 1 = true := by decide +kernel
theorem lx_m3_1_E : lx_mkA lx_Tv3 (lx_bx lx_bE) [270, 271, 272, 273, 274, 275, 276, 277, 278, 293] lx_P2 3 1 = true := by decide +kernel
theorem lx_m3_1_F : lx_mkA lx_Tv3 (lx_bx lx_bF) [270, 271, 272, 273, 274, 275, 276, 277, 278, 293] lx_P2 3 1 = true := by decide +kernel
theorem lx_m3_1 : lx_SX lx_Tv3 [270, 271, 272, 273, 274, 275, 276, 277, 278, 293] lx_P2 3 1 := lx_six lx_m3_1_A lx_m3_1_B lx_m3_1_C lx_m3_1_D lx_m3_1_E lx_m3_1_F
