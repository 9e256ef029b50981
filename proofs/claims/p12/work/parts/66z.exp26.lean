/-! THE LEAST (the reference): a mill is told, mill 1 -/
theorem zt_c1_1 : zt_g1 1 = true := by decide +kernel
theorem zt_c2_0_1 : zt_g2 0 1 = true := by decide +kernel
theorem zt_c2_1_1 : zt_g2 1 1 = true := by decide +kernel
