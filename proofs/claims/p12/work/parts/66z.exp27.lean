/-! THE LEAST (the reference): a mill is told, mill 2 -/
theorem zt_c1_2 : zt_g1 2 = true := by decide +kernel
theorem zt_c2_0_2 : zt_g2 0 2 = true := by decide +kernel
theorem zt_c2_1_2 : zt_g2 1 2 = true := by decide +kernel
