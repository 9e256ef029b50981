/-! THE LEAST (the reference): a mill is told, mill 0 -/
theorem zt_c1_0 : zt_g1 0 = true := by decide +kernel
theorem zt_c2_0_0 : zt_g2 0 0 = true := by decide +kernel
theorem zt_c2_1_0 : zt_g2 1 0 = true := by decide +kernel
