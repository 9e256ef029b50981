/-! THE LEAST (the reference): a mill is told, mill 3 -/
theorem zt_c1_3 : zt_g1 3 = true := by decide +kernel
theorem zt_c2_0_3 : zt_g2 0 3 = true := by decide +kernel
theorem zt_c2_1_3 : zt_g2 1 3 = true := by decide +kernel
