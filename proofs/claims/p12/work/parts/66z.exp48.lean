/-! THE NETS (the reference): the pushes' rows, view 1 -/
theorem zn_p3_1 : zn_p3_g 1 = true := by decide +kernel
theorem zn_p5_1 : zn_p5_g 1 = true := by decide +kernel
theorem zn_p6_1 : zn_p6_g 1 = true := by decide +kernel
theorem zn_p7_1 : zn_p7_g 1 = true := by decide +kernel
theorem zn_pk_1 : zn_pk_g 1 = true := by decide +kernel
