/-! THE NETS (the reference): the pushes' rows, view 0 -/
theorem zn_p3_0 : zn_p3_g 0 = true := by decide +kernel
theorem zn_p5_0 : zn_p5_g 0 = true := by decide +kernel
theorem zn_p6_0 : zn_p6_g 0 = true := by decide +kernel
theorem zn_p7_0 : zn_p7_g 0 = true := by decide +kernel
theorem zn_pk_0 : zn_pk_g 0 = true := by decide +kernel
