/-! THE NETS (the reference): the pushes' rows, view 4 -/
theorem zn_p3_4 : zn_p3_g 4 = true := by decide +kernel
theorem zn_p5_4 : zn_p5_g 4 = true := by decide +kernel
theorem zn_p6_4 : zn_p6_g 4 = true := by decide +kernel
theorem zn_p7_4 : zn_p7_g 4 = true := by decide +kernel
theorem zn_pk_4 : zn_pk_g 4 = true := by decide +kernel
