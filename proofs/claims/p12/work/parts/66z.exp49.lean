/-! THE NETS (the reference): the pushes' rows, view 2 -/
theorem zn_p3_2 : zn_p3_g 2 = true := by decide +kernel
theorem zn_p5_2 : zn_p5_g 2 = true := by decide +kernel
theorem zn_p6_2 : zn_p6_g 2 = true := by decide +kernel
theorem zn_p7_2 : zn_p7_g 2 = true := by decide +kernel
theorem zn_pk_2 : zn_pk_g 2 = true := by decide +kernel
