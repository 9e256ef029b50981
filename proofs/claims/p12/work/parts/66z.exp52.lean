/-! THE NETS (the reference): the pushes' rows, view 5 -/
theorem zn_p3_5 : zn_p3_g 5 = true := by decide +kernel
theorem zn_p5_5 : zn_p5_g 5 = true := by decide +kernel
theorem zn_p6_5 : zn_p6_g 5 = true := by decide +kernel
theorem zn_p7_5 : zn_p7_g 5 = true := by decide +kernel
theorem zn_pk_5 : zn_pk_g 5 = true := by decide +kernel
