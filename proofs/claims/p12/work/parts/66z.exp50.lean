/-! THE NETS (the reference): the pushes' rows, view 3 -/
theorem zn_p3_3 : zn_p3_g 3 = true := by decide +kernel
theorem zn_p5_3 : zn_p5_g 3 = true := by decide +kernel
theorem zn_p6_3 : zn_p6_g 3 = true := by decide +kernel
theorem zn_p7_3 : zn_p7_g 3 = true := by decide +kernel
theorem zn_pk_3 : zn_pk_g 3 = true := by decide +kernel
