/-! THE NETS (the reference): a matrix's rows, view 3 -/
theorem zn_n1_3 : zn_g1 3 = true := by decide +kernel
