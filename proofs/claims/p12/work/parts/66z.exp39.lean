/-! THE NETS (the reference): a matrix's rows, view 1 -/
theorem zn_n1_1 : zn_g1 1 = true := by decide +kernel
