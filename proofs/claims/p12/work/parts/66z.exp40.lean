/-! THE NETS (the reference): a matrix's rows, view 2 -/
theorem zn_n1_2 : zn_g1 2 = true := by decide +kernel
