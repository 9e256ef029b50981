/-! THE NETS (the reference): a matrix's rows, view 4 -/
theorem zn_n1_4 : zn_g1 4 = true := by decide +kernel
