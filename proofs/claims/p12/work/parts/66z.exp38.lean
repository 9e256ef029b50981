/-! THE NETS (the reference): a matrix's rows, view 0 -/
theorem zn_n1_0 : zn_g1 0 = true := by decide +kernel
