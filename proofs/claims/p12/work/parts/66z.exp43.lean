/-! THE NETS (the reference): a matrix's rows, view 5 -/
theorem zn_n1_5 : zn_g1 5 = true := by decide +kernel
