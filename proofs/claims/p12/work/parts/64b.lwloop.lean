/-! THE LAW: its loop (2) -/
theorem lx_sg2 : lx_seg 2 = true := by decide +kernel
theorem lx_sg3 : lx_seg 3 = true := by decide +kernel
