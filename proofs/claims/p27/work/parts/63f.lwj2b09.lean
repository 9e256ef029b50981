/-! THE LAW: write, sheet 9 -/
theorem lx_zw_9 : lx_zck 4 lx_zT4 lx_zB4 [(1, (0, .ofNat 9))] (lx_k4 9) lx_z0 = true := by decide +kernel
