/-! THE LAW: write, sheet 1 -/
theorem lx_zw_1 : lx_zck 4 lx_zT4 lx_zB4 [(1, (0, .ofNat 1))] (lx_k4 1) lx_z0 = true := by decide +kernel
