/-! THE LAW: write, sheet 5 -/
theorem lx_zw_5 : lx_zck 4 lx_zT4 lx_zB4 [(1, (0, .ofNat 5))] (lx_k4 5) lx_z0 = true := by decide +kernel
