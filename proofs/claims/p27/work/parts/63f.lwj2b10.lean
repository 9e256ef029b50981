/-! THE LAW: write, sheet 10 -/
theorem lx_zw_10 : lx_zck 4 lx_zT4 lx_zB4 [(1, (0, .ofNat 10))] (lx_k4 10) lx_z0 = true := by decide +kernel
