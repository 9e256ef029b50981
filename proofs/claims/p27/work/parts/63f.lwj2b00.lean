/-! THE LAW: write, sheet 0 -/
theorem lx_zw_0 : lx_zck 4 lx_zT4 lx_zB4 [(1, (0, .ofNat 0))] (lx_k4 0) lx_z0 = true := by decide +kernel
