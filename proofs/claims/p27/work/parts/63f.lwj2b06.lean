/-! THE LAW: write, sheet 6 -/
theorem lx_zw_6 : lx_zck 4 lx_zT4 lx_zB4 [(1, (0, .ofNat 6))] (lx_k4 6) lx_z0 = true := by decide +kernel
