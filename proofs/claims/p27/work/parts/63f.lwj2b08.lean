/-! THE LAW: write, sheet 8 -/
theorem lx_zw_8 : lx_zck 4 lx_zT4 lx_zB4 [(1, (0, .ofNat 8))] (lx_k4 8) lx_z0 = true := by decide +kernel
