/-! THE LAW: write, sheet 3 -/
theorem lx_zw_3 : lx_zck 4 lx_zT4 lx_zB4 [(1, (0, .ofNat 3))] (lx_k4 3) lx_z0 = true := by decide +kernel
