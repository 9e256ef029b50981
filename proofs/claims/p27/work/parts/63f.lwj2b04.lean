/-! THE LAW: write, sheet 4 -/
theorem lx_zw_4 : lx_zck 4 lx_zT4 lx_zB4 [(1, (0, .ofNat 4))] (lx_k4 4) lx_z0 = true := by decide +kernel
