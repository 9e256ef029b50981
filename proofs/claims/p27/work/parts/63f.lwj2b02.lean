/-! THE LAW: write, sheet 2 -/
theorem lx_zw_2 : lx_zck 4 lx_zT4 lx_zB4 [(1, (0, .ofNat 2))] (lx_k4 2) lx_z0 = true := by decide +kernel
