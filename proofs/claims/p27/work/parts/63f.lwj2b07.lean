/-! THE LAW: write, sheet 7 -/
theorem lx_zw_7 : lx_zck 4 lx_zT4 lx_zB4 [(1, (0, .ofNat 7))] (lx_k4 7) lx_z0 = true := by decide +kernel
