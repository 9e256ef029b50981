/-! THE LAW: write, sheet 11 -/
theorem lx_zw_11 : lx_zck 4 lx_zT4 lx_zB4 [(1, (0, .ofNat 11))] (lx_k4 11) lx_z0 = true := by decide +kernel
