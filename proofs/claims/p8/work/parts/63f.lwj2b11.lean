/-! THE LAW: write, sheet 11 -/
theorem lx_zw_11_x0 : lx_zckA 4 lx_zT4 lx_zB4 [(1, (0, .ofNat 11))] (lx_k4 11) lx_z0 (.negSucc 2147483647, .negSucc 0) = true := by decide +kernel
theorem lx_zw_11_x1 : lx_zckA 4 lx_zT4 lx_zB4 [(1, (0, .ofNat 11))] (lx_k4 11) lx_z0 (.ofNat 0, .ofNat 0) = true := by decide +kernel
theorem lx_zw_11_x2 : lx_zckA 4 lx_zT4 lx_zB4 [(1, (0, .ofNat 11))] (lx_k4 11) lx_z0 (.ofNat 1, .ofNat 1) = true := by decide +kernel
theorem lx_zw_11_x3 : lx_zckA 4 lx_zT4 lx_zB4 [(1, (0, .ofNat 11))] (lx_k4 11) lx_z0 (.ofNat 2, .ofNat 2) = true := by decide +kernel
theorem lx_zw_11_x4 : lx_zckA 4 lx_zT4 lx_zB4 [(1, (0, .ofNat 11))] (lx_k4 11) lx_z0 (.ofNat 3, .ofNat 3) = true := by decide +kernel
theorem lx_zw_11_x5 : lx_zckA 4 lx_zT4 lx_zB4 [(1, (0, .ofNat 11))] (lx_k4 11) lx_z0 (.ofNat 4, .ofNat 4) = true := by decide +kernel
theorem lx_zw_11_x6 : lx_zckA 4 lx_zT4 lx_zB4 [(1, (0, .ofNat 11))] (lx_k4 11) lx_z0 (.ofNat 5, .ofNat 5) = true := by decide +kernel
theorem lx_zw_11_x7 : lx_zckA 4 lx_zT4 lx_zB4 [(1, (0, .ofNat 11))] (lx_k4 11) lx_z0 (.ofNat 6, .ofNat 6) = true := by decide +kernel
theorem lx_zw_11_x8 : lx_zckA 4 lx_zT4 lx_zB4 [(1, (0, .ofNat 11))] (lx_k4 11) lx_z0 (.ofNat 7, .ofNat 7) = true := by decide +kernel
theorem lx_zw_11_x9 : lx_zckA 4 lx_zT4 lx_zB4 [(1, (0, .ofNat 11))] (lx_k4 11) lx_z0 (.ofNat 8, .ofNat 8) = true := by decide +kernel
theorem lx_zw_11_x10 : lx_zckA 4 lx_zT4 lx_zB4 [(1, (0, .ofNat 11))] (lx_k4 11) lx_z0 (.ofNat 9, .ofNat 9) = true := by decide +kernel
theorem lx_zw_11_x11 : lx_zckA 4 lx_zT4 lx_zB4 [(1, (0, .ofNat 11))] (lx_k4 11) lx_z0 (.ofNat 10, .ofNat 10) = true := by decide +kernel
theorem lx_zw_11_x12 : lx_zckA 4 lx_zT4 lx_zB4 [(1, (0, .ofNat 11))] (lx_k4 11) lx_z0 (.ofNat 11, .ofNat 11) = true := by decide +kernel
theorem lx_zw_11_x13 : lx_zckA 4 lx_zT4 lx_zB4 [(1, (0, .ofNat 11))] (lx_k4 11) lx_z0 (.ofNat 12, .ofNat 2147483647) = true := by decide +kernel
theorem lx_zw_11 : lx_zck 4 lx_zT4 lx_zB4 [(1, (0, .ofNat 11))] (lx_k4 11) lx_z0 = true := lx_zck_of lx_zB4_kc lx_zB4_kl (lx_ac lx_zw_11_x0 (lx_ac lx_zw_11_x1 (lx_ac lx_zw_11_x2 (lx_ac lx_zw_11_x3 (lx_ac lx_zw_11_x4 (lx_ac lx_zw_11_x5 (lx_ac lx_zw_11_x6 (lx_ac lx_zw_11_x7 (lx_ac lx_zw_11_x8 (lx_ac lx_zw_11_x9 (lx_ac lx_zw_11_x10 (lx_ac lx_zw_11_x11 (lx_ac lx_zw_11_x12 (lx_ac lx_zw_11_x13 lx_an))))))))))))))
