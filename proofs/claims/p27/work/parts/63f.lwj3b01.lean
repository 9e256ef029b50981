/-! THE LAW: day, sheet 1 -/
theorem lx_zdl_1 : lx_zck 6 lx_zT6 lx_B6 (lx_rd6 1) lx_k6n (hg_new lx_z0 (ai_lo32, -1)) = true := by decide +kernel
theorem lx_zdh_1 : lx_zck 6 lx_zT6 lx_B6 (lx_rd6 1) lx_k6n (hg_new lx_z0 (9, ai_hi32)) = true := by decide +kernel
theorem lx_zd1_1 : lx_zck 6 lx_zT6 lx_B6 (lx_rd6 1) (lx_k6 1) (lx_z61 1) = true := by decide +kernel
theorem lx_zd2_1 : lx_zck 6 lx_zT6 lx_B6 (lx_rd6 1) (lx_k6 1) (lx_z62 1) = true := by decide +kernel
theorem lx_zd3_1 : lx_zck 6 lx_zT6 lx_B6 (lx_rd6 1) (lx_k6 1) (lx_z63 1) = true := by decide +kernel
