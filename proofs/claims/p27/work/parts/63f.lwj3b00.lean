/-! THE LAW: day, sheet 0 -/
theorem lx_zdl_0 : lx_zck 6 lx_zT6 lx_B6 (lx_rd6 0) lx_k6n (hg_new lx_z0 (ai_lo32, -1)) = true := by decide +kernel
theorem lx_zdh_0 : lx_zck 6 lx_zT6 lx_B6 (lx_rd6 0) lx_k6n (hg_new lx_z0 (9, ai_hi32)) = true := by decide +kernel
theorem lx_zd1_0 : lx_zck 6 lx_zT6 lx_B6 (lx_rd6 0) (lx_k6 0) (lx_z61 0) = true := by decide +kernel
theorem lx_zd2_0 : lx_zck 6 lx_zT6 lx_B6 (lx_rd6 0) (lx_k6 0) (lx_z62 0) = true := by decide +kernel
theorem lx_zd3_0 : lx_zck 6 lx_zT6 lx_B6 (lx_rd6 0) (lx_k6 0) (lx_z63 0) = true := by decide +kernel
