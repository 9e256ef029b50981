/-! THE LAW: day, sheet 10 -/
theorem lx_zdl_10 : lx_zck 6 lx_zT6 lx_B6 (lx_rd6 10) lx_k6n (hg_new lx_z0 (ai_lo32, -1)) = true := by decide +kernel
theorem lx_zdh_10 : lx_zck 6 lx_zT6 lx_B6 (lx_rd6 10) lx_k6n (hg_new lx_z0 (9, ai_hi32)) = true := by decide +kernel
theorem lx_zd1_10 : lx_zck 6 lx_zT6 lx_B6 (lx_rd6 10) (lx_k6 10) (lx_z61 10) = true := by decide +kernel
theorem lx_zd2_10 : lx_zck 6 lx_zT6 lx_B6 (lx_rd6 10) (lx_k6 10) (lx_z62 10) = true := by decide +kernel
theorem lx_zd3_10 : lx_zck 6 lx_zT6 lx_B6 (lx_rd6 10) (lx_k6 10) (lx_z63 10) = true := by decide +kernel
