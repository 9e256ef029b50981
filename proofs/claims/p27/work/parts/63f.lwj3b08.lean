/-! THE LAW: day, sheet 8 -/
theorem lx_zdl_8 : lx_zck 6 lx_zT6 lx_B6 (lx_rd6 8) lx_k6n (hg_new lx_z0 (ai_lo32, -1)) = true := by decide +kernel
theorem lx_zdh_8 : lx_zck 6 lx_zT6 lx_B6 (lx_rd6 8) lx_k6n (hg_new lx_z0 (9, ai_hi32)) = true := by decide +kernel
theorem lx_zd1_8 : lx_zck 6 lx_zT6 lx_B6 (lx_rd6 8) (lx_k6 8) (lx_z61 8) = true := by decide +kernel
theorem lx_zd2_8 : lx_zck 6 lx_zT6 lx_B6 (lx_rd6 8) (lx_k6 8) (lx_z62 8) = true := by decide +kernel
theorem lx_zd3_8 : lx_zck 6 lx_zT6 lx_B6 (lx_rd6 8) (lx_k6 8) (lx_z63 8) = true := by decide +kernel
