/-! THE LAW: day, sheet 6 -/
theorem lx_zdl_6 : lx_zck 6 lx_zT6 lx_B6 (lx_rd6 6) lx_k6n (hg_new lx_z0 (ai_lo32, -1)) = true := by decide +kernel
theorem lx_zdh_6 : lx_zck 6 lx_zT6 lx_B6 (lx_rd6 6) lx_k6n (hg_new lx_z0 (9, ai_hi32)) = true := by decide +kernel
theorem lx_zd1_6 : lx_zck 6 lx_zT6 lx_B6 (lx_rd6 6) (lx_k6 6) (lx_z61 6) = true := by decide +kernel
theorem lx_zd2_6 : lx_zck 6 lx_zT6 lx_B6 (lx_rd6 6) (lx_k6 6) (lx_z62 6) = true := by decide +kernel
theorem lx_zd3_6 : lx_zck 6 lx_zT6 lx_B6 (lx_rd6 6) (lx_k6 6) (lx_z63 6) = true := by decide +kernel
