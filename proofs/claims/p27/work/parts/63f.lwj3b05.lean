/-! THE LAW: day, sheet 5 -/
theorem lx_zdl_5 : lx_zck 6 lx_zT6 lx_B6 (lx_rd6 5) lx_k6n (hg_new lx_z0 (ai_lo32, -1)) = true := by decide +kernel
theorem lx_zdh_5 : lx_zck 6 lx_zT6 lx_B6 (lx_rd6 5) lx_k6n (hg_new lx_z0 (9, ai_hi32)) = true := by decide +kernel
theorem lx_zd1_5 : lx_zck 6 lx_zT6 lx_B6 (lx_rd6 5) (lx_k6 5) (lx_z61 5) = true := by decide +kernel
theorem lx_zd2_5 : lx_zck 6 lx_zT6 lx_B6 (lx_rd6 5) (lx_k6 5) (lx_z62 5) = true := by decide +kernel
theorem lx_zd3_5 : lx_zck 6 lx_zT6 lx_B6 (lx_rd6 5) (lx_k6 5) (lx_z63 5) = true := by decide +kernel
