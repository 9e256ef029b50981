/-! THE LAW: day, sheet 9 -/
theorem lx_zdl_9 : lx_zck 6 lx_zT6 lx_B6 (lx_rd6 9) lx_k6n (hg_new lx_z0 (ai_lo32, -1)) = true := by decide +kernel
theorem lx_zdh_9 : lx_zck 6 lx_zT6 lx_B6 (lx_rd6 9) lx_k6n (hg_new lx_z0 (9, ai_hi32)) = true := by decide +kernel
theorem lx_zd1_9 : lx_zck 6 lx_zT6 lx_B6 (lx_rd6 9) (lx_k6 9) (lx_z61 9) = true := by decide +kernel
theorem lx_zd2_9 : lx_zck 6 lx_zT6 lx_B6 (lx_rd6 9) (lx_k6 9) (lx_z62 9) = true := by decide +kernel
theorem lx_zd3_9 : lx_zck 6 lx_zT6 lx_B6 (lx_rd6 9) (lx_k6 9) (lx_z63 9) = true := by decide +kernel
