/-! THE LAW: day, sheet 3 -/
theorem lx_zdl_3 : lx_zck 6 lx_zT6 lx_B6 (lx_rd6 3) lx_k6n (hg_new lx_z0 (ai_lo32, -1)) = true := by decide +kernel
theorem lx_zdh_3 : lx_zck 6 lx_zT6 lx_B6 (lx_rd6 3) lx_k6n (hg_new lx_z0 (9, ai_hi32)) = true := by decide +kernel
theorem lx_zd1_3 : lx_zck 6 lx_zT6 lx_B6 (lx_rd6 3) (lx_k6 3) (lx_z61 3) = true := by decide +kernel
theorem lx_zd2_3 : lx_zck 6 lx_zT6 lx_B6 (lx_rd6 3) (lx_k6 3) (lx_z62 3) = true := by decide +kernel
theorem lx_zd3_3 : lx_zck 6 lx_zT6 lx_B6 (lx_rd6 3) (lx_k6 3) (lx_z63 3) = true := by decide +kernel
