/-! THE LAW: day, sheet 2 -/
theorem lx_zdl_2 : lx_zck 6 lx_zT6 lx_B6 (lx_rd6 2) lx_k6n (hg_new lx_z0 (ai_lo32, -1)) = true := by decide +kernel
theorem lx_zdh_2 : lx_zck 6 lx_zT6 lx_B6 (lx_rd6 2) lx_k6n (hg_new lx_z0 (9, ai_hi32)) = true := by decide +kernel
theorem lx_zd1_2 : lx_zck 6 lx_zT6 lx_B6 (lx_rd6 2) (lx_k6 2) (lx_z61 2) = true := by decide +kernel
theorem lx_zd2_2 : lx_zck 6 lx_zT6 lx_B6 (lx_rd6 2) (lx_k6 2) (lx_z62 2) = true := by decide +kernel
theorem lx_zd3_2 : lx_zck 6 lx_zT6 lx_B6 (lx_rd6 2) (lx_k6 2) (lx_z63 2) = true := by decide +kernel
