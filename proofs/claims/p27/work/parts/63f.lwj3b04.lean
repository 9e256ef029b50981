/-! THE LAW: day, sheet 4 -/
theorem lx_zdl_4 : lx_zck 6 lx_zT6 lx_B6 (lx_rd6 4) lx_k6n (hg_new lx_z0 (ai_lo32, -1)) = true := by decide +kernel
theorem lx_zdh_4 : lx_zck 6 lx_zT6 lx_B6 (lx_rd6 4) lx_k6n (hg_new lx_z0 (9, ai_hi32)) = true := by decide +kernel
theorem lx_zd1_4 : lx_zck 6 lx_zT6 lx_B6 (lx_rd6 4) (lx_k6 4) (lx_z61 4) = true := by decide +kernel
theorem lx_zd2_4 : lx_zck 6 lx_zT6 lx_B6 (lx_rd6 4) (lx_k6 4) (lx_z62 4) = true := by decide +kernel
theorem lx_zd3_4 : lx_zck 6 lx_zT6 lx_B6 (lx_rd6 4) (lx_k6 4) (lx_z63 4) = true := by decide +kernel
