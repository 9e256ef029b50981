/-! THE LAW: day, sheet 7 -/
theorem lx_zdl_7 : lx_zck 6 lx_zT6 lx_B6 (lx_rd6 7) lx_k6n (hg_new lx_z0 (ai_lo32, -1)) = true := by decide +kernel
theorem lx_zdh_7 : lx_zck 6 lx_zT6 lx_B6 (lx_rd6 7) lx_k6n (hg_new lx_z0 (9, ai_hi32)) = true := by decide +kernel
theorem lx_zd1_7 : lx_zck 6 lx_zT6 lx_B6 (lx_rd6 7) (lx_k6 7) (lx_z61 7) = true := by decide +kernel
theorem lx_zd2_7 : lx_zck 6 lx_zT6 lx_B6 (lx_rd6 7) (lx_k6 7) (lx_z62 7) = true := by decide +kernel
theorem lx_zd3_7 : lx_zck 6 lx_zT6 lx_B6 (lx_rd6 7) (lx_k6 7) (lx_z63 7) = true := by decide +kernel
