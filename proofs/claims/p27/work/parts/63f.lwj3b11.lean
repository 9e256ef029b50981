/-! THE LAW: day, sheet 11 -/
theorem lx_zdl_11 : lx_zck 6 lx_zT6 lx_B6 (lx_rd6 11) lx_k6n (hg_new lx_z0 (ai_lo32, -1)) = true := by decide +kernel
theorem lx_zdh_11 : lx_zck 6 lx_zT6 lx_B6 (lx_rd6 11) lx_k6n (hg_new lx_z0 (9, ai_hi32)) = true := by decide +kernel
theorem lx_zd1_11 : lx_zck 6 lx_zT6 lx_B6 (lx_rd6 11) (lx_k6 11) (lx_z61 11) = true := by decide +kernel
theorem lx_zd2_11 : lx_zck 6 lx_zT6 lx_B6 (lx_rd6 11) (lx_k6 11) (lx_z62 11) = true := by decide +kernel
theorem lx_zd3_11 : lx_zck 6 lx_zT6 lx_B6 (lx_rd6 11) (lx_k6 11) (lx_z63 11) = true := by decide +kernel
