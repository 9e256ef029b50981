/-! THE LAW: day, sheet 1 -/
theorem lx_zdl_1_x0 : lx_zckA 6 lx_zT6 lx_B6 (lx_rd6 1) lx_k6n (hg_new lx_z0 (ai_lo32, -1)) (.negSucc 2147483647, .negSucc 0) = true := by decide +kernel
theorem lx_zdl_1_x1 : lx_zckA 6 lx_zT6 lx_B6 (lx_rd6 1) lx_k6n (hg_new lx_z0 (ai_lo32, -1)) (.ofNat 0, .ofNat 0) = true := by decide +kernel
theorem lx_zdl_1_x2 : lx_zckA 6 lx_zT6 lx_B6 (lx_rd6 1) lx_k6n (hg_new lx_z0 (ai_lo32, -1)) (.ofNat 1, .ofNat 1) = true := by decide +kernel
theorem lx_zdl_1_x3 : lx_zckA 6 lx_zT6 lx_B6 (lx_rd6 1) lx_k6n (hg_new lx_z0 (ai_lo32, -1)) (.ofNat 2, .ofNat 2) = true := by decide +kernel
theorem lx_zdl_1_x4 : lx_zckA 6 lx_zT6 lx_B6 (lx_rd6 1) lx_k6n (hg_new lx_z0 (ai_lo32, -1)) (.ofNat 3, .ofNat 3) = true := by decide +kernel
theorem lx_zdl_1_x5 : lx_zckA 6 lx_zT6 lx_B6 (lx_rd6 1) lx_k6n (hg_new lx_z0 (ai_lo32, -1)) (.ofNat 4, .ofNat 2147483647) = true := by decide +kernel
theorem lx_zdl_1 : lx_zck 6 lx_zT6 lx_B6 (lx_rd6 1) lx_k6n (hg_new lx_z0 (ai_lo32, -1)) = true := lx_zck_of lx_B6_kc lx_B6_kl (lx_ac lx_zdl_1_x0 (lx_ac lx_zdl_1_x1 (lx_ac lx_zdl_1_x2 (lx_ac lx_zdl_1_x3 (lx_ac lx_zdl_1_x4 (lx_ac lx_zdl_1_x5 lx_an))))))
theorem lx_zdh_1_x0 : lx_zckA 6 lx_zT6 lx_B6 (lx_rd6 1) lx_k6n (hg_new lx_z0 (9, ai_hi32)) (.negSucc 2147483647, .negSucc 0) = true := by decide +kernel
theorem lx_zdh_1_x1 : lx_zckA 6 lx_zT6 lx_B6 (lx_rd6 1) lx_k6n (hg_new lx_z0 (9, ai_hi32)) (.ofNat 0, .ofNat 0) = true := by decide +kernel
theorem lx_zdh_1_x2 : lx_zckA 6 lx_zT6 lx_B6 (lx_rd6 1) lx_k6n (hg_new lx_z0 (9, ai_hi32)) (.ofNat 1, .ofNat 1) = true := by decide +kernel
theorem lx_zdh_1_x3 : lx_zckA 6 lx_zT6 lx_B6 (lx_rd6 1) lx_k6n (hg_new lx_z0 (9, ai_hi32)) (.ofNat 2, .ofNat 2) = true := by decide +kernel
theorem lx_zdh_1_x4 : lx_zckA 6 lx_zT6 lx_B6 (lx_rd6 1) lx_k6n (hg_new lx_z0 (9, ai_hi32)) (.ofNat 3, .ofNat 3) = true := by decide +kernel
theorem lx_zdh_1_x5 : lx_zckA 6 lx_zT6 lx_B6 (lx_rd6 1) lx_k6n (hg_new lx_z0 (9, ai_hi32)) (.ofNat 4, .ofNat 2147483647) = true := by decide +kernel
theorem lx_zdh_1 : lx_zck 6 lx_zT6 lx_B6 (lx_rd6 1) lx_k6n (hg_new lx_z0 (9, ai_hi32)) = true := lx_zck_of lx_B6_kc lx_B6_kl (lx_ac lx_zdh_1_x0 (lx_ac lx_zdh_1_x1 (lx_ac lx_zdh_1_x2 (lx_ac lx_zdh_1_x3 (lx_ac lx_zdh_1_x4 (lx_ac lx_zdh_1_x5 lx_an))))))
theorem lx_zd1_1_x0 : lx_zckA 6 lx_zT6 lx_B6 (lx_rd6 1) (lx_k6 1) (lx_z61 1) (.negSucc 2147483647, .negSucc 0) = true := by decide +kernel
theorem lx_zd1_1_x1 : lx_zckA 6 lx_zT6 lx_B6 (lx_rd6 1) (lx_k6 1) (lx_z61 1) (.ofNat 0, .ofNat 0) = true := by decide +kernel
theorem lx_zd1_1_x2 : lx_zckA 6 lx_zT6 lx_B6 (lx_rd6 1) (lx_k6 1) (lx_z61 1) (.ofNat 1, .ofNat 1) = true := by decide +kernel
theorem lx_zd1_1_x3 : lx_zckA 6 lx_zT6 lx_B6 (lx_rd6 1) (lx_k6 1) (lx_z61 1) (.ofNat 2, .ofNat 2) = true := by decide +kernel
theorem lx_zd1_1_x4 : lx_zckA 6 lx_zT6 lx_B6 (lx_rd6 1) (lx_k6 1) (lx_z61 1) (.ofNat 3, .ofNat 3) = true := by decide +kernel
theorem lx_zd1_1_x5 : lx_zckA 6 lx_zT6 lx_B6 (lx_rd6 1) (lx_k6 1) (lx_z61 1) (.ofNat 4, .ofNat 2147483647) = true := by decide +kernel
theorem lx_zd1_1 : lx_zck 6 lx_zT6 lx_B6 (lx_rd6 1) (lx_k6 1) (lx_z61 1) = true := lx_zck_of lx_B6_kc lx_B6_kl (lx_ac lx_zd1_1_x0 (lx_ac lx_zd1_1_x1 (lx_ac lx_zd1_1_x2 (lx_ac lx_zd1_1_x3 (lx_ac lx_zd1_1_x4 (lx_ac lx_zd1_1_x5 lx_an))))))
theorem lx_zd2_1_x0 : lx_zckA 6 lx_zT6 lx_B6 (lx_rd6 1) (lx_k6 1) (lx_z62 1) (.negSucc 2147483647, .negSucc 0) = true := by decide +kernel
theorem lx_zd2_1_x1 : lx_zckA 6 lx_zT6 lx_B6 (lx_rd6 1) (lx_k6 1) (lx_z62 1) (.ofNat 0, .ofNat 0) = true := by decide +kernel
theorem lx_zd2_1_x2 : lx_zckA 6 lx_zT6 lx_B6 (lx_rd6 1) (lx_k6 1) (lx_z62 1) (.ofNat 1, .ofNat 1) = true := by decide +kernel
theorem lx_zd2_1_x3 : lx_zckA 6 lx_zT6 lx_B6 (lx_rd6 1) (lx_k6 1) (lx_z62 1) (.ofNat 2, .ofNat 2) = true := by decide +kernel
theorem lx_zd2_1_x4 : lx_zckA 6 lx_zT6 lx_B6 (lx_rd6 1) (lx_k6 1) (lx_z62 1) (.ofNat 3, .ofNat 3) = true := by decide +kernel
theorem lx_zd2_1_x5 : lx_zckA 6 lx_zT6 lx_B6 (lx_rd6 1) (lx_k6 1) (lx_z62 1) (.ofNat 4, .ofNat 2147483647) = true := by decide +kernel
theorem lx_zd2_1 : lx_zck 6 lx_zT6 lx_B6 (lx_rd6 1) (lx_k6 1) (lx_z62 1) = true := lx_zck_of lx_B6_kc lx_B6_kl (lx_ac lx_zd2_1_x0 (lx_ac lx_zd2_1_x1 (lx_ac lx_zd2_1_x2 (lx_ac lx_zd2_1_x3 (lx_ac lx_zd2_1_x4 (lx_ac lx_zd2_1_x5 lx_an))))))
theorem lx_zd3_1_x0 : lx_zckA 6 lx_zT6 lx_B6 (lx_rd6 1) (lx_k6 1) (lx_z63 1) (.negSucc 2147483647, .negSucc 0) = true := by decide +kernel
theorem lx_zd3_1_x1 : lx_zckA 6 lx_zT6 lx_B6 (lx_rd6 1) (lx_k6 1) (lx_z63 1) (.ofNat 0, .ofNat 0) = true := by decide +kernel
theorem lx_zd3_1_x2 : lx_zckA 6 lx_zT6 lx_B6 (lx_rd6 1) (lx_k6 1) (lx_z63 1) (.ofNat 1, .ofNat 1) = true := by decide +kernel
theorem lx_zd3_1_x3 : lx_zckA 6 lx_zT6 lx_B6 (lx_rd6 1) (lx_k6 1) (lx_z63 1) (.ofNat 2, .ofNat 2) = true := by decide +kernel
theorem lx_zd3_1_x4 : lx_zckA 6 lx_zT6 lx_B6 (lx_rd6 1) (lx_k6 1) (lx_z63 1) (.ofNat 3, .ofNat 3) = true := by decide +kernel
theorem lx_zd3_1_x5 : lx_zckA 6 lx_zT6 lx_B6 (lx_rd6 1) (lx_k6 1) (lx_z63 1) (.ofNat 4, .ofNat 2147483647) = true := by decide +kernel
theorem lx_zd3_1 : lx_zck 6 lx_zT6 lx_B6 (lx_rd6 1) (lx_k6 1) (lx_z63 1) = true := lx_zck_of lx_B6_kc lx_B6_kl (lx_ac lx_zd3_1_x0 (lx_ac lx_zd3_1_x1 (lx_ac lx_zd3_1_x2 (lx_ac lx_zd3_1_x3 (lx_ac lx_zd3_1_x4 (lx_ac lx_zd3_1_x5 lx_an))))))
