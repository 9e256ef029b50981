/-! WHAT THE TABLES SAY OF EACH METHOD (printed by gen3.py) 12 -/
theorem cw_207 : ai_mok ft_W cy_207 := ft_mok_ok (gs := [138, 1997]) (by decide +kernel)
theorem pm_207 : ct_G cm_207 := ct_G0 cw_207 ck_207 rfl
theorem ck_208 : ct_S cy_208 2 ct_208 := ft_tree_ok (gs := [1634, 16]) (by decide +kernel)
theorem cw_208 : ai_mok ft_W cy_208 := ft_mok_ok (gs := [138, 1993]) (by decide +kernel)
theorem pm_208 : ct_G cm_208 := ct_G0 cw_208 ck_208 rfl
theorem ck_209 : ct_S cy_209 3 ct_209 := ft_tree_ok (gs := [74, 3, 16, 0, 1536, 11, 342, 0, 1, 1, 33, 1, 96, 0, 1, 1, 1, 1]) (by decide +kernel)
theorem cw_209 : ai_mok ft_W cy_209 := ft_mok_ok (gs := [138, 1986]) (by decide +kernel)
theorem pm_209 : ct_G cm_209 := ct_G0 cw_209 ck_209 rfl
theorem ck_210 : ct_S cy_210 2 ct_210 := ft_tree_ok (gs := [1633, 44, 0, 0, 307, 0]) (by decide +kernel)
theorem cw_210 : ai_mok ft_W cy_210 := ft_mok_ok (gs := [138, 2009]) (by decide +kernel)
theorem pm_210 : ct_G cm_210 := ct_G0 cw_210 ck_210 rfl
theorem ck_211 : ct_S cy_211 3 ct_211 := ft_tree_ok (gs := [99, 1583, 473, 1]) (by decide +kernel)
theorem cw_211 : ai_mok ft_W cy_211 := ft_mok_ok (gs := [138, 2021]) (by decide +kernel)
theorem pm_211 : ct_G cm_211 := ct_G0 cw_211 ck_211 rfl
theorem ck_212 : ct_S cy_212 3 ct_212 := ft_tree_ok (gs := [99, 1534, 522, 1]) (by decide +kernel)
theorem cw_212 : ai_mok ft_W cy_212 := ft_mok_ok (gs := [138, 2025]) (by decide +kernel)
theorem pm_212 : ct_G cm_212 := ct_G0 cw_212 ck_212 rfl
theorem ck_213 : ct_S cy_213 5 ct_213 := ft_tree_ok (gs := [99, 0, 1533, 0, 2, 0, 0, 40, 0, 0, 473, 1, 1, 1]) (by decide +kernel)
theorem cw_213 : ai_mok ft_W cy_213 := ft_mok_ok (gs := [138, 2017]) (by decide +kernel)
theorem pm_213 : ct_G cm_213 := ct_G0 cw_213 ck_213 rfl
theorem ck_214 : ct_S cy_214 2 ct_214 := ft_tree_ok (gs := [98, 1536, 42, 474, 1]) (by decide +kernel)
theorem cw_214 : ai_mok ft_W cy_214 := ft_mok_ok (gs := [138, 2040]) (by decide +kernel)
theorem pm_214 : ct_G cm_214 := ct_G0 cw_214 ck_214 rfl
theorem ck_215 : ct_S cy_215 4 ct_215 := ft_tree_ok (gs := [73, 0, 23, 50, 1483, 1, 45, 0, 301, 1, 1, 0, 1, 1, 159, 1, 9, 0, 0]) (by decide +kernel)
theorem cw_215 : ai_mok ft_W cy_215 := ft_mok_ok (gs := [138, 2013]) (by decide +kernel)
theorem pm_215 : ct_G cm_215 := ct_G0 cw_215 ck_215 rfl
theorem ck_216 : ct_S cy_216 4 ct_216 := ft_tree_ok (gs := [149, 1484, 0, 5, 36, 0, 1, 0, 7, 474, 0, 0]) (by decide +kernel)
