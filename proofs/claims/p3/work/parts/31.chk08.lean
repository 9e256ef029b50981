/-! WHAT THE TABLES SAY OF EACH METHOD (printed by gen3.py) 8 -/
theorem cw_162 : ai_mok ft_W cy_162 := ft_mok_ok (gs := [125, 1466]) (by decide +kernel)
theorem pm_162 : ct_G cm_162 := ct_G0 cw_162 ck_162 rfl
theorem ck_163 : ct_S cy_163 3 ct_163 := ft_tree_ok (gs := [7, 0, 130, 0, 0, 0, 1, 11, 0, 555, 0, 0, 46, 21, 3, 4, 1, 1, 0, 0, 0, 0, 0, 0, 0, 0, 0, 0, 0, 0, 0, 0, 0, 0, 0, 0, 0, 0, 0, 0, 0, 0, 0, 0, 0, 0, 0, 0, 0, 0, 0, 0, 0, 0, 0, 0, 0, 0, 0, 0, 0, 0, 0, 0, 0, 0, 0, 1, 0, 0, 0, 0, 0, 0, 0, 0, 0, 0, 86, 4, 0, 0, 0, 0, 0, 0, 0, 0, 0, 0, 0, 0, 0, 0, 159, 0, 1222, 13, 0, 0]) (by decide +kernel)
theorem cw_163 : ai_mok ft_W cy_163 := ft_mok_ok (gs := [125, 1473]) (by decide +kernel)
theorem pm_163 : ct_G cm_163 := ct_G0 cw_163 ck_163 rfl
theorem ck_164 : ct_S cy_164 3 ct_164 := ft_tree_ok (gs := [7, 0, 63, 66, 0, 0, 0, 1, 11, 0, 326, 1, 219, 8, 46, 21, 3, 4, 1, 1, 0, 0, 0, 0, 0, 0, 0, 0, 0, 0, 0, 0, 0, 0, 0, 0, 0, 0, 0, 0, 0, 0, 0, 0, 0, 0, 0, 0, 0, 0, 0, 0, 0, 0, 0, 0, 0, 0, 0, 0, 0, 0, 0, 0, 0, 0, 0, 0, 0, 1, 0, 0, 0, 0, 0, 0, 0, 0, 0, 0, 86, 4, 0, 0, 0, 0, 0, 0, 0, 0, 0, 0, 0, 0, 0, 0, 390, 0, 250, 0, 1, 737, 13, 0, 0]) (by decide +kernel)
theorem cw_164 : ai_mok ft_W cy_164 := ft_mok_ok (gs := [125, 1480]) (by decide +kernel)
theorem pm_164 : ct_G cm_164 := ct_G0 cw_164 ck_164 rfl
theorem ck_165 : ct_S cy_165 3 ct_165 := ft_tree_ok (gs := [506, 199, 6, 0]) (by decide +kernel)
theorem cw_165 : ai_mok ft_W cy_165 := ft_mok_ok (gs := [125, 1485]) (by decide +kernel)
theorem pm_165 : ct_G cm_165 := ct_G0 cw_165 ck_165 rfl
theorem ck_166 : ct_S cy_166 3 ct_166 := ft_tree_ok (gs := [8, 130, 0, 0, 0, 1, 11, 0, 141, 4, 3, 62, 23, 88, 217, 0, 0, 1, 7, 0, 72, 8, 0, 0, 0, 0, 0, 0, 0, 0, 0, 0, 0, 0, 0, 0, 0, 0, 0, 0, 0, 0, 0, 0, 0, 0, 0, 0, 0, 0, 0, 0, 0, 0, 0, 0, 0, 0, 0, 0, 0, 0, 0, 0, 0, 0, 0, 0, 0, 0, 0, 1, 0, 0, 0, 0, 0, 0, 0, 0, 0, 0, 86, 4, 0, 0, 0, 0, 0, 0, 0, 0, 0, 0, 0, 0, 0, 0, 1383, 13, 0, 0]) (by decide +kernel)
theorem cw_166 : ai_mok ft_W cy_166 := ft_mok_ok (gs := [125, 1492]) (by decide +kernel)
theorem pm_166 : ct_G cm_166 := ct_G0 cw_166 ck_166 rfl
theorem ck_167 : ct_S cy_167 6 ct_167 := ft_tree_ok (gs := [156, 0, 37, 420, 1007, 0, 6, 5, 0, 0, 0, 0, 0, 0, 0, 0, 0, 0, 0, 0, 0, 0, 0, 0, 0, 0, 0, 10, 1, 0, 0, 0, 0, 0, 0, 0, 2, 0, 0, 0, 0, 0, 0, 0, 0, 0, 0, 2, 2, 0, 0, 0, 0, 4, 0, 0, 0, 0, 0, 0, 0, 0, 0, 1, 0, 0, 7, 0, 0, 0, 0, 2, 0, 0, 0, 0, 2, 0, 0, 0, 227]) (by decide +kernel)
