/-! WHAT THE TABLES SAY OF EACH METHOD (printed by gen3.py) 17 -/
theorem cw_247 : ai_mok ft_W cy_247 := ft_mok_ok (gs := [138, 2168]) (by decide +kernel)
theorem pm_247 : ct_G cm_247 := ct_G0 cw_247 ck_247 rfl
theorem ck_248 : ct_S cy_248 2 ct_248 := ft_tree_ok (gs := [78, 39, 1514, 99, 0, 253, 0, 37, 1, 246, 1]) (by decide +kernel)
theorem cw_248 : ai_mok ft_W cy_248 := ft_mok_ok (gs := [138, 2172]) (by decide +kernel)
theorem pm_248 : ct_G cm_248 := ct_G0 cw_248 ck_248 rfl
theorem ck_249 : ct_S cy_249 3 ct_249 := ft_tree_ok (gs := [149, 1015, 0, 469, 6, 1, 6, 401]) (by decide +kernel)
theorem cw_249 : ai_mok ft_W cy_249 := ft_mok_ok (gs := [138, 2184]) (by decide +kernel)
theorem pm_249 : ct_G cm_249 := ct_G0 cw_249 ck_249 rfl
theorem ck_250 : ct_S cy_250 2 ct_250 := ft_tree_ok (gs := [1634, 16]) (by decide +kernel)
theorem cw_250 : ai_mok ft_W cy_250 := ft_mok_ok (gs := [138, 2188]) (by decide +kernel)
theorem pm_250 : ct_G cm_250 := ct_G0 cw_250 ck_250 rfl
theorem ck_251 : ct_S cy_251 5 ct_251 := ft_tree_ok (gs := [122, 0, 1510, 0, 0, 1, 0, 2, 90, 0, 585, 1, 1, 1]) (by decide +kernel)
theorem cw_251 : ai_mok ft_W cy_251 := ft_mok_ok (gs := [138, 2180]) (by decide +kernel)
theorem pm_251 : ct_G cm_251 := ct_G0 cw_251 ck_251 rfl
theorem ck_252 : ct_S cy_252 5 ct_252 := ft_tree_ok (gs := [74, 46, 1511, 0, 100, 0, 0, 253, 1, 132, 0, 188, 1]) (by decide +kernel)
theorem cw_252 : ai_mok ft_W cy_252 := ft_mok_ok (gs := [138, 2176]) (by decide +kernel)
theorem pm_252 : ct_G cm_252 := ct_G0 cw_252 ck_252 rfl
theorem ck_253 : ct_S cy_253 1 ct_253 := ft_tree_ok (gs := [74, 1558, 102, 0, 253, 1]) (by decide +kernel)
theorem cw_253 : ai_mok ft_W cy_253 := ft_mok_ok (gs := [138, 2192]) (by decide +kernel)
theorem pm_253 : ct_G cm_253 := ct_G0 cw_253 ck_253 rfl
theorem ck_254 : ct_S cy_254 2 ct_254 := ft_tree_ok (gs := [74, 1558, 104, 252, 1]) (by decide +kernel)
theorem cw_254 : ai_mok ft_W cy_254 := ft_mok_ok (gs := [138, 2196]) (by decide +kernel)
