/-! WHAT THE TABLES SAY OF EACH METHOD (printed by gen3.py) 17 -/
theorem cw_247 : ai_mok ft_W cy_247 := ft_mok_ok (gs := [[], [14], [], [], [], [], [], [], [], [], [23]]) (by decide +kernel)
theorem pm_247 : ct_G cm_247 := ct_G0 cw_247 ck_247 rfl
theorem ck_248 : ct_S cy_248 2 ct_248 := ft_tree_ok (gs := [[78, 39], [], [], [], [], [], [], [69, 99, 0], [184, 0, 37, 1], [232, 1]]) (by decide +kernel)
theorem cw_248 : ai_mok ft_W cy_248 := ft_mok_ok (gs := [[], [14], [], [], [], [], [], [], [], [], [27]]) (by decide +kernel)
theorem pm_248 : ct_G cm_248 := ct_G0 cw_248 ck_248 rfl
theorem ck_249 : ct_S cy_249 3 ct_249 := ft_tree_ok (gs := [[], [25], [], [], [], [81, 0], [], [72, 6, 1, 6], [], [10]]) (by decide +kernel)
theorem cw_249 : ai_mok ft_W cy_249 := ft_mok_ok (gs := [[], [14], [], [], [], [], [], [], [], [], [39]]) (by decide +kernel)
theorem pm_249 : ct_G cm_249 := ct_G0 cw_249 ck_249 rfl
theorem ck_250 : ct_S cy_250 2 ct_250 := ft_tree_ok (gs := [[], [], [], [], [], [], [], [70, 16]]) (by decide +kernel)
theorem cw_250 : ai_mok ft_W cy_250 := ft_mok_ok (gs := [[], [14], [], [], [], [], [], [], [], [], [43]]) (by decide +kernel)
theorem pm_250 : ct_G cm_250 := ct_G0 cw_250 ck_250 rfl
theorem ck_251 : ct_S cy_251 5 ct_251 := ft_tree_ok (gs := [[122, 0], [], [], [], [], [], [], [70, 0, 0, 1, 0, 2, 90, 0], [], [], [36, 1, 1, 1]]) (by decide +kernel)
theorem cw_251 : ai_mok ft_W cy_251 := ft_mok_ok (gs := [[], [14], [], [], [], [], [], [], [], [], [35]]) (by decide +kernel)
theorem pm_251 : ct_G cm_251 := ct_G0 cw_251 ck_251 rfl
theorem ck_252 : ct_S cy_252 5 ct_252 := ft_tree_ok (gs := [[74, 46], [], [], [], [], [], [], [69, 0, 100, 0, 0], [187, 1], [82, 0], [32, 1]]) (by decide +kernel)
theorem cw_252 : ai_mok ft_W cy_252 := ft_mok_ok (gs := [[], [14], [], [], [], [], [], [], [], [], [31]]) (by decide +kernel)
theorem pm_252 : ct_G cm_252 := ct_G0 cw_252 ck_252 rfl
theorem ck_253 : ct_S cy_253 1 ct_253 := ft_tree_ok (gs := [[74], [], [], [], [], [], [], [69, 102, 0], [187, 1]]) (by decide +kernel)
theorem cw_253 : ai_mok ft_W cy_253 := ft_mok_ok (gs := [[], [14], [], [], [], [], [], [], [], [], [47]]) (by decide +kernel)
theorem pm_253 : ct_G cm_253 := ct_G0 cw_253 ck_253 rfl
theorem ck_254 : ct_S cy_254 2 ct_254 := ft_tree_ok (gs := [[74], [], [], [], [], [], [], [69, 104], [187, 1]]) (by decide +kernel)
theorem cw_254 : ai_mok ft_W cy_254 := ft_mok_ok (gs := [[], [14], [], [], [], [], [], [], [], [], [51]]) (by decide +kernel)
