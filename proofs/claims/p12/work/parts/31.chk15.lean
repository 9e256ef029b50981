/-! WHAT THE TABLES SAY OF EACH METHOD (printed by gen3.py) 15 -/
theorem cw_229 : ai_mok ft_W cy_229 := ft_mok_ok (gs := [[], [14], [], [], [], [], [], [], [], [183]]) (by decide +kernel)
theorem pm_229 : ct_G cm_229 := ct_G0 cw_229 ck_229 rfl
theorem ck_230 : ct_S cy_230 0 ct_230 := ft_tree_ok (gs := [[], [], [], [], [], [], [], [145]]) (by decide +kernel)
theorem cw_230 : ai_mok ft_W cy_230 := ft_mok_ok (gs := [[], [14], [], [], [], [], [], [], [], [203]]) (by decide +kernel)
theorem pm_230 : ct_G cm_230 := ct_G0 cw_230 ck_230 rfl
theorem ck_231 : ct_S cy_231 3 ct_231 := ft_tree_ok (gs := [[74, 3], [], [], [], [], [], [], [69, 67, 1, 2, 0, 0], [187, 1, 33, 1], [82, 0]]) (by decide +kernel)
theorem cw_231 : ai_mok ft_W cy_231 := ft_mok_ok (gs := [[], [14], [], [], [], [], [], [], [], [187]]) (by decide +kernel)
theorem pm_231 : ct_G cm_231 := ct_G0 cw_231 ck_231 rfl
theorem ck_232 : ct_S cy_232 3 ct_232 := ft_tree_ok (gs := [[73, 0], [], [], [], [], [], [], [69, 67, 2, 0, 3], [180, 1, 4, 1], [82, 0]]) (by decide +kernel)
theorem cw_232 : ai_mok ft_W cy_232 := ft_mok_ok (gs := [[], [14], [], [], [], [], [], [], [], [191]]) (by decide +kernel)
theorem pm_232 : ct_G cm_232 := ct_G0 cw_232 ck_232 rfl
theorem ck_233 : ct_S cy_233 2 ct_233 := ft_tree_ok (gs := [[114], [], [], [], [], [], [], [78, 58, 6], [], [200, 1]]) (by decide +kernel)
theorem cw_233 : ai_mok ft_W cy_233 := ft_mok_ok (gs := [[], [14], [], [], [], [], [], [], [], [207]]) (by decide +kernel)
theorem pm_233 : ct_G cm_233 := ct_G0 cw_233 ck_233 rfl
theorem ck_234 : ct_S cy_234 3 ct_234 := ft_tree_ok (gs := [[114, 0], [], [], [], [], [], [], [137, 1, 0, 5], [], [200, 1, 1, 1]]) (by decide +kernel)
theorem cw_234 : ai_mok ft_W cy_234 := ft_mok_ok (gs := [[], [14], [], [], [], [], [], [], [], [199]]) (by decide +kernel)
theorem pm_234 : ct_G cm_234 := ct_G0 cw_234 ck_234 rfl
theorem ck_235 : ct_S cy_235 3 ct_235 := ft_tree_ok (gs := [[74, 3, 34, 1], [25], [], [], [], [84, 0], [], [69, 67, 0, 0, 7], [187, 1, 33, 1], [100, 95, 1, 5, 1]]) (by decide +kernel)
theorem cw_235 : ai_mok ft_W cy_235 := ft_mok_ok (gs := [[], [14], [], [], [], [], [], [], [], [195]]) (by decide +kernel)
theorem pm_235 : ct_G cm_235 := ct_G0 cw_235 ck_235 rfl
theorem ck_236 : ct_S cy_236 1 ct_236 := ft_tree_ok (gs := []) (by decide +kernel)
theorem cw_236 : ai_mok ft_W cy_236 := ft_mok_ok (gs := [[], [14], [], [], [], [], [], [], [], [218]]) (by decide +kernel)
theorem pm_236 : ct_G cm_236 := ct_G0 cw_236 ck_236 rfl
theorem ck_237 : ct_S cy_237 5 ct_237 := ft_tree_ok (gs := [[103, 4], [], [], [], [], [], [], [70, 1, 5, 1, 1, 41, 0, 22, 3], [], [136, 1, 25, 1, 49, 0, 1]]) (by decide +kernel)
theorem cw_237 : ai_mok ft_W cy_237 := ft_mok_ok (gs := [[], [14], [], [], [], [], [], [], [], [215]]) (by decide +kernel)
theorem pm_237 : ct_G cm_237 := ct_G0 cw_237 ck_237 rfl
theorem ck_238 : ct_S cy_238 3 ct_238 := ft_tree_ok (gs := [[], [], [], [], [], [], [], [148], [], [216, 0]]) (by decide +kernel)
theorem cw_238 : ai_mok ft_W cy_238 := ft_mok_ok (gs := [[], [14], [], [], [], [], [], [], [], [223]]) (by decide +kernel)
theorem pm_238 : ct_G cm_238 := ct_G0 cw_238 ck_238 rfl
theorem ck_239 : ct_S cy_239 4 ct_239 := ft_tree_ok (gs := [[74, 27, 13, 0], [], [], [], [], [], [], [69, 78, 0, 0, 0, 1, 0], [187, 1], [82, 0, 48, 1, 77, 1, 1, 0, 2, 1]]) (by decide +kernel)
theorem cw_239 : ai_mok ft_W cy_239 := ft_mok_ok (gs := [[], [14], [], [], [], [], [], [], [], [211]]) (by decide +kernel)
