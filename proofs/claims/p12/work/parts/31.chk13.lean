/-! WHAT THE TABLES SAY OF EACH METHOD (printed by gen3.py) 13 -/
theorem cw_216 : ai_mok ft_W cy_216 := ft_mok_ok (gs := [[], [14], [], [], [], [], [], [], [], [155]]) (by decide +kernel)
theorem pm_216 : ct_G cm_216 := ct_G0 cw_216 ck_216 rfl
theorem ck_217 : ct_S cy_217 4 ct_217 := ft_tree_ok (gs := [[106, 0], [], [], [], [], [], [], [72, 5, 41, 0, 0, 0, 0, 1, 0], [], [148, 1, 1, 1]]) (by decide +kernel)
theorem cw_217 : ai_mok ft_W cy_217 := ft_mok_ok (gs := [[], [14], [], [], [], [], [], [], [], [151]]) (by decide +kernel)
theorem pm_217 : ct_G cm_217 := ct_G0 cw_217 ck_217 rfl
theorem ck_218 : ct_S cy_218 2 ct_218 := ft_tree_ok (gs := [[], [25], [], [], [], [84, 0], [], [79, 0, 0, 1, 41], [], [100]]) (by decide +kernel)
theorem cw_218 : ai_mok ft_W cy_218 := ft_mok_ok (gs := [[], [14], [], [], [], [], [], [], [], [147]]) (by decide +kernel)
theorem pm_218 : ct_G cm_218 := ct_G0 cw_218 ck_218 rfl
theorem ck_219 : ct_S cy_219 5 ct_219 := ft_tree_ok (gs := [[96, 8], [25], [], [], [], [81, 0], [], [79, 0, 2, 4, 31, 0, 0, 5, 0], [], [10, 78, 1, 52, 1]]) (by decide +kernel)
theorem cw_219 : ai_mok ft_W cy_219 := ft_mok_ok (gs := [[], [14], [], [], [], [], [], [], [], [143]]) (by decide +kernel)
theorem pm_219 : ct_G cm_219 := ct_G0 cw_219 ck_219 rfl
theorem ck_220 : ct_S cy_220 4 ct_220 := ft_tree_ok (gs := [[95, 8, 1], [], [], [], [], [], [], [70, 1, 14, 29, 8, 0, 0], [], [85, 1, 52, 1, 5, 1]]) (by decide +kernel)
theorem cw_220 : ai_mok ft_W cy_220 := ft_mok_ok (gs := [[], [14], [], [], [], [], [], [], [], [139]]) (by decide +kernel)
theorem pm_220 : ct_G cm_220 := ct_G0 cw_220 ck_220 rfl
theorem ck_221 : ct_S cy_221 2 ct_221 := ft_tree_ok (gs := [[], [], [], [], [], [], [], [72, 6, 1]]) (by decide +kernel)
theorem cw_221 : ai_mok ft_W cy_221 := ft_mok_ok (gs := [[], [14], [], [], [], [], [], [], [], [131]]) (by decide +kernel)
theorem pm_221 : ct_G cm_221 := ct_G0 cw_221 ck_221 rfl
theorem ck_222 : ct_S cy_222 3 ct_222 := ft_tree_ok (gs := [[74, 26, 0, 0], [], [], [], [], [], [], [69, 2, 51, 5, 0, 0], [187, 1], [82, 0, 44, 1, 1, 1, 1, 1]]) (by decide +kernel)
theorem cw_222 : ai_mok ft_W cy_222 := ft_mok_ok (gs := [[], [14], [], [], [], [], [], [], [], [127]]) (by decide +kernel)
theorem pm_222 : ct_G cm_222 := ct_G0 cw_222 ck_222 rfl
theorem ck_223 : ct_S cy_223 2 ct_223 := ft_tree_ok (gs := [[74, 3], [], [], [], [], [], [], [69, 60, 0, 0], [187, 1, 33, 1]]) (by decide +kernel)
theorem cw_223 : ai_mok ft_W cy_223 := ft_mok_ok (gs := [[], [14], [], [], [], [], [], [], [], [159]]) (by decide +kernel)
theorem pm_223 : ct_G cm_223 := ct_G0 cw_223 ck_223 rfl
theorem ck_224 : ct_S cy_224 2 ct_224 := ft_tree_ok (gs := [[], [], [], [], [], [], [], [72, 6]]) (by decide +kernel)
theorem cw_224 : ai_mok ft_W cy_224 := ft_mok_ok (gs := [[], [14], [], [], [], [], [], [], [], [167]]) (by decide +kernel)
theorem pm_224 : ct_G cm_224 := ct_G0 cw_224 ck_224 rfl
theorem ck_225 : ct_S cy_225 4 ct_225 := ft_tree_ok (gs := [[], [], [], [], [], [], [], [72, 6, 4, 0, 0]]) (by decide +kernel)
theorem cw_225 : ai_mok ft_W cy_225 := ft_mok_ok (gs := [[], [14], [], [], [], [], [], [], [], [175]]) (by decide +kernel)
