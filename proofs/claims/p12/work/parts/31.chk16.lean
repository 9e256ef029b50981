/-! WHAT THE TABLES SAY OF EACH METHOD (printed by gen3.py) 16 -/
theorem pm_239 : ct_G cm_239 := ct_G0 cw_239 ck_239 rfl
theorem ck_240 : ct_S cy_240 3 ct_240 := ft_tree_ok (gs := [[74], [], [], [], [], [], [], [69, 80, 0, 1, 0], [184, 0, 1, 1]]) (by decide +kernel)
theorem cw_240 : ai_mok ft_W cy_240 := ft_mok_ok (gs := [[], [14], [], [], [], [], [], [], [], [227]]) (by decide +kernel)
theorem pm_240 : ct_G cm_240 := ct_G0 cw_240 ck_240 rfl
theorem ck_241 : ct_S cy_241 3 ct_241 := ft_tree_ok (gs := [[101, 0, 0, 4, 9], [], [], [], [], [], [], [69, 59], [184, 0], [82, 0, 44, 1, 1, 1, 1, 1, 25, 1, 65, 1]]) (by decide +kernel)
theorem cw_241 : ai_mok ft_W cy_241 := ft_mok_ok (gs := [[], [14], [], [], [], [], [], [], [], [231]]) (by decide +kernel)
theorem pm_241 : ct_G cm_241 := ct_G0 cw_241 ck_241 rfl
theorem ck_242 : ct_S cy_242 5 ct_242 := ft_tree_ok (gs := [[118], [], [], [], [], [], [], [69, 0, 1, 8, 5, 67, 0, 0, 0, 0, 0, 0, 0, 0, 0, 0, 0, 0, 0], [184, 0], [82, 0, 148, 1], [0]]) (by decide +kernel)
theorem cw_242 : ai_mok ft_W cy_242 := ft_mok_ok (gs := [[], [14], [], [], [], [], [], [], [], [239]]) (by decide +kernel)
theorem pm_242 : ct_G cm_242 := ct_G0 cw_242 ck_242 rfl
theorem ck_243 : ct_S cy_243 3 ct_243 := ft_tree_ok (gs := [[78, 39], [], [], [], [], [], [], [69, 85, 2, 4, 4], [184, 0, 37, 1], [232, 1]]) (by decide +kernel)
theorem cw_243 : ai_mok ft_W cy_243 := ft_mok_ok (gs := [[], [14], [], [], [], [], [], [], [], [], [4]]) (by decide +kernel)
theorem pm_243 : ct_G cm_243 := ct_G0 cw_243 ck_243 rfl
theorem ck_244 : ct_S cy_244 1 ct_244 := ft_tree_ok (gs := [[], [], [], [], [], [], [], [162]]) (by decide +kernel)
theorem cw_244 : ai_mok ft_W cy_244 := ft_mok_ok (gs := [[], [14], [], [], [], [], [], [], [], [], [17]]) (by decide +kernel)
theorem pm_244 : ct_G cm_244 := ct_G0 cw_244 ck_244 rfl
theorem ck_245 : ct_S cy_245 4 ct_245 := ft_tree_ok (gs := [[120], [25], [], [], [], [81, 0], [], [156, 0, 0, 0, 0, 0, 0, 0, 0, 0, 0, 0], [], [10], [0, 12, 0, 1, 1, 0]]) (by decide +kernel)
theorem cw_245 : ai_mok ft_W cy_245 := ft_mok_ok (gs := [[], [14], [], [], [], [], [], [], [], [], [12]]) (by decide +kernel)
theorem pm_245 : ct_G cm_245 := ct_G0 cw_245 ck_245 rfl
theorem ck_246 : ct_S cy_246 3 ct_246 := ft_tree_ok (gs := [[74, 44], [], [], [], [], [], [], [69, 85, 2, 0], [187, 1], [], [9, 1]]) (by decide +kernel)
theorem cw_246 : ai_mok ft_W cy_246 := ft_mok_ok (gs := [[], [14], [], [], [], [], [], [], [], [], [8]]) (by decide +kernel)
theorem pm_246 : ct_G cm_246 := ct_G0 cw_246 ck_246 rfl
theorem ck_247 : ct_S cy_247 3 ct_247 := ft_tree_ok (gs := [[74, 45], [], [], [], [], [], [], [69, 85, 0, 1, 0, 0], [187, 1], [], [14, 1]]) (by decide +kernel)
