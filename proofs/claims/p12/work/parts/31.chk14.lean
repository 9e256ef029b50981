/-! WHAT THE TABLES SAY OF EACH METHOD (printed by gen3.py) 14 -/
theorem pm_225 : ct_G cm_225 := ct_G0 cw_225 ck_225 rfl
theorem ck_226 : ct_S cy_226 2 ct_226 := ft_tree_ok (gs := [[], [25], [], [], [], [81, 0], [], [72, 6, 4], [], [10]]) (by decide +kernel)
theorem cw_226 : ai_mok ft_W cy_226 := ft_mok_ok (gs := [[], [14], [], [], [], [], [], [], [], [179]]) (by decide +kernel)
theorem pm_226 : ct_G cm_226 := ct_G0 cw_226 ck_226 rfl
theorem ck_227 : ct_S cy_227 4 ct_227 := ft_tree_ok (gs := [[101, 8, 0], [], [], [], [], [], [], [133, 0, 0, 0], [], [128, 1, 41, 1, 1, 1]]) (by decide +kernel)
theorem cw_227 : ai_mok ft_W cy_227 := ft_mok_ok (gs := [[], [14], [], [], [], [], [], [], [], [171]]) (by decide +kernel)
theorem pm_227 : ct_G cm_227 := ct_G0 cw_227 ck_227 rfl
theorem ck_228 : ct_S cy_228 5 ct_228 := ft_tree_ok (gs := [[74, 26, 0, 0, 4, 0, 1, 0], [], [], [], [], [], [], [69, 0, 1, 6, 3, 32, 16, 0, 0, 0, 0, 0, 0, 0, 6], [187, 1], [128, 1, 1, 1, 1, 1, 25, 1, 1, 1, 5, 1, 1, 1]]) (by decide +kernel)
theorem cw_228 : ai_mok ft_W cy_228 := ft_mok_ok (gs := [[], [14], [], [], [], [], [], [], [], [163]]) (by decide +kernel)
theorem pm_228 : ct_G cm_228 := ct_G0 cw_228 ck_228 rfl
theorem ck_229 : ct_S cy_229 4 ct_229 := ft_tree_ok (gs := [[103, 6], [], [], [], [], [], [], [70, 1, 14, 34, 1, 16, 0, 0, 0, 0, 0, 0], [], [136, 1, 33, 1]]) (by decide +kernel)
