/-! WHAT THE TABLES SAY OF EACH METHOD (printed by gen3.py) 11 -/
theorem pm_196 : ct_G cm_196 := ct_G0 cw_196 ck_196 rfl
theorem ck_197 : ct_S cy_197 2 ct_197 := ft_tree_ok (gs := [[79, 5, 4, 1], [], [], [], [], [], [], [], [235, 1], [31, 1, 18, 1, 5, 1]]) (by decide +kernel)
theorem cw_197 : ai_mok ft_W cy_197 := ft_mok_ok (gs := [[], [14], [], [], [], [], [], [], [], [51]]) (by decide +kernel)
theorem pm_197 : ct_G cm_197 := ct_G0 cw_197 ck_197 rfl
theorem ck_198 : ct_S cy_198 2 ct_198 := ft_tree_ok (gs := [[79, 5, 3, 2], [], [], [], [], [], [], [], [235, 1], [31, 1, 14, 1, 9, 1]]) (by decide +kernel)
theorem cw_198 : ai_mok ft_W cy_198 := ft_mok_ok (gs := [[], [14], [], [], [], [], [], [], [], [47]]) (by decide +kernel)
theorem pm_198 : ct_G cm_198 := ct_G0 cw_198 ck_198 rfl
theorem ck_199 : ct_S cy_199 3 ct_199 := ft_tree_ok (gs := [[79, 2, 0, 1, 2, 3], [], [], [], [], [], [], [], [235, 1], [16, 1, 4, 1, 5, 1, 10, 1, 13, 1]]) (by decide +kernel)
theorem cw_199 : ai_mok ft_W cy_199 := ft_mok_ok (gs := [[], [14], [], [], [], [], [], [], [], [42]]) (by decide +kernel)
theorem pm_199 : ct_G cm_199 := ct_G0 cw_199 ck_199 rfl
theorem ck_200 : ct_S cy_200 2 ct_200 := ft_tree_ok (gs := [[79, 2, 4, 4], [], [], [], [], [], [], [], [235, 1], [16, 1, 20, 1, 18, 1]]) (by decide +kernel)
theorem cw_200 : ai_mok ft_W cy_200 := ft_mok_ok (gs := [[], [14], [], [], [], [], [], [], [], [38]]) (by decide +kernel)
theorem pm_200 : ct_G cm_200 := ct_G0 cw_200 ck_200 rfl
theorem ck_201 : ct_S cy_201 3 ct_201 := ft_tree_ok (gs := [[79, 2, 0, 1, 0, 5], [], [], [], [], [], [], [97, 4], [235, 1], [16, 1, 4, 1, 5, 1, 1, 1, 22, 1]]) (by decide +kernel)
theorem cw_201 : ai_mok ft_W cy_201 := ft_mok_ok (gs := [[], [14], [], [], [], [], [], [], [], [30]]) (by decide +kernel)
theorem pm_201 : ct_G cm_201 := ct_G0 cw_201 ck_201 rfl
theorem ck_202 : ct_S cy_202 3 ct_202 := ft_tree_ok (gs := [[79, 2, 0, 0, 9], [], [], [], [], [], [], [102, 2, 0, 0, 0, 0], [235, 1], [16, 1, 4, 1, 1, 1, 38, 1]]) (by decide +kernel)
theorem cw_202 : ai_mok ft_W cy_202 := ft_mok_ok (gs := [[], [14], [], [], [], [], [], [], [], [14]]) (by decide +kernel)
theorem pm_202 : ct_G cm_202 := ct_G0 cw_202 ck_202 rfl
theorem ck_203 : ct_S cy_203 5 ct_203 := ft_tree_ok (gs := [[74, 3, 0, 1], [], [], [], [], [], [], [69, 24, 0, 0, 0, 4, 0, 0, 0, 0, 0, 0, 0, 0, 2], [187, 1, 33, 1, 9, 1], [11, 1]]) (by decide +kernel)
theorem cw_203 : ai_mok ft_W cy_203 := ft_mok_ok (gs := [[], [14], [], [], [], [], [], [], [234]]) (by decide +kernel)
theorem pm_203 : ct_G cm_203 := ct_G0 cw_203 ck_203 rfl
theorem ck_204 : ct_S cy_204 0 ct_204 := ft_tree_ok (gs := [[], [], [], [], [], [], [], [69, 34]]) (by decide +kernel)
theorem cw_204 : ai_mok ft_W cy_204 := ft_mok_ok (gs := [[], [14], [], [], [], [], [], [], [], [77]]) (by decide +kernel)
theorem pm_204 : ct_G cm_204 := ct_G0 cw_204 ck_204 rfl
theorem ck_205 : ct_S cy_205 3 ct_205 := ft_tree_ok (gs := []) (by decide +kernel)
theorem cw_205 : ai_mok ft_W cy_205 := ft_mok_ok (gs := [[], [14], [], [], [], [], [], [], [], [99]]) (by decide +kernel)
theorem pm_205 : ct_G cm_205 := ct_G0 cw_205 ck_205 rfl
theorem ck_206 : ct_S cy_206 4 ct_206 := ft_tree_ok (gs := [[], [], [], [], [], [], [], [108, 0, 0, 0, 0], [], [97, 0]]) (by decide +kernel)
theorem cw_206 : ai_mok ft_W cy_206 := ft_mok_ok (gs := [[], [14], [], [], [], [], [], [], [], [96]]) (by decide +kernel)
theorem pm_206 : ct_G cm_206 := ct_G0 cw_206 ck_206 rfl
theorem ck_207 : ct_S cy_207 4 ct_207 := ft_tree_ok (gs := [[97], [25], [], [], [], [81, 0, 1, 0], [], [81, 0, 23, 0, 3, 1], [], [10, 82, 1, 4]]) (by decide +kernel)
