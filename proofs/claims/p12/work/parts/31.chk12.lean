/-! WHAT THE TABLES SAY OF EACH METHOD (printed by gen3.py) 12 -/
theorem cw_207 : ai_mok ft_W cy_207 := ft_mok_ok (gs := [[], [14], [], [], [], [], [], [], [], [92]]) (by decide +kernel)
theorem pm_207 : ct_G cm_207 := ct_G0 cw_207 ck_207 rfl
theorem ck_208 : ct_S cy_208 2 ct_208 := ft_tree_ok (gs := [[], [], [], [], [], [], [], [70, 16]]) (by decide +kernel)
theorem cw_208 : ai_mok ft_W cy_208 := ft_mok_ok (gs := [[], [14], [], [], [], [], [], [], [], [88]]) (by decide +kernel)
theorem pm_208 : ct_G cm_208 := ct_G0 cw_208 ck_208 rfl
theorem ck_209 : ct_S cy_209 3 ct_209 := ft_tree_ok (gs := [[74, 3, 16, 0], [], [], [], [], [], [], [69, 11], [184, 0, 1, 1, 33, 1], [82, 0, 1, 1, 1, 1]]) (by decide +kernel)
theorem cw_209 : ai_mok ft_W cy_209 := ft_mok_ok (gs := [[], [14], [], [], [], [], [], [], [], [81]]) (by decide +kernel)
theorem pm_209 : ct_G cm_209 := ct_G0 cw_209 ck_209 rfl
theorem ck_210 : ct_S cy_210 2 ct_210 := ft_tree_ok (gs := [[], [], [], [], [], [], [], [69, 44, 0, 0], [184, 0]]) (by decide +kernel)
theorem cw_210 : ai_mok ft_W cy_210 := ft_mok_ok (gs := [[], [14], [], [], [], [], [], [], [], [104]]) (by decide +kernel)
theorem pm_210 : ct_G cm_210 := ct_G0 cw_210 ck_210 rfl
theorem ck_211 : ct_S cy_211 3 ct_211 := ft_tree_ok (gs := [[99], [], [], [], [], [], [], [119], [], [113, 1]]) (by decide +kernel)
theorem cw_211 : ai_mok ft_W cy_211 := ft_mok_ok (gs := [[], [14], [], [], [], [], [], [], [], [116]]) (by decide +kernel)
theorem pm_211 : ct_G cm_211 := ct_G0 cw_211 ck_211 rfl
theorem ck_212 : ct_S cy_212 3 ct_212 := ft_tree_ok (gs := [[99], [], [], [], [], [], [], [70], [], [113, 1]]) (by decide +kernel)
theorem cw_212 : ai_mok ft_W cy_212 := ft_mok_ok (gs := [[], [14], [], [], [], [], [], [], [], [120]]) (by decide +kernel)
theorem pm_212 : ct_G cm_212 := ct_G0 cw_212 ck_212 rfl
theorem ck_213 : ct_S cy_213 5 ct_213 := ft_tree_ok (gs := [[99, 0], [], [], [], [], [], [], [70, 0, 2, 0, 0, 40, 0, 0], [], [113, 1, 1, 1]]) (by decide +kernel)
theorem cw_213 : ai_mok ft_W cy_213 := ft_mok_ok (gs := [[], [14], [], [], [], [], [], [], [], [112]]) (by decide +kernel)
theorem pm_213 : ct_G cm_213 := ct_G0 cw_213 ck_213 rfl
theorem ck_214 : ct_S cy_214 2 ct_214 := ft_tree_ok (gs := [[98], [], [], [], [], [], [], [71, 42], [], [109, 1]]) (by decide +kernel)
theorem cw_214 : ai_mok ft_W cy_214 := ft_mok_ok (gs := [[], [14], [], [], [], [], [], [], [], [135]]) (by decide +kernel)
theorem pm_214 : ct_G cm_214 := ct_G0 cw_214 ck_214 rfl
theorem ck_215 : ct_S cy_215 4 ct_215 := ft_tree_ok (gs := [[73, 0, 23], [25], [], [], [], [], [], [69, 1, 45, 0], [180, 1, 1, 0, 1, 1], [109, 1, 9, 0, 0]]) (by decide +kernel)
theorem cw_215 : ai_mok ft_W cy_215 := ft_mok_ok (gs := [[], [14], [], [], [], [], [], [], [], [108]]) (by decide +kernel)
theorem pm_215 : ct_G cm_215 := ct_G0 cw_215 ck_215 rfl
theorem ck_216 : ct_S cy_216 4 ct_216 := ft_tree_ok (gs := [[], [25], [], [], [], [], [], [70, 0, 5, 36, 0, 1, 0, 7], [], [121, 0, 0]]) (by decide +kernel)
