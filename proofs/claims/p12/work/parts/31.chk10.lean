/-! WHAT THE TABLES SAY OF EACH METHOD (printed by gen3.py) 10 -/
theorem pm_182 : ct_G cm_182 := ct_G0 cw_182 ck_182 rfl
theorem ck_183 : ct_S cy_183 4 ct_183 := ft_tree_ok (gs := [[73, 0, 1, 0, 0], [], [], [], [], [], [], [69, 9, 7, 0, 1, 0], [180, 1, 1, 0, 1, 1, 17, 1, 5, 1, 5, 1]]) (by decide +kernel)
theorem cw_183 : ai_mok ft_W cy_183 := ft_mok_ok (gs := [[], [14], [], [], [], [], [], [], [222]]) (by decide +kernel)
theorem pm_183 : ct_G cm_183 := ct_G0 cw_183 ck_183 rfl
theorem ck_184 : ct_S cy_184 3 ct_184 := ft_tree_ok (gs := [[], [], [], [], [], [], [], [69, 23, 0]]) (by decide +kernel)
theorem cw_184 : ai_mok ft_W cy_184 := ft_mok_ok (gs := [[], [14], [], [], [], [], [], [], [230]]) (by decide +kernel)
theorem pm_184 : ct_G cm_184 := ct_G0 cw_184 ck_184 rfl
theorem ck_185 : ct_S cy_185 1 ct_185 := ft_tree_ok (gs := [[], [], [], [], [], [], [], [93, 2]]) (by decide +kernel)
theorem cw_185 : ai_mok ft_W cy_185 := ft_mok_ok (gs := [[], [14], [], [], [], [], [], [], [], [2]]) (by decide +kernel)
theorem pm_185 : ct_G cm_185 := ct_G0 cw_185 ck_185 rfl
theorem ck_186 : ct_S cy_186 1 ct_186 := ft_tree_ok (gs := []) (by decide +kernel)
theorem cw_186 : ai_mok ft_W cy_186 := ft_mok_ok (gs := [[], [14], [], [], [], [], [], [], [], [5]]) (by decide +kernel)
theorem pm_186 : ct_G cm_186 := ct_G0 cw_186 ck_186 rfl
theorem ck_187 : ct_S cy_187 1 ct_187 := ft_tree_ok (gs := []) (by decide +kernel)
theorem cw_187 : ai_mok ft_W cy_187 := ft_mok_ok (gs := [[], [14], [], [], [], [], [], [], [], [8]]) (by decide +kernel)
theorem pm_187 : ct_G cm_187 := ct_G0 cw_187 ck_187 rfl
theorem ck_188 : ct_S cy_188 5 ct_188 := ft_tree_ok (gs := [[80], [25], [], [], [], [81, 0], [], [95, 1, 0, 0, 0, 0], [239], [1, 1, 0, 1, 0, 1, 0]]) (by decide +kernel)
theorem cw_188 : ai_mok ft_W cy_188 := ft_mok_ok (gs := [[], [14], [], [], [], [], [], [], [238]]) (by decide +kernel)
theorem pm_188 : ct_G cm_188 := ct_G0 cw_188 ck_188 rfl
theorem ck_189 : ct_S cy_189 1 ct_189 := ft_tree_ok (gs := [[], [], [], [], [], [], [], [100, 1, 0]]) (by decide +kernel)
theorem cw_189 : ai_mok ft_W cy_189 := ft_mok_ok (gs := [[], [14], [], [], [], [], [], [], [], [26]]) (by decide +kernel)
theorem pm_189 : ct_G cm_189 := ct_G0 cw_189 ck_189 rfl
theorem ck_190 : ct_S cy_190 1 ct_190 := ft_tree_ok (gs := [[], [], [], [], [], [], [], [97, 0, 3]]) (by decide +kernel)
theorem cw_190 : ai_mok ft_W cy_190 := ft_mok_ok (gs := [[], [14], [], [], [], [], [], [], [], [34]]) (by decide +kernel)
theorem pm_190 : ct_G cm_190 := ct_G0 cw_190 ck_190 rfl
theorem ck_191 : ct_S cy_191 3 ct_191 := ft_tree_ok (gs := [[], [], [], [], [], [], [], [93, 3, 2, 0, 0]]) (by decide +kernel)
theorem cw_191 : ai_mok ft_W cy_191 := ft_mok_ok (gs := [[], [14], [], [], [], [], [], [], [], [19]]) (by decide +kernel)
theorem pm_191 : ct_G cm_191 := ct_G0 cw_191 ck_191 rfl
theorem ck_192 : ct_S cy_192 1 ct_192 := ft_tree_ok (gs := [[79, 3, 1], [], [], [], [], [], [], [102], [235, 1], [23, 1, 5, 1]]) (by decide +kernel)
theorem cw_192 : ai_mok ft_W cy_192 := ft_mok_ok (gs := [[], [14], [], [], [], [], [], [], [], [71]]) (by decide +kernel)
theorem pm_192 : ct_G cm_192 := ct_G0 cw_192 ck_192 rfl
theorem ck_193 : ct_S cy_193 2 ct_193 := ft_tree_ok (gs := [[79, 3], [], [], [], [], [], [], [97, 1, 0, 0, 0], [235, 1], [23, 1]]) (by decide +kernel)
theorem cw_193 : ai_mok ft_W cy_193 := ft_mok_ok (gs := [[], [14], [], [], [], [], [], [], [], [59]]) (by decide +kernel)
theorem pm_193 : ct_G cm_193 := ct_G0 cw_193 ck_193 rfl
theorem ck_194 : ct_S cy_194 2 ct_194 := ft_tree_ok (gs := [[], [], [], [], [], [], [], [102, 2, 4]]) (by decide +kernel)
theorem cw_194 : ai_mok ft_W cy_194 := ft_mok_ok (gs := [[], [14], [], [], [], [], [], [], [], [63]]) (by decide +kernel)
theorem pm_194 : ct_G cm_194 := ct_G0 cw_194 ck_194 rfl
theorem ck_195 : ct_S cy_195 2 ct_195 := ft_tree_ok (gs := [[82], [], [], [], [], [], [], [68], [], [16, 1]]) (by decide +kernel)
theorem cw_195 : ai_mok ft_W cy_195 := ft_mok_ok (gs := [[], [14], [], [], [], [], [], [], [], [67]]) (by decide +kernel)
theorem pm_195 : ct_G cm_195 := ct_G0 cw_195 ck_195 rfl
theorem ck_196 : ct_S cy_196 3 ct_196 := ft_tree_ok (gs := [[79, 3, 0, 0, 5, 0, 0, 0], [], [], [], [], [], [], [97, 4], [235, 1], [23, 1, 1, 1, 1, 1, 22, 1, 1, 1, 1, 1, 1, 1]]) (by decide +kernel)
theorem cw_196 : ai_mok ft_W cy_196 := ft_mok_ok (gs := [[], [14], [], [], [], [], [], [], [], [55]]) (by decide +kernel)
