/-! WHAT THE TABLES SAY OF EACH METHOD (printed by gen3.py) 9 -/
theorem cw_167 : ai_mok ft_W cy_167 := ft_mok_ok (gs := [[], [14], [], [], [], [], [], [59]]) (by decide +kernel)
theorem pm_167 : ct_G cm_167 := ct_G0 cw_167 ck_167 rfl
theorem ck_168 : ct_S cy_168 0 ct_168 := ft_tree_ok (gs := [[], [], [], [], [], [], [], [69]]) (by decide +kernel)
theorem cw_168 : ai_mok ft_W cy_168 := ft_mok_ok (gs := [[], [14], [], [], [], [], [], [], [190]]) (by decide +kernel)
theorem pm_168 : ct_G cm_168 := ct_G0 cw_168 ck_168 rfl
theorem ck_169 : ct_S cy_169 0 ct_169 := ft_tree_ok (gs := [[], [], [], [], [], [], [], [69]]) (by decide +kernel)
theorem cw_169 : ai_mok ft_W cy_169 := ft_mok_ok (gs := [[], [14], [], [], [], [], [], [], [], [235]]) (by decide +kernel)
theorem pm_169 : ct_G cm_169 := ct_G0 cw_169 ck_169 rfl
theorem ck_170 : ct_S cy_170 0 ct_170 := ft_tree_ok (gs := []) (by decide +kernel)
theorem cw_170 : ai_mok ft_W cy_170 := ft_mok_ok (gs := [[], [14], [], [], [], [], [], [], [186]]) (by decide +kernel)
theorem pm_170 : ct_G cm_170 := ct_G0 cw_170 ck_170 rfl
theorem ck_171 : ct_S cy_171 0 ct_171 := ft_tree_ok (gs := [[], [], [], [], [], [], [], [70], [184, 0]]) (by decide +kernel)
theorem cw_171 : ai_mok ft_W cy_171 := ft_mok_ok (gs := [[], [14], [], [], [], [], [], [], [183]]) (by decide +kernel)
theorem pm_171 : ct_G cm_171 := ct_G0 cw_171 ck_171 rfl
theorem ck_172 : ct_S cy_172 0 ct_172 := ft_tree_ok (gs := [[], [], [], [], [], [], [], [72], [184, 0]]) (by decide +kernel)
theorem cw_172 : ai_mok ft_W cy_172 := ft_mok_ok (gs := [[], [14], [], [], [], [], [], [], [226]]) (by decide +kernel)
theorem pm_172 : ct_G cm_172 := ct_G0 cw_172 ck_172 rfl
theorem ck_173 : ct_S cy_173 0 ct_173 := ft_tree_ok (gs := [[], [], [], [], [], [], [], [], [184, 0]]) (by decide +kernel)
theorem cw_173 : ai_mok ft_W cy_173 := ft_mok_ok (gs := [[], [14], [], [], [], [], [], [], [], [84]]) (by decide +kernel)
theorem pm_173 : ct_G cm_173 := ct_G0 cw_173 ck_173 rfl
theorem ck_174 : ct_S cy_174 1 ct_174 := ft_tree_ok (gs := [[], [], [], [], [], [], [], [69, 0]]) (by decide +kernel)
theorem cw_174 : ai_mok ft_W cy_174 := ft_mok_ok (gs := [[], [14], [], [], [], [], [], [], [175]]) (by decide +kernel)
theorem pm_174 : ct_G cm_174 := ct_G0 cw_174 ck_174 rfl
theorem ck_175 : ct_S cy_175 3 ct_175 := ft_tree_ok (gs := [[73, 0], [], [], [], [], [], [], [69, 1, 2, 0, 0, 0], [180, 1, 1, 0, 1, 1]]) (by decide +kernel)
theorem cw_175 : ai_mok ft_W cy_175 := ft_mok_ok (gs := [[], [14], [], [], [], [], [], [], [179]]) (by decide +kernel)
theorem pm_175 : ct_G cm_175 := ct_G0 cw_175 ck_175 rfl
theorem ck_176 : ct_S cy_176 4 ct_176 := ft_tree_ok (gs := [[], [], [], [], [], [], [], [72, 6], [184, 0]]) (by decide +kernel)
theorem cw_176 : ai_mok ft_W cy_176 := ft_mok_ok (gs := [[], [14], [], [], [], [], [], [], [198]]) (by decide +kernel)
theorem pm_176 : ct_G cm_176 := ct_G0 cw_176 ck_176 rfl
theorem ck_177 : ct_S cy_177 4 ct_177 := ft_tree_ok (gs := [[73, 0, 0], [], [], [], [], [], [], [69, 2, 5, 0, 0, 0, 0, 0, 0, 0, 0, 26], [180, 1, 1, 0, 1, 1, 5, 1]]) (by decide +kernel)
theorem cw_177 : ai_mok ft_W cy_177 := ft_mok_ok (gs := [[], [14], [], [], [], [], [], [], [194]]) (by decide +kernel)
theorem pm_177 : ct_G cm_177 := ct_G0 cw_177 ck_177 rfl
theorem ck_178 : ct_S cy_178 0 ct_178 := ft_tree_ok (gs := [[], [], [], [], [], [], [], [73], [184, 0]]) (by decide +kernel)
theorem cw_178 : ai_mok ft_W cy_178 := ft_mok_ok (gs := [[], [14], [], [], [], [], [], [], [210]]) (by decide +kernel)
theorem pm_178 : ct_G cm_178 := ct_G0 cw_178 ck_178 rfl
theorem ck_179 : ct_S cy_179 3 ct_179 := ft_tree_ok (gs := [[], [], [], [], [], [], [], [69, 3, 15, 0, 0], [184, 0]]) (by decide +kernel)
theorem cw_179 : ai_mok ft_W cy_179 := ft_mok_ok (gs := [[], [14], [], [], [], [], [], [], [202]]) (by decide +kernel)
theorem pm_179 : ct_G cm_179 := ct_G0 cw_179 ck_179 rfl
theorem ck_180 : ct_S cy_180 3 ct_180 := ft_tree_ok (gs := [[74, 1], [], [], [], [], [], [], [69, 19, 0, 0], [184, 0, 1, 1, 17, 1]]) (by decide +kernel)
theorem cw_180 : ai_mok ft_W cy_180 := ft_mok_ok (gs := [[], [14], [], [], [], [], [], [], [206]]) (by decide +kernel)
theorem pm_180 : ct_G cm_180 := ct_G0 cw_180 ck_180 rfl
theorem ck_181 : ct_S cy_181 2 ct_181 := ft_tree_ok (gs := [[], [], [], [], [], [], [], [90]]) (by decide +kernel)
theorem cw_181 : ai_mok ft_W cy_181 := ft_mok_ok (gs := [[], [14], [], [], [], [], [], [], [218]]) (by decide +kernel)
theorem pm_181 : ct_G cm_181 := ct_G0 cw_181 ck_181 rfl
theorem ck_182 : ct_S cy_182 4 ct_182 := ft_tree_ok (gs := [[74, 1, 0], [], [], [], [], [], [], [69, 19, 0, 0, 0], [187, 1, 17, 1, 5, 1]]) (by decide +kernel)
theorem cw_182 : ai_mok ft_W cy_182 := ft_mok_ok (gs := [[], [14], [], [], [], [], [], [], [214]]) (by decide +kernel)
