/-! WHAT THE TABLES SAY OF EACH METHOD (printed by gen3.py) 4 -/
theorem cw_229 : ai_mok ft_W cy_229 := ft_mok_ok (gs := [138, 2068]) (by decide +kernel)
theorem pm_229 : ct_G cm_229 := ct_G0 cw_229 ck_229 rfl
theorem ck_230 : ct_S cy_230 4 ct_230 := ft_tree_ok (gs := [103, 1530, 1, 69, 0, 472, 1]) (by decide +kernel)
theorem cw_230 : ai_mok ft_W cy_230 := ft_mok_ok (gs := [138, 2088]) (by decide +kernel)
theorem pm_230 : ct_G cm_230 := ct_G0 cw_230 ck_230 rfl
theorem ck_232 : ct_S cy_232 2 ct_232 := ft_tree_ok (gs := [74, 3, 1554, 67, 289, 1, 33, 1, 96, 0]) (by decide +kernel)
theorem cw_232 : ai_mok ft_W cy_232 := ft_mok_ok (gs := [138, 2092]) (by decide +kernel)
theorem pm_232 : ct_G cm_232 := ct_G0 cw_232 ck_232 rfl
theorem ck_233 : ct_S cy_233 1 ct_233 := ft_tree_ok (gs := [73, 0, 1558, 350, 1, 4, 1]) (by decide +kernel)
theorem cw_233 : ai_mok ft_W cy_233 := ft_mok_ok (gs := [138, 2096]) (by decide +kernel)
theorem pm_233 : ct_G cm_233 := ct_G0 cw_233 ck_233 rfl
theorem ck_236 : ct_S cy_236 2 ct_236 := ft_tree_ok (gs := [74, 3, 1554, 67, 289, 1, 33, 1]) (by decide +kernel)
theorem cw_236 : ai_mok ft_W cy_236 := ft_mok_ok (gs := [138, 2100]) (by decide +kernel)
theorem pm_236 : ct_G cm_236 := ct_G0 cw_236 ck_236 rfl
theorem ck_237 : ct_S cy_237 1 ct_237 := ft_tree_ok (gs := []) (by decide +kernel)
theorem cw_237 : ai_mok ft_W cy_237 := ft_mok_ok (gs := [138, 2123]) (by decide +kernel)
theorem pm_237 : ct_G cm_237 := ct_G0 cw_237 ck_237 rfl
theorem ck_238 : ct_S cy_238 5 ct_238 := ft_tree_ok (gs := [103, 4, 1525, 1, 52, 22, 467, 1, 25, 1, 49, 0, 1]) (by decide +kernel)
theorem cw_238 : ai_mok ft_W cy_238 := ft_mok_ok (gs := [138, 2120]) (by decide +kernel)
theorem pm_238 : ct_G cm_238 := ct_G0 cw_238 ck_238 rfl
theorem ck_239 : ct_S cy_239 3 ct_239 := ft_tree_ok (gs := [1712, 547, 0]) (by decide +kernel)
theorem cw_239 : ai_mok ft_W cy_239 := ft_mok_ok (gs := [138, 2128]) (by decide +kernel)
theorem pm_239 : ct_G cm_239 := ct_G0 cw_239 ck_239 rfl
theorem ck_240 : ct_S cy_240 4 ct_240 := ft_tree_ok (gs := [74, 27, 13, 0, 1515, 78, 0, 0, 0, 1, 0, 272, 1, 132, 0, 48, 1, 77, 1, 1, 0, 2, 1]) (by decide +kernel)
theorem cw_240 : ai_mok ft_W cy_240 := ft_mok_ok (gs := [138, 2116]) (by decide +kernel)
theorem pm_240 : ct_G cm_240 := ct_G0 cw_240 ck_240 rfl
theorem ck_241 : ct_S cy_241 2 ct_241 := ft_tree_ok (gs := [74, 1558, 81, 272, 0, 1, 1]) (by decide +kernel)
theorem cw_241 : ai_mok ft_W cy_241 := ft_mok_ok (gs := [138, 2132]) (by decide +kernel)
theorem pm_241 : ct_G cm_241 := ct_G0 cw_241 ck_241 rfl
theorem ck_242 : ct_S cy_242 3 ct_242 := ft_tree_ok (gs := [101, 0, 0, 4, 9, 1514, 59, 294, 0, 136, 0, 44, 1, 1, 1, 1, 1, 25, 1, 65, 1]) (by decide +kernel)
theorem cw_242 : ai_mok ft_W cy_242 := ft_mok_ok (gs := [138, 2136]) (by decide +kernel)
theorem pm_242 : ct_G cm_242 := ct_G0 cw_242 ck_242 rfl
theorem ck_243 : ct_S cy_243 5 ct_243 := ft_tree_ok (gs := [118, 1514, 0, 1, 8, 73, 0, 0, 0, 0, 0, 0, 0, 0, 2, 0, 0, 255, 0, 136, 0, 148, 1, 5]) (by decide +kernel)
theorem cw_243 : ai_mok ft_W cy_243 := ft_mok_ok (gs := [138, 2144]) (by decide +kernel)
theorem pm_243 : ct_G cm_243 := ct_G0 cw_243 ck_243 rfl
theorem ck_244 : ct_S cy_244 1 ct_244 := ft_tree_ok (gs := [78, 39, 1514, 393, 1, 246, 1]) (by decide +kernel)
theorem cw_244 : ai_mok ft_W cy_244 := ft_mok_ok (gs := [138, 2149]) (by decide +kernel)
theorem pm_244 : ct_G cm_244 := ct_G0 cw_244 ck_244 rfl
theorem ck_247 : ct_S cy_247 0 ct_247 := ft_tree_ok (gs := [1633, 85]) (by decide +kernel)
theorem cw_247 : ai_mok ft_W cy_247 := ft_mok_ok (gs := [138, 2153]) (by decide +kernel)
theorem pm_247 : ct_G cm_247 := ct_G0 cw_247 ck_247 rfl
theorem ck_248 : ct_S cy_248 1 ct_248 := ft_tree_ok (gs := [74, 1558, 85, 271, 1]) (by decide +kernel)
theorem cw_248 : ai_mok ft_W cy_248 := ft_mok_ok (gs := [138, 2168]) (by decide +kernel)
theorem pm_248 : ct_G cm_248 := ct_G0 cw_248 ck_248 rfl
theorem ck_249 : ct_S cy_249 1 ct_249 := ft_tree_ok (gs := [78, 39, 1514, 393, 1, 246, 1]) (by decide +kernel)
theorem cw_249 : ai_mok ft_W cy_249 := ft_mok_ok (gs := [138, 2172]) (by decide +kernel)
theorem pm_249 : ct_G cm_249 := ct_G0 cw_249 ck_249 rfl
theorem ck_252 : ct_S cy_252 4 ct_252 := ft_tree_ok (gs := [1634, 0, 0]) (by decide +kernel)
theorem cw_252 : ai_mok ft_W cy_252 := ft_mok_ok (gs := [138, 2180]) (by decide +kernel)
theorem pm_252 : ct_G cm_252 := ct_G0 cw_252 ck_252 rfl
theorem ck_253 : ct_S cy_253 5 ct_253 := ft_tree_ok (gs := [74, 46, 1511, 0, 100, 1, 253, 1, 132, 0, 188, 1]) (by decide +kernel)
