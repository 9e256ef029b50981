/-! WHAT THE TABLES SAY OF EACH METHOD (printed by gen3.py) 0 -/
theorem ck_0 : ct_S cy_0 3 ct_0 := ft_tree_ok (gs := [[], [32, 0, 37], [116, 0, 8, 2, 1, 2, 2, 2, 2, 2, 2]]) (by decide +kernel)
theorem cw_0 : ai_mok ft_W cy_0 := ft_mok_ok (gs := [[], [9], [115]]) (by decide +kernel)
theorem pm_0 : ct_G cm_0 := ct_G0 cw_0 ck_0 rfl
theorem ck_1 : ct_S cy_1 2 ct_1 := ft_tree_ok (gs := [[], [153], [118, 2, 1, 19, 2, 2], [], [], [], [7]]) (by decide +kernel)
theorem cw_1 : ai_mok ft_W cy_1 := ft_mok_ok (gs := [[], [9], [], [], [], [], [6]]) (by decide +kernel)
theorem pm_1 : ct_G cm_1 := ct_G0 cw_1 ck_1 rfl
theorem ck_2 : ct_S cy_2 2 ct_2 := ft_tree_ok (gs := [[], [], [137], [], [], [41], [34, 0]]) (by decide +kernel)
theorem cw_2 : ai_mok ft_W cy_2 := ft_mok_ok (gs := [[], [9], [], [], [], [], [33]]) (by decide +kernel)
theorem pm_2 : ct_G cm_2 := ct_G0 cw_2 ck_2 rfl
theorem ck_3 : ct_S cy_3 3 ct_3 := ft_tree_ok (gs := [[], [32, 0, 37], [69, 0, 0, 3, 3, 0, 0, 0, 0, 0, 0]]) (by decide +kernel)
theorem cw_3 : ai_mok ft_W cy_3 := ft_mok_ok (gs := [[], [8], [68]]) (by decide +kernel)
theorem pm_3 : ct_G cm_3 := ct_G0 cw_3 ck_3 rfl
theorem ck_4 : ct_S cy_4 3 ct_4 := ft_tree_ok (gs := [[30], [182], [75, 0, 0, 1, 0, 0], [], [], [47, 0, 0, 2, 1]]) (by decide +kernel)
theorem cw_4 : ai_mok ft_W cy_4 := ft_mok_ok (gs := [[], [8], [], [], [], [46]]) (by decide +kernel)
theorem pm_4 : ct_G cm_4 := ct_G0 cw_4 ck_4 rfl
theorem ck_5 : ct_S cy_5 3 ct_5 := ft_tree_ok (gs := [[], [85, 3, 21], [75, 0, 0, 2, 0], [], [38, 0], [56, 0, 0, 0, 1, 0, 0]]) (by decide +kernel)
theorem cw_5 : ai_mok ft_W cy_5 := ft_mok_ok (gs := [[], [8], [], [], [], [55]]) (by decide +kernel)
theorem pm_5 : ct_G cm_5 := ct_G0 cw_5 ck_5 rfl
theorem ck_6 : ct_S cy_6 2 ct_6 := ft_tree_ok (gs := [[], [], [80, 0]]) (by decide +kernel)
theorem cw_6 : ai_mok ft_W cy_6 := ft_mok_ok (gs := [[], [8], [], [], [], [89]]) (by decide +kernel)
theorem pm_6 : ct_G cm_6 := ct_G0 cw_6 ck_6 rfl
theorem ck_7 : ct_S cy_7 2 ct_7 := ft_tree_ok (gs := [[], [], [71, 8]]) (by decide +kernel)
theorem cw_7 : ai_mok ft_W cy_7 := ft_mok_ok (gs := [[], [8], [], [], [], [], [19]]) (by decide +kernel)
theorem pm_7 : ct_G cm_7 := ct_G0 cw_7 ck_7 rfl
theorem ck_8 : ct_S cy_8 2 ct_8 := ft_tree_ok (gs := [[34, 2], [], [75, 1, 0], [], [], [98, 0, 28, 0, 1, 27, 1]]) (by decide +kernel)
theorem cw_8 : ai_mok ft_W cy_8 := ft_mok_ok (gs := [[], [8], [], [], [], [127]]) (by decide +kernel)
theorem pm_8 : ct_G cm_8 := ct_G0 cw_8 ck_8 rfl
theorem ck_9 : ct_S cy_9 4 ct_9 := ft_tree_ok (gs := [[37, 0, 0], [19], [71, 6, 1, 1, 0, 0], [], [81, 0], [159, 1, 1, 1, 7, 0, 1]]) (by decide +kernel)
theorem cw_9 : ai_mok ft_W cy_9 := ft_mok_ok (gs := [[], [8], [], [], [], [162]]) (by decide +kernel)
theorem pm_9 : ct_G cm_9 := ct_G0 cw_9 ck_9 rfl
theorem ck_10 : ct_S cy_10 1 ct_10 := ft_tree_ok (gs := [[], [], [83]]) (by decide +kernel)
theorem cw_10 : ai_mok ft_W cy_10 := ft_mok_ok (gs := [[], [8], [], [], [], [177]]) (by decide +kernel)
theorem pm_10 : ct_G cm_10 := ct_G0 cw_10 ck_10 rfl
theorem ck_11 : ct_S cy_11 4 ct_11 := ft_tree_ok (gs := [[35, 0], [25, 57, 98], [75, 5, 0, 0], [], [38, 0], [56, 24, 0, 50, 1, 5, 0, 4, 1, 8]]) (by decide +kernel)
theorem cw_11 : ai_mok ft_W cy_11 := ft_mok_ok (gs := [[], [8], [], [], [], [132]]) (by decide +kernel)
theorem pm_11 : ct_G cm_11 := ct_G0 cw_11 ck_11 rfl
theorem ck_12 : ct_S cy_12 2 ct_12 := ft_tree_ok (gs := [[], [79, 13], [], [], [], [137, 0, 0]]) (by decide +kernel)
theorem cw_12 : ai_mok ft_W cy_12 := ft_mok_ok (gs := [[], [8], [], [], [], [136]]) (by decide +kernel)
theorem pm_12 : ct_G cm_12 := ct_G0 cw_12 ck_12 rfl
theorem ck_13 : ct_S cy_13 2 ct_13 := ft_tree_ok (gs := [[], [25, 53, 5, 7], [76], [], [], [81, 0, 1, 0, 51, 0, 0, 11, 0, 0, 0, 3]]) (by decide +kernel)
theorem cw_13 : ai_mok ft_W cy_13 := ft_mok_ok (gs := [[], [8], [], [], [], [150]]) (by decide +kernel)
theorem pm_13 : ct_G cm_13 := ct_G0 cw_13 ck_13 rfl
theorem ck_14 : ct_S cy_14 4 ct_14 := ft_tree_ok (gs := [[], [75, 103, 8], [75, 3, 4, 0], [], [38, 0], [56, 110, 0, 0]]) (by decide +kernel)
theorem cw_14 : ai_mok ft_W cy_14 := ft_mok_ok (gs := [[], [8], [], [], [], [166]]) (by decide +kernel)
theorem pm_14 : ct_G cm_14 := ct_G0 cw_14 ck_14 rfl
theorem ck_15 : ct_S cy_15 2 ct_15 := ft_tree_ok (gs := [[], [32, 0, 37], [223, 0, 4, 0, 0, 0, 0, 0], [12]]) (by decide +kernel)
theorem cw_15 : ai_mok ft_W cy_15 := ft_mok_ok (gs := [[], [11], [222]]) (by decide +kernel)
theorem pm_15 : ct_G cm_15 := ct_G0 cw_15 ck_15 rfl
theorem ck_16 : ct_S cy_16 1 ct_16 := ft_tree_ok (gs := []) (by decide +kernel)
theorem cw_16 : ai_mok ft_W cy_16 := ft_mok_ok (gs := [[], [11], [], [], [], [146]]) (by decide +kernel)
theorem pm_16 : ct_G cm_16 := ct_G0 cw_16 ck_16 rfl
theorem ck_17 : ct_S cy_17 0 ct_17 := ft_tree_ok (gs := [[], [], [], [], [], [144, 0]]) (by decide +kernel)
theorem cw_17 : ai_mok ft_W cy_17 := ft_mok_ok (gs := [[], [11], [], [], [], [143]]) (by decide +kernel)
theorem pm_17 : ct_G cm_17 := ct_G0 cw_17 ck_17 rfl
theorem ck_18 : ct_S cy_18 1 ct_18 := ft_tree_ok (gs := [[], [], [233], [], [27], [], [75, 10]]) (by decide +kernel)
theorem cw_18 : ai_mok ft_W cy_18 := ft_mok_ok (gs := [[], [11], [], [], [], [], [99]]) (by decide +kernel)
theorem pm_18 : ct_G cm_18 := ct_G0 cw_18 ck_18 rfl
theorem ck_19 : ct_S cy_19 2 ct_19 := ft_tree_ok (gs := [[53, 0, 1], [176], [225, 3], [], [], [], [69, 1, 5, 1, 7, 1]]) (by decide +kernel)
theorem cw_19 : ai_mok ft_W cy_19 := ft_mok_ok (gs := [[], [11], [], [], [], [], [68]]) (by decide +kernel)
theorem pm_19 : ct_G cm_19 := ct_G0 cw_19 ck_19 rfl
theorem ck_20 : ct_S cy_20 3 ct_20 := ft_tree_ok (gs := [[], [153], [72, 157, 0, 0, 0], [], [], [44, 0, 79, 0], [73, 0, 0, 0]]) (by decide +kernel)
