/-! WHAT THE TABLES SAY OF EACH METHOD (printed by gen3.py) 1 -/
theorem cw_20 : ai_mok ft_W cy_20 := ft_mok_ok (gs := [[], [11], [], [], [], [], [72]]) (by decide +kernel)
theorem pm_20 : ct_G cm_20 := ct_G0 cw_20 ck_20 rfl
theorem ck_21 : ct_S cy_21 3 ct_21 := ft_tree_ok (gs := [[55], [], [230, 0], [], [], [44, 0, 79, 0], [73, 0, 6, 1]]) (by decide +kernel)
theorem cw_21 : ai_mok ft_W cy_21 := ft_mok_ok (gs := [[], [11], [], [], [], [], [80]]) (by decide +kernel)
theorem pm_21 : ct_G cm_21 := ct_G0 cw_21 ck_21 rfl
theorem ck_22 : ct_S cy_22 3 ct_22 := ft_tree_ok (gs := [[], [74, 7, 8, 95], [229, 2, 0], [], [27, 10, 0], [], [85, 0]]) (by decide +kernel)
theorem cw_22 : ai_mok ft_W cy_22 := ft_mok_ok (gs := [[], [11], [], [], [], [], [84]]) (by decide +kernel)
theorem pm_22 : ct_G cm_22 := ct_G0 cw_22 ck_22 rfl
theorem ck_23 : ct_S cy_23 3 ct_23 := ft_tree_ok (gs := [[57, 0], [], [227, 6], [], [], [], [91, 1, 6, 1]]) (by decide +kernel)
theorem cw_23 : ai_mok ft_W cy_23 := ft_mok_ok (gs := [[], [11], [], [], [], [], [90]]) (by decide +kernel)
theorem pm_23 : ct_G cm_23 := ct_G0 cw_23 ck_23 rfl
theorem ck_24 : ct_S cy_24 1 ct_24 := ft_tree_ok (gs := [[], [], [234]]) (by decide +kernel)
theorem cw_24 : ai_mok ft_W cy_24 := ft_mok_ok (gs := [[], [11], [], [], [], [], [103]]) (by decide +kernel)
theorem pm_24 : ct_G cm_24 := ct_G0 cw_24 ck_24 rfl
theorem ck_25 : ct_S cy_25 3 ct_25 := ft_tree_ok (gs := [[], [], [], [], [], [142, 1, 0], [95, 0, 0, 0]]) (by decide +kernel)
theorem cw_25 : ai_mok ft_W cy_25 := ft_mok_ok (gs := [[], [11], [], [], [], [], [94]]) (by decide +kernel)
theorem pm_25 : ct_G cm_25 := ct_G0 cw_25 ck_25 rfl
theorem ck_26 : ct_S cy_26 3 ct_26 := ft_tree_ok (gs := [[0], [32, 0, 5, 0, 1, 2, 0, 24, 72, 1, 45, 2, 1, 0, 0, 0, 0, 0, 0, 0, 0]]) (by decide +kernel)
theorem cw_26 : ai_mok ft_W cy_26 := ft_mok_ok (gs := [[], [2, 35]]) (by decide +kernel)
theorem pm_26 : ct_G cm_26 := ct_G0 cw_26 ck_26 rfl
theorem ck_27 : ct_S cy_27 1 ct_27 := ft_tree_ok (gs := [[0], [144, 1, 24]]) (by decide +kernel)
theorem cw_27 : ai_mok ft_W cy_27 := ft_mok_ok (gs := [[], [2], [], [148]]) (by decide +kernel)
theorem pm_27 : ct_G cm_27 := ct_G0 cw_27 ck_27 rfl
theorem ck_28 : ct_S cy_28 3 ct_28 := ft_tree_ok (gs := [[0], [144, 1, 30, 20, 0, 0, 0]]) (by decide +kernel)
theorem cw_28 : ai_mok ft_W cy_28 := ft_mok_ok (gs := [[], [2], [], [], [18]]) (by decide +kernel)
theorem pm_28 : ct_G cm_28 := ct_G0 cw_28 ck_28 rfl
theorem ck_29 : ct_S cy_29 1 ct_29 := ft_tree_ok (gs := [[], [197]]) (by decide +kernel)
theorem cw_29 : ai_mok ft_W cy_29 := ft_mok_ok (gs := [[], [2], [], [], [40]]) (by decide +kernel)
theorem pm_29 : ct_G cm_29 := ct_G0 cw_29 ck_29 rfl
theorem ck_30 : ct_S cy_30 1 ct_30 := ft_tree_ok (gs := [[], [195], [], [], [], [41, 9]]) (by decide +kernel)
theorem cw_30 : ai_mok ft_W cy_30 := ft_mok_ok (gs := [[], [2], [], [], [], [50]]) (by decide +kernel)
theorem pm_30 : ct_G cm_30 := ct_G0 cw_30 ck_30 rfl
theorem ck_31 : ct_S cy_31 2 ct_31 := ft_tree_ok (gs := [[], [78, 107, 10]]) (by decide +kernel)
theorem cw_31 : ai_mok ft_W cy_31 := ft_mok_ok (gs := [[], [2], [], [], [36]]) (by decide +kernel)
theorem pm_31 : ct_G cm_31 := ct_G0 cw_31 ck_31 rfl
theorem ck_32 : ct_S cy_32 1 ct_32 := ft_tree_ok (gs := [[], [87], [], [], [34, 0, 2, 0], [122, 0]]) (by decide +kernel)
theorem cw_32 : ai_mok ft_W cy_32 := ft_mok_ok (gs := [[], [2], [], [], [], [121]]) (by decide +kernel)
theorem pm_32 : ct_G cm_32 := ct_G0 cw_32 ck_32 rfl
theorem ck_33 : ct_S cy_33 1 ct_33 := ft_tree_ok (gs := [[], [198]]) (by decide +kernel)
theorem cw_33 : ai_mok ft_W cy_33 := ft_mok_ok (gs := [[], [2], [], [], [], [], [], [10]]) (by decide +kernel)
theorem pm_33 : ct_G cm_33 := ct_G0 cw_33 ck_33 rfl
theorem ck_34 : ct_S cy_34 1 ct_34 := ft_tree_ok (gs := [[], [199]]) (by decide +kernel)
theorem cw_34 : ai_mok ft_W cy_34 := ft_mok_ok (gs := [[], [2], [], [], [], [], [], [14]]) (by decide +kernel)
theorem pm_34 : ct_G cm_34 := ct_G0 cw_34 ck_34 rfl
theorem ck_35 : ct_S cy_35 1 ct_35 := ft_tree_ok (gs := [[], [202]]) (by decide +kernel)
theorem cw_35 : ai_mok ft_W cy_35 := ft_mok_ok (gs := [[], [2], [], [], [], [100]]) (by decide +kernel)
theorem pm_35 : ct_G cm_35 := ct_G0 cw_35 ck_35 rfl
theorem ck_36 : ct_S cy_36 2 ct_36 := ft_tree_ok (gs := [[], [203]]) (by decide +kernel)
theorem cw_36 : ai_mok ft_W cy_36 := ft_mok_ok (gs := [[], [2], [], [], [], [104]]) (by decide +kernel)
theorem pm_36 : ct_G cm_36 := ct_G0 cw_36 ck_36 rfl
theorem ck_37 : ct_S cy_37 2 ct_37 := ft_tree_ok (gs := [[], [25], [], [], [], [108, 0, 0]]) (by decide +kernel)
theorem cw_37 : ai_mok ft_W cy_37 := ft_mok_ok (gs := [[], [2], [], [], [], [107]]) (by decide +kernel)
theorem pm_37 : ct_G cm_37 := ct_G0 cw_37 ck_37 rfl
theorem ck_38 : ct_S cy_38 3 ct_38 := ft_tree_ok (gs := [[1, 1, 0], [148, 1, 8, 1, 1, 1, 11, 24, 1, 0]]) (by decide +kernel)
theorem cw_38 : ai_mok ft_W cy_38 := ft_mok_ok (gs := [[], [2, 144]]) (by decide +kernel)
theorem pm_38 : ct_G cm_38 := ct_G0 cw_38 ck_38 rfl
theorem ck_39 : ct_S cy_39 3 ct_39 := ft_tree_ok (gs := [[2], [152, 0, 1, 1, 13, 5, 20, 0, 0, 3]]) (by decide +kernel)
theorem cw_39 : ai_mok ft_W cy_39 := ft_mok_ok (gs := [[], [2, 148]]) (by decide +kernel)
theorem pm_39 : ct_G cm_39 := ct_G0 cw_39 ck_39 rfl
theorem ck_40 : ct_S cy_40 3 ct_40 := ft_tree_ok (gs := [[], [204]]) (by decide +kernel)
theorem cw_40 : ai_mok ft_W cy_40 := ft_mok_ok (gs := [[], [2, 155]]) (by decide +kernel)
theorem pm_40 : ct_G cm_40 := ct_G0 cw_40 ck_40 rfl
theorem ck_41 : ct_S cy_41 3 ct_41 := ft_tree_ok (gs := [[], [204, 0]]) (by decide +kernel)
theorem cw_41 : ai_mok ft_W cy_41 := ft_mok_ok (gs := [[], [2, 159]]) (by decide +kernel)
theorem pm_41 : ct_G cm_41 := ct_G0 cw_41 ck_41 rfl
theorem ck_42 : ct_S cy_42 3 ct_42 := ft_tree_ok (gs := [[5], [167, 1, 7, 20, 0, 0, 2]]) (by decide +kernel)
