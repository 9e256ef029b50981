/-! WHAT THE TABLES SAY OF EACH METHOD (printed by gen3.py) 3 -/
theorem cw_65 : ai_mok ft_W cy_65 := ft_mok_ok (gs := [[], [4], [], [], [], [64]]) (by decide +kernel)
theorem pm_65 : ct_G cm_65 := ct_G0 cw_65 ck_65 rfl
theorem ck_66 : ct_S cy_66 3 ct_66 := ft_tree_ok (gs := [[31, 1], [56], [], [], [], [65, 1, 5, 1, 1, 0]]) (by decide +kernel)
theorem cw_66 : ai_mok ft_W cy_66 := ft_mok_ok (gs := [[], [4], [], [], [], [72]]) (by decide +kernel)
theorem pm_66 : ct_G cm_66 := ct_G0 cw_66 ck_66 rfl
theorem ck_67 : ct_S cy_67 3 ct_67 := ft_tree_ok (gs := []) (by decide +kernel)
theorem cw_67 : ai_mok ft_W cy_67 := ft_mok_ok (gs := [[], [4], [], [], [], [79]]) (by decide +kernel)
theorem pm_67 : ct_G cm_67 := ct_G0 cw_67 ck_67 rfl
theorem ck_68 : ct_S cy_68 2 ct_68 := ft_tree_ok (gs := [[], [57, 1]]) (by decide +kernel)
theorem cw_68 : ai_mok ft_W cy_68 := ft_mok_ok (gs := [[], [4], [], [], [], [76]]) (by decide +kernel)
theorem pm_68 : ct_G cm_68 := ct_G0 cw_68 ck_68 rfl
theorem ck_69 : ct_S cy_69 2 ct_69 := ft_tree_ok (gs := [[], [57, 1]]) (by decide +kernel)
theorem cw_69 : ai_mok ft_W cy_69 := ft_mok_ok (gs := [[], [4], [], [], [], [68]]) (by decide +kernel)
theorem pm_69 : ct_G cm_69 := ct_G0 cw_69 ck_69 rfl
theorem ck_70 : ct_S cy_70 2 ct_70 := ft_tree_ok (gs := [[], [32, 0, 37], [182, 0, 0, 0, 0, 0, 0]]) (by decide +kernel)
theorem cw_70 : ai_mok ft_W cy_70 := ft_mok_ok (gs := [[], [10], [181]]) (by decide +kernel)
theorem pm_70 : ct_G cm_70 := ct_G0 cw_70 ck_70 rfl
theorem ck_71 : ct_S cy_71 5 ct_71 := ft_tree_ok (gs := [[40, 0, 6, 0, 0, 0, 0], [25, 74, 1, 50, 20, 8], [127, 56, 1, 1, 0, 0, 0, 0], [], [34, 0, 2, 0], [81, 0, 1, 0, 33, 0, 17, 0, 56, 0, 0, 0, 0, 0, 0, 1, 3, 0, 0, 1, 26], [1, 1, 0, 0, 2, 1, 1, 1, 5, 1, 3, 1]]) (by decide +kernel)
theorem cw_71 : ai_mok ft_W cy_71 := ft_mok_ok (gs := [[], [10], [], [], [], [195]]) (by decide +kernel)
theorem pm_71 : ct_G cm_71 := ct_G0 cw_71 ck_71 rfl
theorem ck_72 : ct_S cy_72 3 ct_72 := ft_tree_ok (gs := [[], [], [185, 1, 1, 0], [], [], [44, 0, 79, 0, 79, 0, 0]]) (by decide +kernel)
theorem cw_72 : ai_mok ft_W cy_72 := ft_mok_ok (gs := [[], [10], [], [], [], [205]]) (by decide +kernel)
theorem pm_72 : ct_G cm_72 := ct_G0 cw_72 ck_72 rfl
theorem ck_73 : ct_S cy_73 3 ct_73 := ft_tree_ok (gs := [[42], [], [188, 0, 2], [], [], [208, 5, 1]]) (by decide +kernel)
theorem cw_73 : ai_mok ft_W cy_73 := ft_mok_ok (gs := [[], [10], [], [], [], [213]]) (by decide +kernel)
theorem pm_73 : ct_G cm_73 := ct_G0 cw_73 ck_73 rfl
theorem ck_74 : ct_S cy_74 2 ct_74 := ft_tree_ok (gs := [[], [], [187], [], [], [41, 166, 25]]) (by decide +kernel)
theorem cw_74 : ai_mok ft_W cy_74 := ft_mok_ok (gs := [[], [10], [], [], [], [233]]) (by decide +kernel)
theorem pm_74 : ct_G cm_74 := ct_G0 cw_74 ck_74 rfl
theorem ck_75 : ct_S cy_75 2 ct_75 := ft_tree_ok (gs := [[], [], [188], [], [], [208]]) (by decide +kernel)
theorem cw_75 : ai_mok ft_W cy_75 := ft_mok_ok (gs := [[], [10], [], [], [], [], [2]]) (by decide +kernel)
theorem pm_75 : ct_G cm_75 := ct_G0 cw_75 ck_75 rfl
theorem ck_76 : ct_S cy_76 0 ct_76 := ft_tree_ok (gs := [[], [25], [191], [], [], [81, 0, 113]]) (by decide +kernel)
theorem cw_76 : ai_mok ft_W cy_76 := ft_mok_ok (gs := [[], [10], [], [], [], [238]]) (by decide +kernel)
theorem pm_76 : ct_G cm_76 := ct_G0 cw_76 ck_76 rfl
theorem ck_77 : ct_S cy_77 4 ct_77 := ft_tree_ok (gs := [[43, 0, 1, 0, 0], [25], [189, 0, 2, 0], [], [], [81, 0, 113, 11, 9, 1, 1, 1, 5, 1, 2, 1, 1], [1]]) (by decide +kernel)
theorem cw_77 : ai_mok ft_W cy_77 := ft_mok_ok (gs := [[], [10], [], [], [], [217]]) (by decide +kernel)
