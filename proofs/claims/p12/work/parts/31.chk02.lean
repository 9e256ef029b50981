/-! WHAT THE TABLES SAY OF EACH METHOD (printed by gen3.py) 2 -/
theorem cw_42 : ai_mok ft_W cy_42 := ft_mok_ok (gs := [[], [2, 163]]) (by decide +kernel)
theorem pm_42 : ct_G cm_42 := ct_G0 cw_42 ck_42 rfl
theorem ck_43 : ct_S cy_43 2 ct_43 := ft_tree_ok (gs := [[], [205]]) (by decide +kernel)
theorem cw_43 : ai_mok ft_W cy_43 := ft_mok_ok (gs := [[], [2, 167]]) (by decide +kernel)
theorem pm_43 : ct_G cm_43 := ct_G0 cw_43 ck_43 rfl
theorem ck_44 : ct_S cy_44 3 ct_44 := ft_tree_ok (gs := [[], [25, 151, 13, 9], [], [], [], [98, 0, 2, 0, 4, 0, 0, 60, 0]]) (by decide +kernel)
theorem cw_44 : ai_mok ft_W cy_44 := ft_mok_ok (gs := [[], [2], [], [], [], [170]]) (by decide +kernel)
theorem pm_44 : ct_G cm_44 := ct_G0 cw_44 ck_44 rfl
theorem ck_45 : ct_S cy_45 1 ct_45 := ft_tree_ok (gs := [[], [32, 0, 14, 0, 1, 0, 18, 36, 1]]) (by decide +kernel)
theorem cw_45 : ai_mok ft_W cy_45 := ft_mok_ok (gs := [[], [3, 43]]) (by decide +kernel)
theorem pm_45 : ct_G cm_45 := ct_G0 cw_45 ck_45 rfl
theorem ck_46 : ct_S cy_46 4 ct_46 := ft_tree_ok (gs := [[], [], [], [158], [32]]) (by decide +kernel)
theorem cw_46 : ai_mok ft_W cy_46 := ft_mok_ok (gs := [[], [3], [], [], [31]]) (by decide +kernel)
theorem pm_46 : ct_G cm_46 := ct_G0 cw_46 ck_46 rfl
theorem ck_47 : ct_S cy_47 1 ct_47 := ft_tree_ok (gs := [[], [72, 4, 3, 2, 5]]) (by decide +kernel)
theorem cw_47 : ai_mok ft_W cy_47 := ft_mok_ok (gs := [[], [3], [], [], [44]]) (by decide +kernel)
theorem pm_47 : ct_G cm_47 := ct_G0 cw_47 ck_47 rfl
theorem ck_48 : ct_S cy_48 2 ct_48 := ft_tree_ok (gs := [[], [77, 14, 1, 1, 1, 2, 1]]) (by decide +kernel)
theorem cw_48 : ai_mok ft_W cy_48 := ft_mok_ok (gs := [[], [3], [], [], [48]]) (by decide +kernel)
theorem pm_48 : ct_G cm_48 := ct_G0 cw_48 ck_48 rfl
theorem ck_49 : ct_S cy_49 1 ct_49 := ft_tree_ok (gs := [[], [77]]) (by decide +kernel)
theorem cw_49 : ai_mok ft_W cy_49 := ft_mok_ok (gs := [[], [3], [], [], [], [140]]) (by decide +kernel)
theorem pm_49 : ct_G cm_49 := ct_G0 cw_49 ck_49 rfl
theorem ck_50 : ct_S cy_50 2 ct_50 := ft_tree_ok (gs := [[], [25, 51, 6, 23], [], [], [], [41, 39, 0, 73, 0]]) (by decide +kernel)
theorem cw_50 : ai_mok ft_W cy_50 := ft_mok_ok (gs := [[], [3], [], [], [], [155]]) (by decide +kernel)
theorem pm_50 : ct_G cm_50 := ct_G0 cw_50 ck_50 rfl
theorem ck_51 : ct_S cy_51 2 ct_51 := ft_tree_ok (gs := [[], [32, 0, 37], [], [18, 10, 4, 0, 0, 0]]) (by decide +kernel)
theorem cw_51 : ai_mok ft_W cy_51 := ft_mok_ok (gs := [[], [12], [], [17]]) (by decide +kernel)
theorem pm_51 : ct_G cm_51 := ct_G0 cw_51 ck_51 rfl
theorem ck_52 : ct_S cy_52 4 ct_52 := ft_tree_ok (gs := [[59, 0], [173, 7], [], [19, 1, 1, 1, 1, 1, 0, 0, 0, 0, 0, 0, 0, 0, 120], [], [48, 0], [131, 0, 1, 1, 1, 2, 0]]) (by decide +kernel)
theorem cw_52 : ai_mok ft_W cy_52 := ft_mok_ok (gs := [[], [12], [], [], [], [], [130]]) (by decide +kernel)
theorem pm_52 : ct_G cm_52 := ct_G0 cw_52 ck_52 rfl
theorem ck_53 : ct_S cy_53 2 ct_53 := ft_tree_ok (gs := [[], [173], [], [29]]) (by decide +kernel)
theorem cw_53 : ai_mok ft_W cy_53 := ft_mok_ok (gs := [[], [12], [], [], [], [], [135]]) (by decide +kernel)
theorem pm_53 : ct_G cm_53 := ct_G0 cw_53 ck_53 rfl
theorem ck_54 : ct_S cy_54 2 ct_54 := ft_tree_ok (gs := [[], [86, 94], [], [29], [38, 0], [], [140]]) (by decide +kernel)
theorem cw_54 : ai_mok ft_W cy_54 := ft_mok_ok (gs := [[], [12], [], [], [], [], [139]]) (by decide +kernel)
theorem pm_54 : ct_G cm_54 := ct_G0 cw_54 ck_54 rfl
theorem ck_55 : ct_S cy_55 2 ct_55 := ft_tree_ok (gs := [[], [], [], [19, 5, 5, 5, 120], [], [], [131]]) (by decide +kernel)
theorem cw_55 : ai_mok ft_W cy_55 := ft_mok_ok (gs := [[], [12], [], [], [], [], [153]]) (by decide +kernel)
theorem pm_55 : ct_G cm_55 := ct_G0 cw_55 ck_55 rfl
theorem ck_56 : ct_S cy_56 2 ct_56 := ft_tree_ok (gs := [[61], [], [], [21, 1, 1], [], [], [165, 1]]) (by decide +kernel)
theorem cw_56 : ai_mok ft_W cy_56 := ft_mok_ok (gs := [[], [12], [], [], [], [], [164]]) (by decide +kernel)
theorem pm_56 : ct_G cm_56 := ct_G0 cw_56 ck_56 rfl
theorem ck_57 : ct_S cy_57 3 ct_57 := ft_tree_ok (gs := [[62, 0, 0], [25], [], [21, 1, 1, 10, 0], [], [81, 0], [141, 27, 0, 1, 1, 0, 1, 1, 0, 0, 1, 0, 1, 1]]) (by decide +kernel)
theorem cw_57 : ai_mok ft_W cy_57 := ft_mok_ok (gs := [[], [12], [], [], [], [], [168]]) (by decide +kernel)
theorem pm_57 : ct_G cm_57 := ct_G0 cw_57 ck_57 rfl
theorem ck_58 : ct_S cy_58 2 ct_58 := ft_tree_ok (gs := [[], [25, 60], [], [29, 1, 0, 3], [38, 0], [81, 0], [140, 33]]) (by decide +kernel)
theorem cw_58 : ai_mok ft_W cy_58 := ft_mok_ok (gs := [[], [12], [], [], [], [], [173]]) (by decide +kernel)
theorem pm_58 : ct_G cm_58 := ct_G0 cw_58 ck_58 rfl
theorem ck_59 : ct_S cy_59 2 ct_59 := ft_tree_ok (gs := [[], [], [], [27, 2, 2, 1]]) (by decide +kernel)
theorem cw_59 : ai_mok ft_W cy_59 := ft_mok_ok (gs := [[], [12], [], [], [], [], [187]]) (by decide +kernel)
theorem pm_59 : ct_G cm_59 := ct_G0 cw_59 ck_59 rfl
theorem ck_60 : ct_S cy_60 2 ct_60 := ft_tree_ok (gs := [[], [], [], [27, 6]]) (by decide +kernel)
theorem cw_60 : ai_mok ft_W cy_60 := ft_mok_ok (gs := [[], [12], [], [], [], [], [178]]) (by decide +kernel)
theorem pm_60 : ct_G cm_60 := ct_G0 cw_60 ck_60 rfl
theorem ck_61 : ct_S cy_61 1 ct_61 := ft_tree_ok (gs := [[], [], [], [36]]) (by decide +kernel)
theorem cw_61 : ai_mok ft_W cy_61 := ft_mok_ok (gs := [[], [12], [], [], [], [], [182]]) (by decide +kernel)
theorem pm_61 : ct_G cm_61 := ct_G0 cw_61 ck_61 rfl
theorem ck_62 : ct_S cy_62 1 ct_62 := ft_tree_ok (gs := [[], [32, 0, 20, 0, 0, 0, 13]]) (by decide +kernel)
theorem cw_62 : ai_mok ft_W cy_62 := ft_mok_ok (gs := [[], [4, 48]]) (by decide +kernel)
theorem pm_62 : ct_G cm_62 := ct_G0 cw_62 ck_62 rfl
theorem ck_63 : ct_S cy_63 2 ct_63 := ft_tree_ok (gs := [[], [55, 2]]) (by decide +kernel)
theorem cw_63 : ai_mok ft_W cy_63 := ft_mok_ok (gs := [[], [4], [], [], [], [31]]) (by decide +kernel)
theorem pm_63 : ct_G cm_63 := ct_G0 cw_63 ck_63 rfl
theorem ck_64 : ct_S cy_64 1 ct_64 := ft_tree_ok (gs := [[], [56]]) (by decide +kernel)
theorem cw_64 : ai_mok ft_W cy_64 := ft_mok_ok (gs := [[], [4], [], [], [], [60]]) (by decide +kernel)
theorem pm_64 : ct_G cm_64 := ct_G0 cw_64 ck_64 rfl
theorem ck_65 : ct_S cy_65 3 ct_65 := ft_tree_ok (gs := [[31, 0], [25, 29, 0, 1, 0], [], [], [], [65, 1, 1, 1, 8, 0, 0, 0, 0, 0]]) (by decide +kernel)
