/-! WHAT THE TABLES SAY OF EACH METHOD (printed by gen3.py) 4 -/
theorem pm_77 : ct_G cm_77 := ct_G0 cw_77 ck_77 rfl
theorem ck_78 : ct_S cy_78 2 ct_78 := ft_tree_ok (gs := [[], [95], [184], [], [38, 0], [200]]) (by decide +kernel)
theorem cw_78 : ai_mok ft_W cy_78 := ft_mok_ok (gs := [[], [10], [], [], [], [221]]) (by decide +kernel)
theorem pm_78 : ct_G cm_78 := ct_G0 cw_78 ck_78 rfl
theorem ck_79 : ct_S cy_79 2 ct_79 := ft_tree_ok (gs := [[45], [183], [184], [], [], [226, 1]]) (by decide +kernel)
theorem cw_79 : ai_mok ft_W cy_79 := ft_mok_ok (gs := [[], [10], [], [], [], [225]]) (by decide +kernel)
theorem pm_79 : ct_G cm_79 := ct_G0 cw_79 ck_79 rfl
theorem ck_80 : ct_S cy_80 2 ct_80 := ft_tree_ok (gs := [[], [97, 1], [184], [], [38, 0], [138, 0, 60, 0]]) (by decide +kernel)
theorem cw_80 : ai_mok ft_W cy_80 := ft_mok_ok (gs := [[], [10], [], [], [], [229]]) (by decide +kernel)
theorem pm_80 : ct_G cm_80 := ct_G0 cw_80 ck_80 rfl
theorem ck_81 : ct_S cy_81 3 ct_81 := ft_tree_ok (gs := [[42, 4], [], [119, 7, 2, 55, 6, 0], [], [], [214, 1, 18, 1]]) (by decide +kernel)
theorem cw_81 : ai_mok ft_W cy_81 := ft_mok_ok (gs := [[], [10], [], [], [], [], [11]]) (by decide +kernel)
theorem pm_81 : ct_G cm_81 := ct_G0 cw_81 ck_81 rfl
theorem ck_82 : ct_S cy_82 4 ct_82 := ft_tree_ok (gs := [[45], [183], [73, 53, 2, 1, 2, 11, 36, 0, 0], [], [], [44, 0, 79, 0, 79, 0, 18, 1], [16, 0, 0]]) (by decide +kernel)
theorem cw_82 : ai_mok ft_W cy_82 := ft_mok_ok (gs := [[], [10], [], [], [], [], [15]]) (by decide +kernel)
theorem pm_82 : ct_G cm_82 := ct_G0 cw_82 ck_82 rfl
theorem ck_83 : ct_S cy_83 3 ct_83 := ft_tree_ok (gs := [[], [174], [127, 2, 1, 5, 2, 42, 0, 0], [], [], [44, 0, 2, 0, 75, 0, 79, 0], [24, 0]]) (by decide +kernel)
theorem cw_83 : ai_mok ft_W cy_83 := ft_mok_ok (gs := [[], [10], [], [], [], [], [23]]) (by decide +kernel)
theorem pm_83 : ct_G cm_83 := ct_G0 cw_83 ck_83 rfl
theorem ck_84 : ct_S cy_84 4 ct_84 := ft_tree_ok (gs := [[], [25, 50, 97, 8, 9], [119, 4, 10, 5, 2, 2, 2, 33, 1], [], [38, 0], [84, 0, 111, 2], [30, 0, 0]]) (by decide +kernel)
theorem cw_84 : ai_mok ft_W cy_84 := ft_mok_ok (gs := [[], [10], [], [], [], [], [29]]) (by decide +kernel)
theorem pm_84 : ct_G cm_84 := ct_G0 cw_84 ck_84 rfl
theorem ck_85 : ct_S cy_85 1 ct_85 := ft_tree_ok (gs := [[], [32, 0, 37], [25, 0, 5, 1]]) (by decide +kernel)
theorem cw_85 : ai_mok ft_W cy_85 := ft_mok_ok (gs := [[], [7], [24]]) (by decide +kernel)
theorem pm_85 : ct_G cm_85 := ct_G0 cw_85 ck_85 rfl
theorem ck_86 : ct_S cy_86 2 ct_86 := ft_tree_ok (gs := [[6], [], [30], [168, 1]]) (by decide +kernel)
theorem cw_86 : ai_mok ft_W cy_86 := ft_mok_ok (gs := [[], [7], [], [167]]) (by decide +kernel)
theorem pm_86 : ct_G cm_86 := ct_G0 cw_86 ck_86 rfl
theorem ck_87 : ct_S cy_87 2 ct_87 := ft_tree_ok (gs := [[], [], [30, 3]]) (by decide +kernel)
theorem cw_87 : ai_mok ft_W cy_87 := ft_mok_ok (gs := [[], [7], [], [171]]) (by decide +kernel)
theorem pm_87 : ct_G cm_87 := ct_G0 cw_87 ck_87 rfl
theorem ck_88 : ct_S cy_88 3 ct_88 := ft_tree_ok (gs := [[11, 5], [], [28, 1, 1, 2, 0, 0, 1], [], [125, 1, 88, 1]]) (by decide +kernel)
theorem cw_88 : ai_mok ft_W cy_88 := ft_mok_ok (gs := [[], [7], [], [], [124]]) (by decide +kernel)
theorem pm_88 : ct_G cm_88 := ct_G0 cw_88 ck_88 rfl
theorem ck_89 : ct_S cy_89 3 ct_89 := ft_tree_ok (gs := [[11, 6, 0, 8, 0], [], [39, 0], [], [125, 1, 92, 1, 1, 1], [20, 1, 1, 1]]) (by decide +kernel)
theorem cw_89 : ai_mok ft_W cy_89 := ft_mok_ok (gs := [[], [7], [], [], [219]]) (by decide +kernel)
theorem pm_89 : ct_G cm_89 := ct_G0 cw_89 ck_89 rfl
theorem ck_90 : ct_S cy_90 3 ct_90 := ft_tree_ok (gs := [[11, 6, 1, 0, 1, 5], [], [35, 3], [], [125, 1, 92, 1, 5, 1, 1, 1], [0, 1, 21, 1]]) (by decide +kernel)
theorem cw_90 : ai_mok ft_W cy_90 := ft_mok_ok (gs := [[], [7], [], [], [227]]) (by decide +kernel)
theorem pm_90 : ct_G cm_90 := ct_G0 cw_90 ck_90 rfl
theorem ck_91 : ct_S cy_91 2 ct_91 := ft_tree_ok (gs := [[11, 10, 0, 5], [], [35], [], [125, 1, 108, 1], [0, 1, 21, 1]]) (by decide +kernel)
theorem cw_91 : ai_mok ft_W cy_91 := ft_mok_ok (gs := [[], [7], [], [], [235]]) (by decide +kernel)
theorem pm_91 : ct_G cm_91 := ct_G0 cw_91 ck_91 rfl
theorem ck_92 : ct_S cy_92 3 ct_92 := ft_tree_ok (gs := [[11, 6, 4, 0, 4], [], [35], [], [125, 1, 92, 1], [0, 1, 1, 1, 17, 1]]) (by decide +kernel)
theorem cw_92 : ai_mok ft_W cy_92 := ft_mok_ok (gs := [[], [7], [], [], [239]]) (by decide +kernel)
