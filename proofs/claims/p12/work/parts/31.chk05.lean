/-! WHAT THE TABLES SAY OF EACH METHOD (printed by gen3.py) 5 -/
theorem pm_92 : ct_G cm_92 := ct_G0 cw_92 ck_92 rfl
theorem ck_93 : ct_S cy_93 2 ct_93 := ft_tree_ok (gs := [[11, 8, 4, 3], [], [35, 4], [], [125, 1, 100, 1], [8, 1, 13, 1]]) (by decide +kernel)
theorem cw_93 : ai_mok ft_W cy_93 := ft_mok_ok (gs := [[], [7], [], [], [], [7]]) (by decide +kernel)
theorem pm_93 : ct_G cm_93 := ct_G0 cw_93 ck_93 rfl
theorem ck_94 : ct_S cy_94 3 ct_94 := ft_tree_ok (gs := [[11, 8, 5, 2], [], [35, 4], [], [125, 1, 100, 1], [12, 1, 9, 1]]) (by decide +kernel)
theorem cw_94 : ai_mok ft_W cy_94 := ft_mok_ok (gs := [[], [7], [], [], [], [11]]) (by decide +kernel)
theorem pm_94 : ct_G cm_94 := ct_G0 cw_94 ck_94 rfl
theorem ck_95 : ct_S cy_95 3 ct_95 := ft_tree_ok (gs := [[11, 8, 6, 1], [], [35, 4], [], [125, 1, 100, 1], [16, 1, 5, 1]]) (by decide +kernel)
theorem cw_95 : ai_mok ft_W cy_95 := ft_mok_ok (gs := [[], [7], [], [], [], [15]]) (by decide +kernel)
theorem pm_95 : ct_G cm_95 := ct_G0 cw_95 ck_95 rfl
theorem ck_96 : ct_S cy_96 3 ct_96 := ft_tree_ok (gs := [[11, 6, 0, 0, 7, 0], [], [35, 3, 0], [], [125, 1, 92, 1, 1, 1, 1, 1], [20, 1, 1, 1]]) (by decide +kernel)
theorem cw_96 : ai_mok ft_W cy_96 := ft_mok_ok (gs := [[], [7], [], [], [], [19]]) (by decide +kernel)
theorem pm_96 : ct_G cm_96 := ct_G0 cw_96 ck_96 rfl
theorem ck_97 : ct_S cy_97 1 ct_97 := ft_tree_ok (gs := [[11, 6, 1], [], [35], [], [125, 1, 92, 1, 5, 1]]) (by decide +kernel)
theorem cw_97 : ai_mok ft_W cy_97 := ft_mok_ok (gs := [[], [7], [], [], [], [23]]) (by decide +kernel)
theorem pm_97 : ct_G cm_97 := ct_G0 cw_97 ck_97 rfl
theorem ck_98 : ct_S cy_98 1 ct_98 := ft_tree_ok (gs := [[], [], [32, 2, 2]]) (by decide +kernel)
theorem cw_98 : ai_mok ft_W cy_98 := ft_mok_ok (gs := [[], [7], [], [], [223]]) (by decide +kernel)
theorem pm_98 : ct_G cm_98 := ct_G0 cw_98 ck_98 rfl
theorem ck_99 : ct_S cy_99 2 ct_99 := ft_tree_ok (gs := [[], [], [26, 1]]) (by decide +kernel)
theorem cw_99 : ai_mok ft_W cy_99 := ft_mok_ok (gs := [[], [7], [], [], [], [27]]) (by decide +kernel)
theorem pm_99 : ct_G cm_99 := ct_G0 cw_99 ck_99 rfl
theorem ck_100 : ct_S cy_100 1 ct_100 := ft_tree_ok (gs := [[], [], [39, 0]]) (by decide +kernel)
theorem cw_100 : ai_mok ft_W cy_100 := ft_mok_ok (gs := [[], [7], [], [], [231]]) (by decide +kernel)
theorem pm_100 : ct_G cm_100 := ct_G0 cw_100 ck_100 rfl
theorem ck_101 : ct_S cy_101 1 ct_101 := ft_tree_ok (gs := [[], [], [39, 0]]) (by decide +kernel)
theorem cw_101 : ai_mok ft_W cy_101 := ft_mok_ok (gs := [[], [7], [], [], [], [3]]) (by decide +kernel)
theorem pm_101 : ct_G cm_101 := ct_G0 cw_101 ck_101 rfl
theorem ck_102 : ct_S cy_102 1 ct_102 := ft_tree_ok (gs := [[], [], [34, 1]]) (by decide +kernel)
theorem cw_102 : ai_mok ft_W cy_102 := ft_mok_ok (gs := [[], [7], [], [], [132]]) (by decide +kernel)
theorem pm_102 : ct_G cm_102 := ct_G0 cw_102 ck_102 rfl
theorem ck_103 : ct_S cy_103 4 ct_103 := ft_tree_ok (gs := [[12, 0, 2], [], [37, 0, 0, 0], [], [129, 1, 1, 0, 1, 1, 67, 0, 1, 1, 1, 0]]) (by decide +kernel)
theorem cw_103 : ai_mok ft_W cy_103 := ft_mok_ok (gs := [[], [7], [], [], [128]]) (by decide +kernel)
theorem pm_103 : ct_G cm_103 := ct_G0 cw_103 ck_103 rfl
theorem ck_104 : ct_S cy_104 1 ct_104 := ft_tree_ok (gs := []) (by decide +kernel)
theorem cw_104 : ai_mok ft_W cy_104 := ft_mok_ok (gs := [[], [7], [], [], [135]]) (by decide +kernel)
theorem pm_104 : ct_G cm_104 := ct_G0 cw_104 ck_104 rfl
theorem ck_105 : ct_S cy_105 1 ct_105 := ft_tree_ok (gs := []) (by decide +kernel)
theorem cw_105 : ai_mok ft_W cy_105 := ft_mok_ok (gs := [[], [7], [], [], [208]]) (by decide +kernel)
theorem pm_105 : ct_G cm_105 := ct_G0 cw_105 ck_105 rfl
theorem ck_106 : ct_S cy_106 2 ct_106 := ft_tree_ok (gs := []) (by decide +kernel)
theorem cw_106 : ai_mok ft_W cy_106 := ft_mok_ok (gs := [[], [7], [], [], [215]]) (by decide +kernel)
theorem pm_106 : ct_G cm_106 := ct_G0 cw_106 ck_106 rfl
theorem ck_107 : ct_S cy_107 3 ct_107 := ft_tree_ok (gs := [[12], [], [37, 1, 0], [], [129, 1, 74, 0]]) (by decide +kernel)
theorem cw_107 : ai_mok ft_W cy_107 := ft_mok_ok (gs := [[], [7], [], [], [212]]) (by decide +kernel)
theorem pm_107 : ct_G cm_107 := ct_G0 cw_107 ck_107 rfl
theorem ck_108 : ct_S cy_108 2 ct_108 := ft_tree_ok (gs := [[12, 1], [], [37, 1, 0], [], [129, 1, 1, 0, 5, 1]]) (by decide +kernel)
theorem cw_108 : ai_mok ft_W cy_108 := ft_mok_ok (gs := [[], [7], [], [], [139]]) (by decide +kernel)
theorem pm_108 : ct_G cm_108 := ct_G0 cw_108 ck_108 rfl
theorem ck_109 : ct_S cy_109 3 ct_109 := ft_tree_ok (gs := [[15], [], [], [], [145, 1]]) (by decide +kernel)
theorem cw_109 : ai_mok ft_W cy_109 := ft_mok_ok (gs := [[], [7], [], [], [143]]) (by decide +kernel)
theorem pm_109 : ct_G cm_109 := ct_G0 cw_109 ck_109 rfl
theorem ck_110 : ct_S cy_110 3 ct_110 := ft_tree_ok (gs := [[], [], [34, 2, 0]]) (by decide +kernel)
theorem cw_110 : ai_mok ft_W cy_110 := ft_mok_ok (gs := [[], [7], [], [], [148]]) (by decide +kernel)
theorem pm_110 : ct_G cm_110 := ct_G0 cw_110 ck_110 rfl
theorem ck_111 : ct_S cy_111 2 ct_111 := ft_tree_ok (gs := [[], [32, 0, 37], [4, 0, 2, 0, 0]]) (by decide +kernel)
theorem cw_111 : ai_mok ft_W cy_111 := ft_mok_ok (gs := [[], [6], [3]]) (by decide +kernel)
theorem pm_111 : ct_G cm_111 := ct_G0 cw_111 ck_111 rfl
theorem ck_112 : ct_S cy_112 1 ct_112 := ft_tree_ok (gs := [[], [], [6]]) (by decide +kernel)
theorem cw_112 : ai_mok ft_W cy_112 := ft_mok_ok (gs := [[], [6], [], [], [59]]) (by decide +kernel)
theorem pm_112 : ct_G cm_112 := ct_G0 cw_112 ck_112 rfl
theorem ck_113 : ct_S cy_113 3 ct_113 := ft_tree_ok (gs := [[], [], [6, 2, 0], [157, 0]]) (by decide +kernel)
theorem cw_113 : ai_mok ft_W cy_113 := ft_mok_ok (gs := [[], [6], [], [156]]) (by decide +kernel)
theorem pm_113 : ct_G cm_113 := ct_G0 cw_113 ck_113 rfl
theorem ck_114 : ct_S cy_114 2 ct_114 := ft_tree_ok (gs := [[], [], [10], [], [57, 0, 5]]) (by decide +kernel)
theorem cw_114 : ai_mok ft_W cy_114 := ft_mok_ok (gs := [[], [6], [], [], [68]]) (by decide +kernel)
theorem pm_114 : ct_G cm_114 := ct_G0 cw_114 ck_114 rfl
theorem ck_115 : ct_S cy_115 2 ct_115 := ft_tree_ok (gs := [[9], [], [8, 0, 0], [], [57, 0, 5, 0, 1]]) (by decide +kernel)
theorem cw_115 : ai_mok ft_W cy_115 := ft_mok_ok (gs := [[], [6], [], [], [63]]) (by decide +kernel)
theorem pm_115 : ct_G cm_115 := ct_G0 cw_115 ck_115 rfl
theorem ck_116 : ct_S cy_116 3 ct_116 := ft_tree_ok (gs := [[9], [19], [8, 0, 0], [], [57, 0, 5, 0, 1, 12, 0, 0]]) (by decide +kernel)
theorem cw_116 : ai_mok ft_W cy_116 := ft_mok_ok (gs := [[], [6], [], [], [79]]) (by decide +kernel)
theorem pm_116 : ct_G cm_116 := ct_G0 cw_116 ck_116 rfl
theorem ck_117 : ct_S cy_117 3 ct_117 := ft_tree_ok (gs := [[9], [], [8, 1], [157, 0], [57, 0, 5, 0, 1]]) (by decide +kernel)
