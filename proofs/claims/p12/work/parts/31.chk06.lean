/-! WHAT THE TABLES SAY OF EACH METHOD (printed by gen3.py) 6 -/
theorem cw_117 : ai_mok ft_W cy_117 := ft_mok_ok (gs := [[], [6], [], [], [93]]) (by decide +kernel)
theorem pm_117 : ct_G cm_117 := ct_G0 cw_117 ck_117 rfl
theorem ck_118 : ct_S cy_118 2 ct_118 := ft_tree_ok (gs := [[], [32, 0, 37], [], [72, 2, 1, 2, 0]]) (by decide +kernel)
theorem cw_118 : ai_mok ft_W cy_118 := ft_mok_ok (gs := [[], [13], [], [71]]) (by decide +kernel)
theorem pm_118 : ct_G cm_118 := ct_G0 cw_118 ck_118 rfl
theorem ck_119 : ct_S cy_119 3 ct_119 := ft_tree_ok (gs := [[65, 0], [153, 18], [], [77, 0, 0, 0, 0], [], [], [215, 0, 1, 1, 1]]) (by decide +kernel)
theorem cw_119 : ai_mok ft_W cy_119 := ft_mok_ok (gs := [[], [13], [], [], [], [], [214]]) (by decide +kernel)
theorem pm_119 : ct_G cm_119 := ct_G0 cw_119 ck_119 rfl
theorem ck_120 : ct_S cy_120 3 ct_120 := ft_tree_ok (gs := [[67], [], [], [79, 0, 0], [], [], [224, 1]]) (by decide +kernel)
theorem cw_120 : ai_mok ft_W cy_120 := ft_mok_ok (gs := [[], [13], [], [], [], [], [223]]) (by decide +kernel)
theorem pm_120 : ct_G cm_120 := ct_G0 cw_120 ck_120 rfl
theorem ck_121 : ct_S cy_121 4 ct_121 := ft_tree_ok (gs := [[], [], [], [73, 1, 5]]) (by decide +kernel)
theorem cw_121 : ai_mok ft_W cy_121 := ft_mok_ok (gs := [[], [13], [], [], [], [], [219]]) (by decide +kernel)
theorem pm_121 : ct_G cm_121 := ct_G0 cw_121 ck_121 rfl
theorem ck_122 : ct_S cy_122 4 ct_122 := ft_tree_ok (gs := [[68, 0, 0, 0], [73, 98, 12], [], [77, 0], [38, 0], [48, 0], [228, 1, 1, 0, 1, 2], [0, 1, 0, 1]]) (by decide +kernel)
theorem cw_122 : ai_mok ft_W cy_122 := ft_mok_ok (gs := [[], [13], [], [], [], [], [227]]) (by decide +kernel)
theorem pm_122 : ct_G cm_122 := ct_G0 cw_122 ck_122 rfl
theorem ck_123 : ct_S cy_123 2 ct_123 := ft_tree_ok (gs := [[], [178], [], [77], [], [], [], [7, 0, 0, 1, 0, 0]]) (by decide +kernel)
theorem cw_123 : ai_mok ft_W cy_123 := ft_mok_ok (gs := [[], [13], [], [], [], [], [], [6]]) (by decide +kernel)
theorem pm_123 : ct_G cm_123 := ct_G0 cw_123 ck_123 rfl
theorem ck_124 : ct_S cy_124 3 ct_124 := ft_tree_ok (gs := [[69, 0], [73, 30, 1], [], [77], [38, 0], [], [232, 0, 1, 2], [0]]) (by decide +kernel)
theorem cw_124 : ai_mok ft_W cy_124 := ft_mok_ok (gs := [[], [13], [], [], [], [], [231]]) (by decide +kernel)
theorem pm_124 : ct_G cm_124 := ct_G0 cw_124 ck_124 rfl
theorem ck_125 : ct_S cy_125 2 ct_125 := ft_tree_ok (gs := [[], [185], [], [77, 0], [38, 0], [153, 0], [232, 4]]) (by decide +kernel)
theorem cw_125 : ai_mok ft_W cy_125 := ft_mok_ok (gs := [[], [13], [], [], [], [], [236]]) (by decide +kernel)
theorem pm_125 : ct_G cm_125 := ct_G0 cw_125 ck_125 rfl
theorem ck_126 : ct_S cy_126 2 ct_126 := ft_tree_ok (gs := [[], [], [], [77, 0], [], [48, 0], [], [2]]) (by decide +kernel)
theorem cw_126 : ai_mok ft_W cy_126 := ft_mok_ok (gs := [[], [13], [], [], [], [], [], [1]]) (by decide +kernel)
theorem pm_126 : ct_G cm_126 := ct_G0 cw_126 ck_126 rfl
theorem ck_127 : ct_S cy_127 4 ct_127 := ft_tree_ok (gs := [[], [31, 0, 0, 0, 1, 0, 33, 167], [1, 0, 17, 1, 0, 40, 1, 0, 43, 1, 0, 62, 1, 0, 37, 1, 0], [13, 1, 0, 50, 1, 0, 26, 0, 0, 0, 0, 0, 0, 0, 0, 0, 0, 1]]) (by decide +kernel)
theorem cw_127 : ai_mok ft_W cy_127 := ft_mok_ok (gs := [[], [1, 28]]) (by decide +kernel)
theorem pm_127 : ct_G cm_127 := ct_G0 cw_127 ck_127 rfl
theorem ck_128 : ct_S cy_128 0 ct_128 := ft_tree_ok (gs := []) (by decide +kernel)
theorem cw_128 : ai_mok ft_W cy_128 := ft_mok_ok (gs := [[], [1], [], [159]]) (by decide +kernel)
theorem pm_128 : ct_G cm_128 := ct_G0 cw_128 ck_128 rfl
theorem ck_129 : ct_S cy_129 1 ct_129 := ft_tree_ok (gs := [[], [175], [], [98]]) (by decide +kernel)
theorem cw_129 : ai_mok ft_W cy_129 := ft_mok_ok (gs := [[], [1], [], [192]]) (by decide +kernel)
theorem pm_129 : ct_G cm_129 := ct_G0 cw_129 ck_129 rfl
theorem ck_130 : ct_S cy_130 1 ct_130 := ft_tree_ok (gs := [[], [184], [], [98]]) (by decide +kernel)
theorem cw_130 : ai_mok ft_W cy_130 := ft_mok_ok (gs := [[], [1], [], [], [97]]) (by decide +kernel)
theorem pm_130 : ct_G cm_130 := ct_G0 cw_130 ck_130 rfl
theorem ck_131 : ct_S cy_131 0 ct_131 := ft_tree_ok (gs := []) (by decide +kernel)
theorem cw_131 : ai_mok ft_W cy_131 := ft_mok_ok (gs := [[], [1], [], [], [], [42]]) (by decide +kernel)
theorem pm_131 : ct_G cm_131 := ct_G0 cw_131 ck_131 rfl
theorem ck_132 : ct_S cy_132 0 ct_132 := ft_tree_ok (gs := []) (by decide +kernel)
theorem cw_132 : ai_mok ft_W cy_132 := ft_mok_ok (gs := [[], [1], [], [], [28]]) (by decide +kernel)
theorem pm_132 : ct_G cm_132 := ct_G0 cw_132 ck_132 rfl
theorem ck_133 : ct_S cy_133 0 ct_133 := ft_tree_ok (gs := [[], [], [], [98, 46, 0, 0]]) (by decide +kernel)
theorem cw_133 : ai_mok ft_W cy_133 := ft_mok_ok (gs := [[], [1], [], [144]]) (by decide +kernel)
theorem pm_133 : ct_G cm_133 := ct_G0 cw_133 ck_133 rfl
theorem ck_134 : ct_S cy_134 3 ct_134 := ft_tree_ok (gs := [[7, 0], [15, 0, 0, 0, 1, 11, 0], [], [98, 59, 21, 3, 4, 1, 1, 0, 0, 0, 0, 0, 0, 0, 0, 0, 0, 0, 0, 0, 0, 0, 0, 0, 0, 0, 0, 0, 0, 0, 0, 0, 0, 0, 0, 0, 0, 0, 0, 0, 0, 0, 0, 0, 0, 0, 0, 0, 0, 0, 0, 0, 0], [0, 0, 0, 1, 0, 0, 0, 0, 0, 0, 0, 0, 0, 0, 0, 0, 0, 83, 4, 0, 0, 0, 0, 0, 0, 0, 0, 0, 0, 0, 0, 0, 0], [], [], [], [], [], [64, 13, 0, 0]]) (by decide +kernel)
theorem cw_134 : ai_mok ft_W cy_134 := ft_mok_ok (gs := [[], [1], [], [188]]) (by decide +kernel)
theorem pm_134 : ct_G cm_134 := ct_G0 cw_134 ck_134 rfl
theorem ck_135 : ct_S cy_135 4 ct_135 := ft_tree_ok (gs := [[7, 0], [15, 0, 0, 0, 1, 11, 0, 150], [], [98, 59, 21, 3, 4, 1, 1, 0, 0, 0, 0, 0, 0, 0, 0, 0, 0, 0, 0, 0, 0, 0, 0, 0, 0, 0, 0, 0, 0, 0, 0, 0, 0, 0, 0, 0, 0, 0, 0, 0, 0, 0, 0, 0, 0, 0, 0, 0, 0, 0, 0, 0, 0], [0, 0, 0, 1, 0, 0, 0, 0, 0, 0, 0, 0, 0, 0, 11, 0, 1, 0, 2, 0, 0, 1, 0, 0, 1, 0, 0, 1, 0, 0, 53, 4, 0, 0, 0, 0, 0, 0, 0, 0, 0, 0, 0, 0, 0, 0], [], [], [], [], [], [64, 13, 0, 0]]) (by decide +kernel)
theorem cw_135 : ai_mok ft_W cy_135 := ft_mok_ok (gs := [[], [1], [], [], [25]]) (by decide +kernel)
