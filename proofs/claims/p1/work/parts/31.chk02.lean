/-! WHAT THE TABLES SAY OF EACH METHOD (printed by gen3.py) 2 -/
theorem cw_87 : ai_mok ft_W cy_87 := ft_mok_ok (gs := [131, 643]) (by decide +kernel)
theorem pm_87 : ct_G cm_87 := ct_G0 cw_87 ck_87 rfl
theorem ck_111 : ct_S cy_111 2 ct_111 := ft_tree_ok (gs := [156, 0, 37, 172, 0, 2, 0, 0]) (by decide +kernel)
theorem cw_111 : ai_mok ft_W cy_111 := ft_mok_ok (gs := [130, 236]) (by decide +kernel)
theorem pm_111 : ct_G cm_111 := ct_G0 cw_111 ck_111 rfl
theorem ck_112 : ct_S cy_112 1 ct_112 := ft_tree_ok (gs := [370]) (by decide +kernel)
theorem cw_112 : ai_mok ft_W cy_112 := ft_mok_ok (gs := [130, 772]) (by decide +kernel)
theorem pm_112 : ct_G cm_112 := ct_G0 cw_112 ck_112 rfl
theorem ck_113 : ct_S cy_113 3 ct_113 := ft_tree_ok (gs := [370, 2, 0, 386, 0]) (by decide +kernel)
theorem cw_113 : ai_mok ft_W cy_113 := ft_mok_ok (gs := [130, 629]) (by decide +kernel)
theorem pm_113 : ct_G cm_113 := ct_G0 cw_113 ck_113 rfl
theorem ck_118 : ct_S cy_118 2 ct_118 := ft_tree_ok (gs := [156, 0, 37, 480, 2, 1, 2, 0]) (by decide +kernel)
theorem cw_118 : ai_mok ft_W cy_118 := ft_mok_ok (gs := [137, 537]) (by decide +kernel)
theorem pm_118 : ct_G cm_118 := ct_G0 cw_118 ck_118 rfl
theorem ck_119 : ct_S cy_119 3 ct_119 := ft_tree_ok (gs := [65, 211, 18, 384, 0, 0, 0, 0, 853, 0, 1]) (by decide +kernel)
theorem cw_119 : ai_mok ft_W cy_119 := ft_mok_ok (gs := [137, 1400]) (by decide +kernel)
theorem pm_119 : ct_G cm_119 := ct_G0 cw_119 ck_119 rfl
theorem ck_121 : ct_S cy_121 4 ct_121 := ft_tree_ok (gs := [677]) (by decide +kernel)
theorem cw_121 : ai_mok ft_W cy_121 := ft_mok_ok (gs := [137, 1405]) (by decide +kernel)
theorem pm_121 : ct_G cm_121 := ct_G0 cw_121 ck_121 rfl
theorem ck_127 : ct_S cy_127 4 ct_127 := ft_tree_ok (gs := [155, 0, 0, 0, 1, 0, 33, 167, 1, 0, 17, 1, 0, 40, 1, 0, 43, 1, 0, 62, 1, 0, 37, 1, 0, 31, 1, 0, 50, 1, 0, 26, 0, 0, 0, 0, 0, 0, 0, 0, 0, 0, 1]) (by decide +kernel)
theorem cw_127 : ai_mok ft_W cy_127 := ft_mok_ok (gs := [125, 28]) (by decide +kernel)
theorem pm_127 : ct_G cm_127 := ct_G0 cw_127 ck_127 rfl
theorem ck_128 : ct_S cy_128 0 ct_128 := ft_tree_ok (gs := []) (by decide +kernel)
theorem cw_128 : ai_mok ft_W cy_128 := ft_mok_ok (gs := [125, 637]) (by decide +kernel)
theorem pm_128 : ct_G cm_128 := ct_G0 cw_128 ck_128 rfl
theorem ck_129 : ct_S cy_129 1 ct_129 := ft_tree_ok (gs := [299, 402]) (by decide +kernel)
theorem cw_129 : ai_mok ft_W cy_129 := ft_mok_ok (gs := [125, 670]) (by decide +kernel)
theorem pm_129 : ct_G cm_129 := ct_G0 cw_129 ck_129 rfl
theorem ck_130 : ct_S cy_130 1 ct_130 := ft_tree_ok (gs := [308, 393]) (by decide +kernel)
theorem cw_130 : ai_mok ft_W cy_130 := ft_mok_ok (gs := [125, 815]) (by decide +kernel)
theorem pm_130 : ct_G cm_130 := ct_G0 cw_130 ck_130 rfl
theorem ck_131 : ct_S cy_131 0 ct_131 := ft_tree_ok (gs := []) (by decide +kernel)
theorem cw_131 : ai_mok ft_W cy_131 := ft_mok_ok (gs := [125, 1000]) (by decide +kernel)
theorem pm_131 : ct_G cm_131 := ct_G0 cw_131 ck_131 rfl
theorem ck_132 : ct_S cy_132 0 ct_132 := ft_tree_ok (gs := []) (by decide +kernel)
theorem cw_132 : ai_mok ft_W cy_132 := ft_mok_ok (gs := [125, 746]) (by decide +kernel)
theorem pm_132 : ct_G cm_132 := ct_G0 cw_132 ck_132 rfl
theorem ck_133 : ct_S cy_133 0 ct_133 := ft_tree_ok (gs := [702, 46, 0, 0]) (by decide +kernel)
theorem cw_133 : ai_mok ft_W cy_133 := ft_mok_ok (gs := [125, 622]) (by decide +kernel)
theorem pm_133 : ct_G cm_133 := ct_G0 cw_133 ck_133 rfl
theorem ck_134 : ct_S cy_134 1 ct_134 := ft_tree_ok (gs := [7, 0, 130, 0, 0, 0, 1, 11, 0, 630, 4, 1, 1, 0, 0, 0, 0, 0, 0, 0, 0, 0, 0, 0, 0, 0, 0, 0, 0, 0, 0, 0, 0, 0, 0, 0, 0, 0, 0, 0, 0, 0, 0, 0, 0, 0, 0, 0, 0, 0, 0, 0, 0, 0, 0, 0, 0, 0, 0, 0, 0, 0, 1, 0, 0, 0, 0, 0, 0, 0, 0, 0, 0, 86, 4, 0, 0, 0, 0, 0, 0, 0, 0, 0, 0, 0, 0, 0, 0, 1383, 13, 0, 0]) (by decide +kernel)
theorem cw_134 : ai_mok ft_W cy_134 := ft_mok_ok (gs := [125, 666]) (by decide +kernel)
theorem pm_134 : ct_G cm_134 := ct_G0 cw_134 ck_134 rfl
theorem ck_135 : ct_S cy_135 1 ct_135 := ft_tree_ok (gs := [7, 0, 130, 0, 0, 0, 1, 11, 0, 630, 4, 1, 1, 0, 0, 0, 0, 0, 0, 0, 0, 0, 0, 0, 0, 0, 0, 0, 0, 0, 0, 0, 0, 0, 0, 0, 0, 0, 0, 0, 0, 0, 0, 0, 0, 0, 0, 0, 0, 0, 0, 0, 0, 0, 0, 0, 0, 0, 0, 0, 0, 0, 1, 0, 0, 0, 0, 0, 0, 0, 0, 0, 0, 86, 4, 0, 0, 0, 0, 0, 0, 0, 0, 0, 0, 0, 0, 0, 0, 1383, 13, 0, 0]) (by decide +kernel)
theorem cw_135 : ai_mok ft_W cy_135 := ft_mok_ok (gs := [125, 743]) (by decide +kernel)
theorem pm_135 : ct_G cm_135 := ct_G0 cw_135 ck_135 rfl
theorem ck_136 : ct_S cy_136 0 ct_136 := ft_tree_ok (gs := [703, 53, 0, 0]) (by decide +kernel)
theorem cw_136 : ai_mok ft_W cy_136 := ft_mok_ok (gs := [125, 630]) (by decide +kernel)
theorem pm_136 : ct_G cm_136 := ct_G0 cw_136 ck_136 rfl
theorem ck_137 : ct_S cy_137 0 ct_137 := ft_tree_ok (gs := [8, 130, 0, 0, 0, 1, 11, 0, 545, 84, 8, 0, 0, 0, 0, 0, 0, 0, 0, 0, 0, 0, 0, 0, 0, 0, 0, 0, 0, 0, 0, 0, 0, 0, 0, 0, 0, 0, 0, 0, 0, 0, 0, 0, 0, 0, 0, 0, 0, 0, 0, 0, 0, 0, 0, 0, 0, 0, 0, 0, 1, 0, 0, 0, 0, 0, 0, 0, 0, 0, 0, 41, 0, 0, 42, 4, 0, 0, 0, 0, 0, 0, 0, 0, 0, 0, 0, 0, 0, 0, 1383, 13, 0, 0]) (by decide +kernel)
theorem cw_137 : ai_mok ft_W cy_137 := ft_mok_ok (gs := [125, 773]) (by decide +kernel)
theorem pm_137 : ct_G cm_137 := ct_G0 cw_137 ck_137 rfl
theorem ck_138 : ct_S cy_138 1 ct_138 := ft_tree_ok (gs := [8, 130, 0, 0, 0, 1, 11, 0, 545, 84, 8, 0, 0, 0, 0, 0, 0, 0, 0, 0, 0, 0, 0, 0, 0, 0, 0, 0, 0, 0, 0, 0, 0, 0, 0, 0, 0, 0, 0, 0, 0, 0, 0, 0, 0, 0, 0, 0, 0, 0, 0, 0, 0, 0, 0, 0, 0, 0, 0, 0, 1, 0, 0, 0, 0, 0, 0, 0, 0, 0, 0, 41, 0, 0, 42, 4, 0, 0, 0, 0, 0, 0, 0, 0, 0, 0, 0, 0, 0, 0, 1383, 13, 0, 0]) (by decide +kernel)
theorem cw_138 : ai_mok ft_W cy_138 := ft_mok_ok (gs := [125, 793]) (by decide +kernel)
theorem pm_138 : ct_G cm_138 := ct_G0 cw_138 ck_138 rfl
theorem ck_139 : ct_S cy_139 1 ct_139 := ft_tree_ok (gs := [8, 130, 0, 0, 0, 1, 11, 0, 545, 84, 8, 0, 0, 0, 0, 0, 0, 0, 0, 0, 0, 0, 0, 0, 0, 0, 0, 0, 0, 0, 0, 0, 0, 0, 0, 0, 0, 0, 0, 0, 0, 0, 0, 0, 0, 0, 0, 0, 0, 0, 0, 0, 0, 0, 0, 0, 0, 0, 0, 0, 1, 0, 0, 0, 0, 0, 0, 0, 0, 0, 0, 41, 0, 0, 42, 4, 0, 0, 0, 0, 0, 0, 0, 0, 0, 0, 0, 0, 0, 0, 1383, 13, 0, 0]) (by decide +kernel)
theorem cw_139 : ai_mok ft_W cy_139 := ft_mok_ok (gs := [125, 807]) (by decide +kernel)
theorem pm_139 : ct_G cm_139 := ct_G0 cw_139 ck_139 rfl
theorem ck_140 : ct_S cy_140 0 ct_140 := ft_tree_ok (gs := [704, 63, 0, 0]) (by decide +kernel)
theorem cw_140 : ai_mok ft_W cy_140 := ft_mok_ok (gs := [125, 641]) (by decide +kernel)
theorem pm_140 : ct_G cm_140 := ct_G0 cw_140 ck_140 rfl
theorem ck_141 : ct_S cy_141 0 ct_141 := ft_tree_ok (gs := [8, 1, 128, 0, 0, 0, 1, 11, 0, 630, 8, 0, 0, 0, 0, 0, 0, 0, 0, 0, 0, 0, 0, 0, 0, 0, 0, 0, 0, 0, 0, 0, 0, 0, 0, 0, 0, 0, 0, 0, 0, 0, 0, 0, 0, 0, 0, 0, 0, 0, 0, 0, 0, 0, 0, 0, 0, 0, 0, 0, 1, 0, 0, 0, 0, 0, 0, 0, 0, 0, 0, 79, 1, 4, 4, 0, 0, 0, 0, 0, 0, 0, 0, 0, 0, 0, 0, 0, 0, 1383, 13, 0, 0]) (by decide +kernel)
theorem cw_141 : ai_mok ft_W cy_141 := ft_mok_ok (gs := [125, 823]) (by decide +kernel)
theorem pm_141 : ct_G cm_141 := ct_G0 cw_141 ck_141 rfl
theorem ck_142 : ct_S cy_142 0 ct_142 := ft_tree_ok (gs := [397, 306]) (by decide +kernel)
theorem cw_142 : ai_mok ft_W cy_142 := ft_mok_ok (gs := [125, 653]) (by decide +kernel)
theorem pm_142 : ct_G cm_142 := ct_G0 cw_142 ck_142 rfl
theorem ck_143 : ct_S cy_143 0 ct_143 := ft_tree_ok (gs := [8, 1, 128, 0, 0, 0, 1, 11, 0, 630, 8, 0, 0, 0, 0, 0, 0, 0, 0, 0, 0, 0, 0, 0, 0, 0, 0, 0, 0, 0, 0, 0, 0, 0, 0, 0, 0, 0, 0, 0, 0, 0, 0, 0, 0, 0, 0, 0, 0, 0, 0, 0, 0, 0, 0, 0, 0, 0, 0, 0, 1, 0, 0, 0, 0, 0, 0, 0, 0, 0, 0, 79, 1, 4, 4, 0, 0, 0, 0, 0, 0, 0, 0, 0, 0, 0, 0, 0, 0, 1383, 13, 0, 0]) (by decide +kernel)
theorem cw_143 : ai_mok ft_W cy_143 := ft_mok_ok (gs := [125, 997]) (by decide +kernel)
theorem pm_143 : ct_G cm_143 := ct_G0 cw_143 ck_143 rfl
theorem ck_144 : ct_S cy_144 2 ct_144 := ft_tree_ok (gs := [313, 0, 3, 383, 59, 21]) (by decide +kernel)
theorem cw_144 : ai_mok ft_W cy_144 := ft_mok_ok (gs := [125, 657]) (by decide +kernel)
theorem pm_144 : ct_G cm_144 := ct_G0 cw_144 ck_144 rfl
theorem ck_145 : ct_S cy_145 1 ct_145 := ft_tree_ok (gs := [8, 130, 0, 0, 0, 1, 11, 0, 146, 397, 85, 8, 0, 0, 0, 0, 0, 0, 0, 0, 0, 0, 0, 0, 0, 0, 0, 0, 0, 0, 0, 0, 0, 0, 0, 0, 0, 0, 0, 0, 0, 0, 0, 0, 0, 0, 0, 0, 0, 0, 0, 0, 0, 0, 0, 0, 0, 0, 0, 0, 0, 1, 0, 0, 0, 0, 0, 0, 0, 0, 0, 0, 86, 4, 0, 0, 0, 0, 0, 0, 0, 0, 0, 0, 0, 0, 0, 0, 1383, 13, 0, 0]) (by decide +kernel)
theorem cw_145 : ai_mok ft_W cy_145 := ft_mok_ok (gs := [125, 1054]) (by decide +kernel)
theorem pm_145 : ct_G cm_145 := ct_G0 cw_145 ck_145 rfl
theorem ck_146 : ct_S cy_146 3 ct_146 := ft_tree_ok (gs := [8, 130, 0, 0, 0, 1, 11, 0, 150, 129, 263, 2, 5, 0, 75, 8, 0, 0, 0, 0, 0, 0, 0, 0, 0, 0, 0, 0, 0, 0, 0, 0, 0, 0, 0, 0, 0, 0, 0, 0, 0, 0, 0, 0, 0, 0, 0, 0, 0, 0, 0, 0, 0, 0, 0, 0, 0, 0, 0, 0, 0, 0, 0, 0, 0, 1, 0, 0, 0, 0, 0, 0, 0, 0, 0, 0, 86, 4, 0, 0, 0, 0, 0, 0, 0, 0, 0, 0, 0, 0, 0, 0, 159, 0, 1, 0, 0, 72, 0, 0, 3, 0, 0, 1137, 13, 0, 0]) (by decide +kernel)
theorem cw_146 : ai_mok ft_W cy_146 := ft_mok_ok (gs := [125, 1075]) (by decide +kernel)
theorem pm_146 : ct_G cm_146 := ct_G0 cw_146 ck_146 rfl
theorem ck_147 : ct_S cy_147 0 ct_147 := ft_tree_ok (gs := [8, 1, 128, 0, 0, 0, 1, 11, 0, 630, 8, 0, 0, 0, 0, 0, 0, 0, 0, 0, 0, 0, 0, 0, 0, 0, 0, 0, 0, 0, 0, 0, 0, 0, 0, 0, 0, 0, 0, 0, 0, 0, 0, 0, 0, 0, 0, 0, 0, 0, 0, 0, 0, 0, 0, 0, 0, 0, 0, 0, 1, 0, 0, 0, 0, 0, 0, 0, 0, 0, 0, 79, 1, 4, 4, 0, 0, 0, 0, 0, 0, 0, 0, 0, 0, 0, 0, 0, 0, 1383, 13, 0, 0]) (by decide +kernel)
theorem cw_147 : ai_mok ft_W cy_147 := ft_mok_ok (gs := [125, 1142]) (by decide +kernel)
theorem pm_147 : ct_G cm_147 := ct_G0 cw_147 ck_147 rfl
theorem ck_148 : ct_S cy_148 1 ct_148 := ft_tree_ok (gs := [8, 130, 0, 0, 0, 1, 11, 0, 549, 54, 21, 3, 8, 0, 0, 0, 0, 0, 0, 0, 0, 0, 0, 0, 0, 0, 0, 0, 0, 0, 0, 0, 0, 0, 0, 0, 0, 0, 0, 0, 0, 0, 0, 0, 0, 0, 0, 0, 0, 0, 0, 0, 0, 0, 0, 0, 0, 0, 0, 0, 0, 0, 1, 0, 0, 0, 0, 0, 0, 0, 0, 0, 0, 86, 4, 0, 0, 0, 0, 0, 0, 0, 0, 0, 0, 0, 0, 0, 0, 311, 0, 0, 1069, 13, 0, 0]) (by decide +kernel)
theorem cw_148 : ai_mok ft_W cy_148 := ft_mok_ok (gs := [125, 1149]) (by decide +kernel)
theorem pm_148 : ct_G cm_148 := ct_G0 cw_148 ck_148 rfl
theorem ck_149 : ct_S cy_149 2 ct_149 := ft_tree_ok (gs := [8, 1, 128, 0, 0, 0, 1, 11, 0, 326, 221, 81, 8, 0, 0, 0, 0, 0, 0, 0, 0, 0, 0, 0, 0, 0, 0, 0, 0, 0, 0, 0, 0, 0, 0, 0, 0, 0, 0, 0, 0, 0, 0, 0, 0, 0, 0, 0, 0, 0, 0, 0, 0, 0, 0, 0, 0, 0, 0, 0, 0, 0, 1, 0, 0, 0, 0, 0, 0, 0, 0, 0, 0, 79, 1, 4, 4, 0, 0, 0, 0, 0, 0, 0, 0, 0, 0, 0, 0, 0, 0, 159, 0, 1222, 13, 0, 0]) (by decide +kernel)
theorem cw_149 : ai_mok ft_W cy_149 := ft_mok_ok (gs := [125, 1240]) (by decide +kernel)
theorem pm_149 : ct_G cm_149 := ct_G0 cw_149 ck_149 rfl
theorem ck_150 : ct_S cy_150 0 ct_150 := ft_tree_ok (gs := [7, 0, 130, 0, 0, 0, 1, 11, 0, 630, 4, 1, 1, 0, 0, 0, 0, 0, 0, 0, 0, 0, 0, 0, 0, 0, 0, 0, 0, 0, 0, 0, 0, 0, 0, 0, 0, 0, 0, 0, 0, 0, 0, 0, 0, 0, 0, 0, 0, 0, 0, 0, 0, 0, 0, 0, 0, 0, 0, 0, 0, 0, 1, 0, 0, 0, 0, 0, 0, 0, 0, 0, 0, 86, 4, 0, 0, 0, 0, 0, 0, 0, 0, 0, 0, 0, 0, 0, 0, 1383, 13, 0, 0]) (by decide +kernel)
theorem cw_150 : ai_mok ft_W cy_150 := ft_mok_ok (gs := [125, 1247]) (by decide +kernel)
theorem pm_150 : ct_G cm_150 := ct_G0 cw_150 ck_150 rfl
theorem ck_151 : ct_S cy_151 2 ct_151 := ft_tree_ok (gs := [8, 1, 128, 0, 0, 0, 1, 11, 0, 331, 216, 81, 8, 0, 0, 0, 0, 0, 0, 0, 0, 0, 0, 0, 0, 0, 0, 0, 0, 0, 0, 0, 0, 0, 0, 0, 0, 0, 0, 0, 0, 0, 0, 0, 0, 0, 0, 0, 0, 0, 0, 0, 0, 0, 0, 0, 0, 0, 0, 0, 0, 0, 1, 0, 0, 0, 0, 0, 0, 0, 0, 0, 0, 79, 1, 4, 4, 0, 0, 0, 0, 0, 0, 0, 0, 0, 0, 0, 0, 0, 0, 1383, 13, 0, 0]) (by decide +kernel)
theorem cw_151 : ai_mok ft_W cy_151 := ft_mok_ok (gs := [125, 1255]) (by decide +kernel)
theorem pm_151 : ct_G cm_151 := ct_G0 cw_151 ck_151 rfl
theorem ck_152 : ct_S cy_152 1 ct_152 := ft_tree_ok (gs := [8, 130, 0, 0, 0, 1, 11, 0, 550, 79, 8, 0, 0, 0, 0, 0, 0, 0, 0, 0, 0, 0, 0, 0, 0, 0, 0, 0, 0, 0, 0, 0, 0, 0, 0, 0, 0, 0, 0, 0, 0, 0, 0, 0, 0, 0, 0, 0, 0, 0, 0, 0, 0, 0, 0, 0, 0, 0, 0, 0, 1, 0, 0, 0, 0, 0, 0, 0, 0, 0, 0, 86, 4, 0, 0, 0, 0, 0, 0, 0, 0, 0, 0, 0, 0, 0, 0, 159, 0, 263, 0, 0, 956, 13, 0, 0]) (by decide +kernel)
theorem cw_152 : ai_mok ft_W cy_152 := ft_mok_ok (gs := [125, 1262]) (by decide +kernel)
theorem pm_152 : ct_G cm_152 := ct_G0 cw_152 ck_152 rfl
theorem ck_153 : ct_S cy_153 1 ct_153 := ft_tree_ok (gs := [8, 130, 0, 0, 0, 1, 11, 0, 432, 117, 53, 21, 3, 8, 0, 0, 0, 0, 0, 0, 0, 0, 0, 0, 0, 0, 0, 0, 0, 0, 0, 0, 0, 0, 0, 0, 0, 0, 0, 0, 0, 0, 0, 0, 0, 0, 0, 0, 0, 0, 0, 0, 0, 0, 0, 0, 0, 0, 0, 0, 0, 0, 0, 1, 0, 0, 0, 0, 0, 0, 0, 0, 0, 0, 11, 0, 73, 4, 0, 0, 0, 0, 0, 0, 0, 0, 0, 0, 0, 0, 0, 0, 1383, 13, 0, 0]) (by decide +kernel)
theorem cw_153 : ai_mok ft_W cy_153 := ft_mok_ok (gs := [125, 1308]) (by decide +kernel)
theorem pm_153 : ct_G cm_153 := ct_G0 cw_153 ck_153 rfl
theorem ck_154 : ct_S cy_154 3 ct_154 := ft_tree_ok (gs := [8, 130, 0, 0, 0, 1, 11, 0, 544, 2, 82, 8, 0, 0, 0, 0, 0, 0, 0, 0, 0, 0, 0, 0, 0, 0, 0, 0, 0, 0, 0, 0, 0, 0, 0, 0, 0, 0, 0, 0, 0, 0, 0, 0, 0, 0, 0, 0, 0, 0, 0, 0, 0, 0, 0, 0, 0, 0, 0, 0, 0, 1, 0, 0, 0, 0, 0, 0, 0, 0, 0, 0, 11, 0, 73, 4, 0, 0, 0, 0, 0, 0, 0, 0, 0, 0, 0, 0, 0, 0, 159, 0, 1, 0, 0, 72, 0, 0, 3, 0, 0, 1137, 13, 0, 0]) (by decide +kernel)
theorem cw_154 : ai_mok ft_W cy_154 := ft_mok_ok (gs := [125, 1317]) (by decide +kernel)
theorem pm_154 : ct_G cm_154 := ct_G0 cw_154 ck_154 rfl
theorem ck_155 : ct_S cy_155 1 ct_155 := ft_tree_ok (gs := [8, 130, 0, 0, 0, 1, 11, 0, 551, 78, 8, 0, 0, 0, 0, 0, 0, 0, 0, 0, 0, 0, 0, 0, 0, 0, 0, 0, 0, 0, 0, 0, 0, 0, 0, 0, 0, 0, 0, 0, 0, 0, 0, 0, 0, 0, 0, 0, 0, 0, 0, 0, 0, 0, 0, 0, 0, 0, 0, 0, 1, 0, 0, 0, 0, 0, 0, 0, 0, 0, 0, 86, 4, 0, 0, 0, 0, 0, 0, 0, 0, 0, 0, 0, 0, 0, 0, 159, 0, 325, 0, 0, 894, 13, 0, 0]) (by decide +kernel)
theorem cw_155 : ai_mok ft_W cy_155 := ft_mok_ok (gs := [125, 1324]) (by decide +kernel)
theorem pm_155 : ct_G cm_155 := ct_G0 cw_155 ck_155 rfl
theorem ck_156 : ct_S cy_156 0 ct_156 := ft_tree_ok (gs := [8, 1, 128, 0, 0, 0, 1, 11, 0, 630, 8, 0, 0, 0, 0, 0, 0, 0, 0, 0, 0, 0, 0, 0, 0, 0, 0, 0, 0, 0, 0, 0, 0, 0, 0, 0, 0, 0, 0, 0, 0, 0, 0, 0, 0, 0, 0, 0, 0, 0, 0, 0, 0, 0, 0, 0, 0, 0, 0, 0, 1, 0, 0, 0, 0, 0, 0, 0, 0, 0, 0, 79, 1, 4, 4, 0, 0, 0, 0, 0, 0, 0, 0, 0, 0, 0, 0, 0, 0, 1383, 13, 0, 0]) (by decide +kernel)
theorem cw_156 : ai_mok ft_W cy_156 := ft_mok_ok (gs := [125, 1347]) (by decide +kernel)
theorem pm_156 : ct_G cm_156 := ct_G0 cw_156 ck_156 rfl
theorem ck_157 : ct_S cy_157 0 ct_157 := ft_tree_ok (gs := [624, 84]) (by decide +kernel)
theorem cw_157 : ai_mok ft_W cy_157 := ft_mok_ok (gs := [125, 1358]) (by decide +kernel)
theorem pm_157 : ct_G cm_157 := ct_G0 cw_157 ck_157 rfl
theorem ck_158 : ct_S cy_158 1 ct_158 := ft_tree_ok (gs := [8, 130, 0, 0, 0, 1, 11, 0, 466, 84, 78, 8, 0, 0, 0, 0, 0, 0, 0, 0, 0, 0, 0, 0, 0, 0, 0, 0, 0, 0, 0, 0, 0, 0, 0, 0, 0, 0, 0, 0, 0, 0, 0, 0, 0, 0, 0, 0, 0, 0, 0, 0, 0, 0, 0, 0, 0, 0, 0, 0, 0, 1, 0, 0, 0, 0, 0, 0, 0, 0, 0, 0, 86, 4, 0, 0, 0, 0, 0, 0, 0, 0, 0, 0, 0, 0, 0, 0, 1383, 13, 0, 0]) (by decide +kernel)
theorem cw_158 : ai_mok ft_W cy_158 := ft_mok_ok (gs := [125, 1393]) (by decide +kernel)
theorem pm_158 : ct_G cm_158 := ct_G0 cw_158 ck_158 rfl
theorem ck_159 : ct_S cy_159 0 ct_159 := ft_tree_ok (gs := [8, 1, 128, 0, 0, 0, 1, 11, 0, 630, 8, 0, 0, 0, 0, 0, 0, 0, 0, 0, 0, 0, 0, 0, 0, 0, 0, 0, 0, 0, 0, 0, 0, 0, 0, 0, 0, 0, 0, 0, 0, 0, 0, 0, 0, 0, 0, 0, 0, 0, 0, 0, 0, 0, 0, 0, 0, 0, 0, 0, 1, 0, 0, 0, 0, 0, 0, 0, 0, 0, 0, 79, 1, 4, 4, 0, 0, 0, 0, 0, 0, 0, 0, 0, 0, 0, 0, 0, 0, 1383, 13, 0, 0]) (by decide +kernel)
theorem cw_159 : ai_mok ft_W cy_159 := ft_mok_ok (gs := [125, 1401]) (by decide +kernel)
theorem pm_159 : ct_G cm_159 := ct_G0 cw_159 ck_159 rfl
theorem ck_160 : ct_S cy_160 1 ct_160 := ft_tree_ok (gs := [8, 130, 0, 0, 0, 1, 11, 0, 552, 77, 8, 0, 0, 0, 0, 0, 0, 0, 0, 0, 0, 0, 0, 0, 0, 0, 0, 0, 0, 0, 0, 0, 0, 0, 0, 0, 0, 0, 0, 0, 0, 0, 0, 0, 0, 0, 0, 0, 0, 0, 0, 0, 0, 0, 0, 0, 0, 0, 0, 0, 1, 0, 0, 0, 0, 0, 0, 0, 0, 0, 0, 86, 4, 0, 0, 0, 0, 0, 0, 0, 0, 0, 0, 0, 0, 0, 0, 159, 0, 409, 0, 0, 810, 13, 0, 0]) (by decide +kernel)
theorem cw_160 : ai_mok ft_W cy_160 := ft_mok_ok (gs := [125, 1408]) (by decide +kernel)
theorem pm_160 : ct_G cm_160 := ct_G0 cw_160 ck_160 rfl
theorem ck_161 : ct_S cy_161 0 ct_161 := ft_tree_ok (gs := [8, 130, 0, 0, 0, 1, 11, 0, 520, 31, 77, 8, 0, 0, 0, 0, 0, 0, 0, 0, 0, 0, 0, 0, 0, 0, 0, 0, 0, 0, 0, 0, 0, 0, 0, 0, 0, 0, 0, 0, 0, 0, 0, 0, 0, 0, 0, 0, 0, 0, 0, 0, 0, 0, 0, 0, 0, 0, 0, 0, 0, 1, 0, 0, 0, 0, 0, 0, 0, 0, 0, 0, 86, 4, 0, 0, 0, 0, 0, 0, 0, 0, 0, 0, 0, 0, 0, 0, 1383, 13, 0, 0]) (by decide +kernel)
theorem cw_161 : ai_mok ft_W cy_161 := ft_mok_ok (gs := [125, 1459]) (by decide +kernel)
theorem pm_161 : ct_G cm_161 := ct_G0 cw_161 ck_161 rfl
theorem ck_162 : ct_S cy_162 2 ct_162 := ft_tree_ok (gs := [8, 130, 0, 0, 0, 1, 11, 0, 557, 72, 8, 0, 0, 0, 0, 0, 0, 0, 0, 0, 0, 0, 0, 0, 0, 0, 0, 0, 0, 0, 0, 0, 0, 0, 0, 0, 0, 0, 0, 0, 0, 0, 0, 0, 0, 0, 0, 0, 0, 0, 0, 0, 0, 0, 0, 0, 0, 0, 0, 0, 1, 0, 0, 0, 0, 0, 0, 0, 0, 0, 0, 86, 4, 0, 0, 0, 0, 0, 0, 0, 0, 0, 0, 0, 0, 0, 0, 1383, 13, 0, 0]) (by decide +kernel)
theorem cw_162 : ai_mok ft_W cy_162 := ft_mok_ok (gs := [125, 1466]) (by decide +kernel)
theorem pm_162 : ct_G cm_162 := ct_G0 cw_162 ck_162 rfl
theorem ck_163 : ct_S cy_163 0 ct_163 := ft_tree_ok (gs := [7, 0, 130, 0, 0, 0, 1, 11, 0, 630, 4, 1, 1, 0, 0, 0, 0, 0, 0, 0, 0, 0, 0, 0, 0, 0, 0, 0, 0, 0, 0, 0, 0, 0, 0, 0, 0, 0, 0, 0, 0, 0, 0, 0, 0, 0, 0, 0, 0, 0, 0, 0, 0, 0, 0, 0, 0, 0, 0, 0, 0, 0, 1, 0, 0, 0, 0, 0, 0, 0, 0, 0, 0, 86, 4, 0, 0, 0, 0, 0, 0, 0, 0, 0, 0, 0, 0, 0, 0, 1383, 13, 0, 0]) (by decide +kernel)
theorem cw_163 : ai_mok ft_W cy_163 := ft_mok_ok (gs := [125, 1473]) (by decide +kernel)
theorem pm_163 : ct_G cm_163 := ct_G0 cw_163 ck_163 rfl
theorem ck_164 : ct_S cy_164 0 ct_164 := ft_tree_ok (gs := [7, 0, 130, 0, 0, 0, 1, 11, 0, 630, 4, 1, 1, 0, 0, 0, 0, 0, 0, 0, 0, 0, 0, 0, 0, 0, 0, 0, 0, 0, 0, 0, 0, 0, 0, 0, 0, 0, 0, 0, 0, 0, 0, 0, 0, 0, 0, 0, 0, 0, 0, 0, 0, 0, 0, 0, 0, 0, 0, 0, 0, 0, 1, 0, 0, 0, 0, 0, 0, 0, 0, 0, 0, 86, 4, 0, 0, 0, 0, 0, 0, 0, 0, 0, 0, 0, 0, 0, 0, 1383, 13, 0, 0]) (by decide +kernel)
theorem cw_164 : ai_mok ft_W cy_164 := ft_mok_ok (gs := [125, 1480]) (by decide +kernel)
theorem pm_164 : ct_G cm_164 := ct_G0 cw_164 ck_164 rfl
theorem ck_166 : ct_S cy_166 3 ct_166 := ft_tree_ok (gs := [8, 130, 0, 0, 0, 1, 11, 0, 141, 4, 3, 62, 23, 88, 217, 0, 0, 1, 7, 0, 72, 8, 0, 0, 0, 0, 0, 0, 0, 0, 0, 0, 0, 0, 0, 0, 0, 0, 0, 0, 0, 0, 0, 0, 0, 0, 0, 0, 0, 0, 0, 0, 0, 0, 0, 0, 0, 0, 0, 0, 0, 0, 0, 0, 0, 0, 0, 0, 0, 0, 0, 1, 0, 0, 0, 0, 0, 0, 0, 0, 0, 0, 86, 4, 0, 0, 0, 0, 0, 0, 0, 0, 0, 0, 0, 0, 0, 0, 1383, 13, 0, 0]) (by decide +kernel)
theorem cw_166 : ai_mok ft_W cy_166 := ft_mok_ok (gs := [125, 1492]) (by decide +kernel)
theorem pm_166 : ct_G cm_166 := ct_G0 cw_166 ck_166 rfl
theorem ck_167 : ct_S cy_167 6 ct_167 := ft_tree_ok (gs := [156, 0, 37, 420, 1007, 0, 6, 5, 0, 0, 0, 0, 0, 0, 0, 0, 0, 0, 0, 0, 0, 0, 0, 0, 0, 0, 0, 10, 1, 0, 0, 0, 0, 0, 0, 0, 2, 0, 0, 0, 0, 0, 0, 0, 0, 0, 0, 2, 2, 0, 0, 0, 0, 4, 0, 0, 0, 0, 0, 0, 0, 0, 0, 1, 0, 0, 7, 0, 0, 0, 0, 2, 0, 0, 0, 0, 2, 0, 0, 0, 227]) (by decide +kernel)
