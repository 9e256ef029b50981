/-! WHAT THE TABLES SAY OF EACH METHOD (printed by gen3.py) 1 -/
theorem cw_52 : ai_mok ft_W cy_52 := ft_mok_ok (gs := [136, 1317]) (by decide +kernel)
theorem pm_52 : ct_G cm_52 := ct_G0 cw_52 ck_52 rfl
theorem ck_53 : ct_S cy_53 2 ct_53 := ft_tree_ok (gs := [297, 335]) (by decide +kernel)
theorem cw_53 : ai_mok ft_W cy_53 := ft_mok_ok (gs := [136, 1322]) (by decide +kernel)
theorem pm_53 : ct_G cm_53 := ct_G0 cw_53 ck_53 rfl
theorem ck_54 : ct_S cy_54 2 ct_54 := ft_tree_ok (gs := [305, 327]) (by decide +kernel)
theorem cw_54 : ai_mok ft_W cy_54 := ft_mok_ok (gs := [136, 1326]) (by decide +kernel)
theorem pm_54 : ct_G cm_54 := ct_G0 cw_54 ck_54 rfl
theorem ck_62 : ct_S cy_62 1 ct_62 := ft_tree_ok (gs := [156, 0, 20, 0, 0, 0, 13]) (by decide +kernel)
theorem cw_62 : ai_mok ft_W cy_62 := ft_mok_ok (gs := [128, 48]) (by decide +kernel)
theorem pm_62 : ct_G cm_62 := ct_G0 cw_62 ck_62 rfl
theorem ck_70 : ct_S cy_70 2 ct_70 := ft_tree_ok (gs := [156, 0, 37, 350, 0, 0, 0, 0, 0, 0]) (by decide +kernel)
theorem cw_70 : ai_mok ft_W cy_70 := ft_mok_ok (gs := [134, 410]) (by decide +kernel)
theorem pm_70 : ct_G cm_70 := ct_G0 cw_70 ck_70 rfl
theorem ck_71 : ct_S cy_71 5 ct_71 := ft_tree_ok (gs := [40, 0, 6, 0, 0, 0, 0, 96, 127, 20, 8, 183, 56, 1, 1, 0, 0, 0, 0, 321, 0, 285, 0, 1, 0, 33, 0, 75, 0, 0, 0, 2, 1, 3, 0, 0, 1, 26, 1, 1, 0, 0, 2, 1, 1, 1, 5, 1, 3, 1]) (by decide +kernel)
theorem cw_71 : ai_mok ft_W cy_71 := ft_mok_ok (gs := [134, 1144]) (by decide +kernel)
theorem pm_71 : ct_G cm_71 := ct_G0 cw_71 ck_71 rfl
theorem ck_72 : ct_S cy_72 3 ct_72 := ft_tree_ok (gs := [549, 1, 1, 0, 573, 0, 79, 0, 79, 0, 0]) (by decide +kernel)
theorem cw_72 : ai_mok ft_W cy_72 := ft_mok_ok (gs := [134, 1154]) (by decide +kernel)
theorem pm_72 : ct_G cm_72 := ct_G0 cw_72 ck_72 rfl
theorem ck_73 : ct_S cy_73 3 ct_73 := ft_tree_ok (gs := [42, 509, 0, 2, 735, 5, 1]) (by decide +kernel)
theorem cw_73 : ai_mok ft_W cy_73 := ft_mok_ok (gs := [134, 1162]) (by decide +kernel)
theorem pm_73 : ct_G cm_73 := ct_G0 cw_73 ck_73 rfl
theorem ck_74 : ct_S cy_74 2 ct_74 := ft_tree_ok (gs := [551, 573, 192]) (by decide +kernel)
theorem cw_74 : ai_mok ft_W cy_74 := ft_mok_ok (gs := [134, 1182]) (by decide +kernel)
theorem pm_74 : ct_G cm_74 := ct_G0 cw_74 ck_74 rfl
theorem ck_75 : ct_S cy_75 2 ct_75 := ft_tree_ok (gs := [552]) (by decide +kernel)
theorem cw_75 : ai_mok ft_W cy_75 := ft_mok_ok (gs := [134, 1191]) (by decide +kernel)
theorem pm_75 : ct_G cm_75 := ct_G0 cw_75 ck_75 rfl
theorem ck_76 : ct_S cy_76 0 ct_76 := ft_tree_ok (gs := [149, 405, 609, 0, 113]) (by decide +kernel)
theorem cw_76 : ai_mok ft_W cy_76 := ft_mok_ok (gs := [134, 1187]) (by decide +kernel)
theorem pm_76 : ct_G cm_76 := ct_G0 cw_76 ck_76 rfl
theorem ck_77 : ct_S cy_77 4 ct_77 := ft_tree_ok (gs := [43, 0, 1, 0, 0, 100, 403, 0, 2, 0, 606, 0, 113, 11, 9, 1, 1, 1, 5, 1, 2, 1, 1, 1]) (by decide +kernel)
theorem cw_77 : ai_mok ft_W cy_77 := ft_mok_ok (gs := [134, 1166]) (by decide +kernel)
theorem pm_77 : ct_G cm_77 := ct_G0 cw_77 ck_77 rfl
theorem ck_78 : ct_S cy_78 2 ct_78 := ft_tree_ok (gs := []) (by decide +kernel)
theorem cw_78 : ai_mok ft_W cy_78 := ft_mok_ok (gs := [134, 1170]) (by decide +kernel)
theorem pm_78 : ct_G cm_78 := ct_G0 cw_78 ck_78 rfl
theorem ck_79 : ct_S cy_79 2 ct_79 := ft_tree_ok (gs := [307, 240]) (by decide +kernel)
theorem cw_79 : ai_mok ft_W cy_79 := ft_mok_ok (gs := [134, 1174]) (by decide +kernel)
theorem pm_79 : ct_G cm_79 := ct_G0 cw_79 ck_79 rfl
theorem ck_81 : ct_S cy_81 3 ct_81 := ft_tree_ok (gs := [42, 4, 435, 7, 2, 55, 6, 0, 739, 1, 18, 1]) (by decide +kernel)
theorem cw_81 : ai_mok ft_W cy_81 := ft_mok_ok (gs := [134, 1200]) (by decide +kernel)
theorem pm_81 : ct_G cm_81 := ct_G0 cw_81 ck_81 rfl
theorem ck_82 : ct_S cy_82 4 ct_82 := ft_tree_ok (gs := [307, 183, 2, 1, 2, 11, 36, 0, 0, 577, 0, 79, 0, 79, 0]) (by decide +kernel)
theorem cw_82 : ai_mok ft_W cy_82 := ft_mok_ok (gs := [134, 1204]) (by decide +kernel)
theorem pm_82 : ct_G cm_82 := ct_G0 cw_82 ck_82 rfl
theorem ck_83 : ct_S cy_83 3 ct_83 := ft_tree_ok (gs := [298, 203, 2, 42, 1, 581, 0, 214, 0]) (by decide +kernel)
theorem cw_83 : ai_mok ft_W cy_83 := ft_mok_ok (gs := [134, 1212]) (by decide +kernel)
theorem pm_83 : ct_G cm_83 := ct_G0 cw_83 ck_83 rfl
theorem ck_84 : ct_S cy_84 4 ct_84 := ft_tree_ok (gs := [149, 148, 8, 9, 165, 4, 19, 2, 2, 33, 1, 617, 0, 111]) (by decide +kernel)
theorem cw_84 : ai_mok ft_W cy_84 := ft_mok_ok (gs := [134, 1218]) (by decide +kernel)
theorem pm_84 : ct_G cm_84 := ct_G0 cw_84 ck_84 rfl
theorem ck_85 : ct_S cy_85 1 ct_85 := ft_tree_ok (gs := [156, 0, 37, 193, 0, 5, 1]) (by decide +kernel)
theorem cw_85 : ai_mok ft_W cy_85 := ft_mok_ok (gs := [131, 256]) (by decide +kernel)
theorem pm_85 : ct_G cm_85 := ct_G0 cw_85 ck_85 rfl
theorem ck_86 : ct_S cy_86 2 ct_86 := ft_tree_ok (gs := [6, 387, 377, 1]) (by decide +kernel)
theorem cw_86 : ai_mok ft_W cy_86 := ft_mok_ok (gs := [131, 639]) (by decide +kernel)
theorem pm_86 : ct_G cm_86 := ct_G0 cw_86 ck_86 rfl
theorem ck_87 : ct_S cy_87 2 ct_87 := ft_tree_ok (gs := [394, 3]) (by decide +kernel)
