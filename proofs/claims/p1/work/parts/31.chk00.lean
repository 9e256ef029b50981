/-! WHAT THE TABLES SAY OF EACH METHOD (printed by gen3.py) 0 -/
theorem ck_0 : ct_S cy_0 3 ct_0 := ft_tree_ok (gs := [156, 0, 37, 284, 0, 8, 2, 1, 2, 2, 2, 2, 2, 2]) (by decide +kernel)
theorem cw_0 : ai_mok ft_W cy_0 := ft_mok_ok (gs := [133, 345]) (by decide +kernel)
theorem pm_0 : ct_G cm_0 := ct_G0 cw_0 ck_0 rfl
theorem ck_1 : ct_S cy_1 2 ct_1 := ft_tree_ok (gs := [277, 204, 2, 1, 19, 2, 2, 817]) (by decide +kernel)
theorem cw_1 : ai_mok ft_W cy_1 := ft_mok_ok (gs := [133, 1196]) (by decide +kernel)
theorem pm_1 : ct_G cm_1 := ct_G0 cw_1 ck_1 rfl
theorem ck_3 : ct_S cy_3 3 ct_3 := ft_tree_ok (gs := [156, 0, 37, 237, 0, 0, 3, 3, 0, 0, 0, 0, 0, 0]) (by decide +kernel)
theorem cw_3 : ai_mok ft_W cy_3 := ft_mok_ok (gs := [132, 299]) (by decide +kernel)
theorem pm_3 : ct_G cm_3 := ct_G0 cw_3 ck_3 rfl
theorem ck_4 : ct_S cy_4 3 ct_4 := ft_tree_ok (gs := [306, 132, 0, 0, 1, 0, 0, 685, 0, 0]) (by decide +kernel)
theorem cw_4 : ai_mok ft_W cy_4 := ft_mok_ok (gs := [132, 997]) (by decide +kernel)
theorem pm_4 : ct_G cm_4 := ct_G0 cw_4 ck_4 rfl
theorem ck_8 : ct_S cy_8 2 ct_8 := ft_tree_ok (gs := [34, 2, 401, 1, 0, 739, 0, 28, 0, 1, 27, 1]) (by decide +kernel)
theorem cw_8 : ai_mok ft_W cy_8 := ft_mok_ok (gs := [132, 1078]) (by decide +kernel)
theorem pm_8 : ct_G cm_8 := ct_G0 cw_8 ck_8 rfl
theorem ck_9 : ct_S cy_9 4 ct_9 := ft_tree_ok (gs := [37, 0, 0, 103, 291, 6, 1, 1, 0, 0, 476, 0, 316, 1, 1, 1, 7, 0, 1]) (by decide +kernel)
theorem cw_9 : ai_mok ft_W cy_9 := ft_mok_ok (gs := [132, 1113]) (by decide +kernel)
theorem pm_9 : ct_G cm_9 := ct_G0 cw_9 ck_9 rfl
theorem ck_10 : ct_S cy_10 1 ct_10 := ft_tree_ok (gs := [447]) (by decide +kernel)
theorem cw_10 : ai_mok ft_W cy_10 := ft_mok_ok (gs := [132, 1128]) (by decide +kernel)
theorem pm_10 : ct_G cm_10 := ct_G0 cw_10 ck_10 rfl
theorem ck_11 : ct_S cy_11 4 ct_11 := ft_tree_ok (gs := [306, 132, 6, 0, 434, 0, 256]) (by decide +kernel)
theorem cw_11 : ai_mok ft_W cy_11 := ft_mok_ok (gs := [132, 1083]) (by decide +kernel)
theorem pm_11 : ct_G cm_11 := ct_G0 cw_11 ck_11 rfl
theorem ck_14 : ct_S cy_14 4 ct_14 := ft_tree_ok (gs := [199, 112, 126, 3, 4, 0, 432, 0, 256, 110, 0, 0]) (by decide +kernel)
theorem cw_14 : ai_mok ft_W cy_14 := ft_mok_ok (gs := [132, 1117]) (by decide +kernel)
theorem pm_14 : ct_G cm_14 := ct_G0 cw_14 ck_14 rfl
theorem ck_15 : ct_S cy_15 2 ct_15 := ft_tree_ok (gs := [156, 0, 37, 391, 0, 4, 0, 0, 0, 0, 0, 17]) (by decide +kernel)
theorem cw_15 : ai_mok ft_W cy_15 := ft_mok_ok (gs := [135, 450]) (by decide +kernel)
theorem pm_15 : ct_G cm_15 := ct_G0 cw_15 ck_15 rfl
theorem ck_16 : ct_S cy_16 1 ct_16 := ft_tree_ok (gs := []) (by decide +kernel)
theorem cw_16 : ai_mok ft_W cy_16 := ft_mok_ok (gs := [135, 1094]) (by decide +kernel)
theorem pm_16 : ct_G cm_16 := ct_G0 cw_16 ck_16 rfl
theorem ck_17 : ct_S cy_17 0 ct_17 := ft_tree_ok (gs := [1228, 0]) (by decide +kernel)
theorem cw_17 : ai_mok ft_W cy_17 := ft_mok_ok (gs := [135, 1091]) (by decide +kernel)
theorem pm_17 : ct_G cm_17 := ct_G0 cw_17 ck_17 rfl
theorem ck_18 : ct_S cy_18 1 ct_18 := ft_tree_ok (gs := [597, 273, 538]) (by decide +kernel)
theorem cw_18 : ai_mok ft_W cy_18 := ft_mok_ok (gs := [135, 1287]) (by decide +kernel)
theorem pm_18 : ct_G cm_18 := ct_G0 cw_18 ck_18 rfl
theorem ck_19 : ct_S cy_19 2 ct_19 := ft_tree_ok (gs := [53, 2, 243, 288, 3, 799, 1, 15, 1]) (by decide +kernel)
theorem cw_19 : ai_mok ft_W cy_19 := ft_mok_ok (gs := [135, 1256]) (by decide +kernel)
theorem pm_19 : ct_G cm_19 := ct_G0 cw_19 ck_19 rfl
theorem ck_20 : ct_S cy_20 3 ct_20 := ft_tree_ok (gs := [277, 158, 157, 0, 0, 0, 530, 0, 79, 0, 186, 0, 1]) (by decide +kernel)
theorem cw_20 : ai_mok ft_W cy_20 := ft_mok_ok (gs := [135, 1260]) (by decide +kernel)
theorem pm_20 : ct_G cm_20 := ct_G0 cw_20 ck_20 rfl
theorem ck_23 : ct_S cy_23 3 ct_23 := ft_tree_ok (gs := [57, 533, 6, 816, 1]) (by decide +kernel)
theorem cw_23 : ai_mok ft_W cy_23 := ft_mok_ok (gs := [135, 1278]) (by decide +kernel)
theorem pm_23 : ct_G cm_23 := ct_G0 cw_23 ck_23 rfl
theorem ck_25 : ct_S cy_25 3 ct_25 := ft_tree_ok (gs := [1226, 1, 0, 189, 0, 0, 0]) (by decide +kernel)
theorem cw_25 : ai_mok ft_W cy_25 := ft_mok_ok (gs := [135, 1282]) (by decide +kernel)
theorem pm_25 : ct_G cm_25 := ct_G0 cw_25 ck_25 rfl
theorem ck_26 : ct_S cy_26 3 ct_26 := ft_tree_ok (gs := [0, 155, 0, 5, 0, 1, 2, 0, 24, 72, 1, 45, 2, 1, 0, 0, 0, 0, 0, 0, 0, 0]) (by decide +kernel)
theorem cw_26 : ai_mok ft_W cy_26 := ft_mok_ok (gs := [126, 35]) (by decide +kernel)
theorem pm_26 : ct_G cm_26 := ct_G0 cw_26 ck_26 rfl
theorem ck_27 : ct_S cy_27 1 ct_27 := ft_tree_ok (gs := [0, 267, 1, 24]) (by decide +kernel)
theorem cw_27 : ai_mok ft_W cy_27 := ft_mok_ok (gs := [126, 625]) (by decide +kernel)
theorem pm_27 : ct_G cm_27 := ct_G0 cw_27 ck_27 rfl
theorem ck_29 : ct_S cy_29 1 ct_29 := ft_tree_ok (gs := [321]) (by decide +kernel)
theorem cw_29 : ai_mok ft_W cy_29 := ft_mok_ok (gs := [126, 757]) (by decide +kernel)
theorem pm_29 : ct_G cm_29 := ct_G0 cw_29 ck_29 rfl
theorem ck_30 : ct_S cy_30 1 ct_30 := ft_tree_ok (gs := [319, 805, 9]) (by decide +kernel)
theorem cw_30 : ai_mok ft_W cy_30 := ft_mok_ok (gs := [126, 1007]) (by decide +kernel)
theorem pm_30 : ct_G cm_30 := ct_G0 cw_30 ck_30 rfl
theorem ck_31 : ct_S cy_31 2 ct_31 := ft_tree_ok (gs := [310]) (by decide +kernel)
theorem cw_31 : ai_mok ft_W cy_31 := ft_mok_ok (gs := [126, 753]) (by decide +kernel)
theorem pm_31 : ct_G cm_31 := ct_G0 cw_31 ck_31 rfl
theorem ck_32 : ct_S cy_32 1 ct_32 := ft_tree_ok (gs := [878, 0, 326]) (by decide +kernel)
theorem cw_32 : ai_mok ft_W cy_32 := ft_mok_ok (gs := [126, 1078]) (by decide +kernel)
theorem pm_32 : ct_G cm_32 := ct_G0 cw_32 ck_32 rfl
theorem ck_35 : ct_S cy_35 1 ct_35 := ft_tree_ok (gs := [326]) (by decide +kernel)
theorem cw_35 : ai_mok ft_W cy_35 := ft_mok_ok (gs := [126, 1057]) (by decide +kernel)
theorem pm_35 : ct_G cm_35 := ct_G0 cw_35 ck_35 rfl
theorem ck_38 : ct_S cy_38 3 ct_38 := ft_tree_ok (gs := [1, 1, 0, 267, 1, 8, 1, 1, 1, 11, 24, 1, 0]) (by decide +kernel)
theorem cw_38 : ai_mok ft_W cy_38 := ft_mok_ok (gs := [126, 144]) (by decide +kernel)
theorem pm_38 : ct_G cm_38 := ct_G0 cw_38 ck_38 rfl
theorem ck_39 : ct_S cy_39 3 ct_39 := ft_tree_ok (gs := [276, 0, 17, 5, 26]) (by decide +kernel)
theorem cw_39 : ai_mok ft_W cy_39 := ft_mok_ok (gs := [126, 148]) (by decide +kernel)
theorem pm_39 : ct_G cm_39 := ct_G0 cw_39 ck_39 rfl
theorem ck_41 : ct_S cy_41 3 ct_41 := ft_tree_ok (gs := [328, 0]) (by decide +kernel)
theorem cw_41 : ai_mok ft_W cy_41 := ft_mok_ok (gs := [126, 159]) (by decide +kernel)
theorem pm_41 : ct_G cm_41 := ct_G0 cw_41 ck_41 rfl
theorem ck_42 : ct_S cy_42 3 ct_42 := ft_tree_ok (gs := [301]) (by decide +kernel)
theorem cw_42 : ai_mok ft_W cy_42 := ft_mok_ok (gs := [126, 163]) (by decide +kernel)
theorem pm_42 : ct_G cm_42 := ct_G0 cw_42 ck_42 rfl
theorem ck_44 : ct_S cy_44 3 ct_44 := ft_tree_ok (gs := [301, 880, 0, 71]) (by decide +kernel)
theorem cw_44 : ai_mok ft_W cy_44 := ft_mok_ok (gs := [126, 1127]) (by decide +kernel)
theorem pm_44 : ct_G cm_44 := ct_G0 cw_44 ck_44 rfl
theorem ck_45 : ct_S cy_45 1 ct_45 := ft_tree_ok (gs := [156, 0, 14, 0, 1, 0, 18, 36, 1]) (by decide +kernel)
theorem cw_45 : ai_mok ft_W cy_45 := ft_mok_ok (gs := [127, 43]) (by decide +kernel)
theorem pm_45 : ct_G cm_45 := ct_G0 cw_45 ck_45 rfl
theorem ck_51 : ct_S cy_51 2 ct_51 := ft_tree_ok (gs := [156, 0, 37, 426, 10, 4, 0, 0, 0]) (by decide +kernel)
theorem cw_51 : ai_mok ft_W cy_51 := ft_mok_ok (gs := [136, 484]) (by decide +kernel)
theorem pm_51 : ct_G cm_51 := ct_G0 cw_51 ck_51 rfl
theorem ck_52 : ct_S cy_52 4 ct_52 := ft_tree_ok (gs := [59, 0, 236, 7, 317, 1, 1, 1, 1, 1, 0, 0, 0, 0, 0, 0, 0, 0, 120, 369, 0, 321, 0, 1, 1, 1, 2, 0]) (by decide +kernel)
