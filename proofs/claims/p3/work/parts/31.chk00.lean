/-! WHAT THE TABLES SAY OF EACH METHOD (printed by gen3.py) 0 -/
theorem ck_0 : ct_S cy_0 3 ct_0 := ft_tree_ok (gs := [156, 0, 37, 284, 0, 8, 2, 1, 2, 2, 2, 2, 2, 2]) (by decide +kernel)
theorem cw_0 : ai_mok ft_W cy_0 := ft_mok_ok (gs := [133, 345]) (by decide +kernel)
theorem pm_0 : ct_G cm_0 := ct_G0 cw_0 ck_0 rfl
theorem ck_1 : ct_S cy_1 2 ct_1 := ft_tree_ok (gs := [277, 204, 2, 1, 19, 2, 2, 817]) (by decide +kernel)
theorem cw_1 : ai_mok ft_W cy_1 := ft_mok_ok (gs := [133, 1196]) (by decide +kernel)
theorem pm_1 : ct_G cm_1 := ct_G0 cw_1 ck_1 rfl
theorem ck_2 : ct_S cy_2 2 ct_2 := ft_tree_ok (gs := [501, 623, 232, 0]) (by decide +kernel)
theorem cw_2 : ai_mok ft_W cy_2 := ft_mok_ok (gs := [133, 1223]) (by decide +kernel)
theorem pm_2 : ct_G cm_2 := ct_G0 cw_2 ck_2 rfl
theorem ck_3 : ct_S cy_3 3 ct_3 := ft_tree_ok (gs := [156, 0, 37, 237, 0, 0, 3, 3, 0, 0, 0, 0, 0, 0]) (by decide +kernel)
theorem cw_3 : ai_mok ft_W cy_3 := ft_mok_ok (gs := [132, 299]) (by decide +kernel)
theorem pm_3 : ct_G cm_3 := ct_G0 cw_3 ck_3 rfl
theorem ck_4 : ct_S cy_4 3 ct_4 := ft_tree_ok (gs := [30, 275, 132, 0, 0, 1, 0, 0, 685, 0, 0, 2, 1]) (by decide +kernel)
theorem cw_4 : ai_mok ft_W cy_4 := ft_mok_ok (gs := [132, 997]) (by decide +kernel)
theorem pm_4 : ct_G cm_4 := ct_G0 cw_4 ck_4 rfl
theorem ck_5 : ct_S cy_5 3 ct_5 := ft_tree_ok (gs := [209, 3, 21, 203, 0, 0, 2, 0, 436, 0, 256, 0, 0, 0, 1, 0, 0]) (by decide +kernel)
theorem cw_5 : ai_mok ft_W cy_5 := ft_mok_ok (gs := [132, 1006]) (by decide +kernel)
theorem pm_5 : ct_G cm_5 := ct_G0 cw_5 ck_5 rfl
theorem ck_6 : ct_S cy_6 2 ct_6 := ft_tree_ok (gs := [444, 0]) (by decide +kernel)
theorem cw_6 : ai_mok ft_W cy_6 := ft_mok_ok (gs := [132, 1040]) (by decide +kernel)
theorem pm_6 : ct_G cm_6 := ct_G0 cw_6 ck_6 rfl
theorem ck_7 : ct_S cy_7 2 ct_7 := ft_tree_ok (gs := [435, 8]) (by decide +kernel)
theorem cw_7 : ai_mok ft_W cy_7 := ft_mok_ok (gs := [132, 1210]) (by decide +kernel)
theorem pm_7 : ct_G cm_7 := ct_G0 cw_7 ck_7 rfl
theorem ck_8 : ct_S cy_8 2 ct_8 := ft_tree_ok (gs := [34, 2, 401, 1, 0, 739, 0, 28, 0, 1, 27, 1]) (by decide +kernel)
theorem cw_8 : ai_mok ft_W cy_8 := ft_mok_ok (gs := [132, 1078]) (by decide +kernel)
theorem pm_8 : ct_G cm_8 := ct_G0 cw_8 ck_8 rfl
theorem ck_9 : ct_S cy_9 4 ct_9 := ft_tree_ok (gs := [37, 0, 0, 103, 291, 6, 1, 1, 0, 0, 476, 0, 316, 1, 1, 1, 7, 0, 1]) (by decide +kernel)
theorem cw_9 : ai_mok ft_W cy_9 := ft_mok_ok (gs := [132, 1113]) (by decide +kernel)
theorem pm_9 : ct_G cm_9 := ct_G0 cw_9 ck_9 rfl
theorem ck_10 : ct_S cy_10 1 ct_10 := ft_tree_ok (gs := [447]) (by decide +kernel)
theorem cw_10 : ai_mok ft_W cy_10 := ft_mok_ok (gs := [132, 1128]) (by decide +kernel)
theorem pm_10 : ct_G cm_10 := ct_G0 cw_10 ck_10 rfl
theorem ck_11 : ct_S cy_11 4 ct_11 := ft_tree_ok (gs := [35, 0, 112, 57, 98, 132, 5, 0, 0, 434, 0, 256, 24, 0, 50, 1, 5, 0, 4, 1, 8]) (by decide +kernel)
theorem cw_11 : ai_mok ft_W cy_11 := ft_mok_ok (gs := [132, 1083]) (by decide +kernel)
theorem pm_11 : ct_G cm_11 := ct_G0 cw_11 ck_11 rfl
theorem ck_12 : ct_S cy_12 2 ct_12 := ft_tree_ok (gs := [203, 13, 1003, 0, 0]) (by decide +kernel)
theorem cw_12 : ai_mok ft_W cy_12 := ft_mok_ok (gs := [132, 1087]) (by decide +kernel)
theorem pm_12 : ct_G cm_12 := ct_G0 cw_12 ck_12 rfl
theorem ck_13 : ct_S cy_13 2 ct_13 := ft_tree_ok (gs := [149, 53, 5, 7, 222, 724, 0, 1, 0, 51, 0, 0, 11, 0, 0, 0, 3]) (by decide +kernel)
theorem cw_13 : ai_mok ft_W cy_13 := ft_mok_ok (gs := [132, 1101]) (by decide +kernel)
theorem pm_13 : ct_G cm_13 := ct_G0 cw_13 ck_13 rfl
theorem ck_14 : ct_S cy_14 4 ct_14 := ft_tree_ok (gs := [199, 103, 8, 126, 3, 4, 0, 432, 0, 256, 110, 0, 0]) (by decide +kernel)
theorem cw_14 : ai_mok ft_W cy_14 := ft_mok_ok (gs := [132, 1117]) (by decide +kernel)
theorem pm_14 : ct_G cm_14 := ct_G0 cw_14 ck_14 rfl
theorem ck_15 : ct_S cy_15 2 ct_15 := ft_tree_ok (gs := [156, 0, 37, 391, 0, 4, 0, 0, 0, 0, 0, 17]) (by decide +kernel)
theorem cw_15 : ai_mok ft_W cy_15 := ft_mok_ok (gs := [135, 450]) (by decide +kernel)
theorem pm_15 : ct_G cm_15 := ct_G0 cw_15 ck_15 rfl
theorem ck_16 : ct_S cy_16 1 ct_16 := ft_tree_ok (gs := []) (by decide +kernel)
theorem cw_16 : ai_mok ft_W cy_16 := ft_mok_ok (gs := [135, 1094]) (by decide +kernel)
theorem pm_16 : ct_G cm_16 := ct_G0 cw_16 ck_16 rfl
theorem ck_17 : ct_S cy_17 0 ct_17 := ft_tree_ok (gs := [1228, 0]) (by decide +kernel)
theorem cw_17 : ai_mok ft_W cy_17 := ft_mok_ok (gs := [135, 1091]) (by decide +kernel)
theorem pm_17 : ct_G cm_17 := ct_G0 cw_17 ck_17 rfl
theorem ck_18 : ct_S cy_18 1 ct_18 := ft_tree_ok (gs := [597, 273, 527, 10]) (by decide +kernel)
theorem cw_18 : ai_mok ft_W cy_18 := ft_mok_ok (gs := [135, 1287]) (by decide +kernel)
theorem pm_18 : ct_G cm_18 := ct_G0 cw_18 ck_18 rfl
theorem ck_19 : ct_S cy_19 2 ct_19 := ft_tree_ok (gs := [53, 0, 1, 243, 288, 3, 799, 1, 5, 1, 7, 1]) (by decide +kernel)
theorem cw_19 : ai_mok ft_W cy_19 := ft_mok_ok (gs := [135, 1256]) (by decide +kernel)
theorem pm_19 : ct_G cm_19 := ct_G0 cw_19 ck_19 rfl
theorem ck_20 : ct_S cy_20 3 ct_20 := ft_tree_ok (gs := [277, 158, 157, 0, 0, 0, 530, 0, 79, 0, 186, 0, 0, 0]) (by decide +kernel)
