/-! WHAT THE TABLES SAY OF EACH METHOD (printed by gen3.py) 1 -/
theorem cw_20 : ai_mok ft_W cy_20 := ft_mok_ok (gs := [135, 1260]) (by decide +kernel)
theorem pm_20 : ct_G cm_20 := ct_G0 cw_20 ck_20 rfl
theorem ck_21 : ct_S cy_21 3 ct_21 := ft_tree_ok (gs := [55, 538, 0, 532, 0, 79, 0, 186, 0, 6, 1]) (by decide +kernel)
theorem cw_21 : ai_mok ft_W cy_21 := ft_mok_ok (gs := [135, 1268]) (by decide +kernel)
theorem pm_21 : ct_G cm_21 := ct_G0 cw_21 ck_21 rfl
theorem ck_22 : ct_S cy_22 3 ct_22 := ft_tree_ok (gs := [198, 7, 8, 95, 281, 2, 0, 273, 10, 0, 525, 0]) (by decide +kernel)
theorem cw_22 : ai_mok ft_W cy_22 := ft_mok_ok (gs := [135, 1272]) (by decide +kernel)
theorem pm_22 : ct_G cm_22 := ct_G0 cw_22 ck_22 rfl
theorem ck_23 : ct_S cy_23 3 ct_23 := ft_tree_ok (gs := [57, 0, 532, 6, 816, 1, 6, 1]) (by decide +kernel)
theorem cw_23 : ai_mok ft_W cy_23 := ft_mok_ok (gs := [135, 1278]) (by decide +kernel)
theorem pm_23 : ct_G cm_23 := ct_G0 cw_23 ck_23 rfl
theorem ck_24 : ct_S cy_24 1 ct_24 := ft_tree_ok (gs := [598]) (by decide +kernel)
theorem cw_24 : ai_mok ft_W cy_24 := ft_mok_ok (gs := [135, 1291]) (by decide +kernel)
theorem pm_24 : ct_G cm_24 := ct_G0 cw_24 ck_24 rfl
theorem ck_25 : ct_S cy_25 3 ct_25 := ft_tree_ok (gs := [1226, 1, 0, 189, 0, 0, 0]) (by decide +kernel)
theorem cw_25 : ai_mok ft_W cy_25 := ft_mok_ok (gs := [135, 1282]) (by decide +kernel)
theorem pm_25 : ct_G cm_25 := ct_G0 cw_25 ck_25 rfl
theorem ck_26 : ct_S cy_26 3 ct_26 := ft_tree_ok (gs := [0, 155, 0, 5, 0, 1, 2, 0, 24, 72, 1, 45, 2, 1, 0, 0, 0, 0, 0, 0, 0, 0]) (by decide +kernel)
theorem cw_26 : ai_mok ft_W cy_26 := ft_mok_ok (gs := [126, 35]) (by decide +kernel)
theorem pm_26 : ct_G cm_26 := ct_G0 cw_26 ck_26 rfl
theorem ck_27 : ct_S cy_27 1 ct_27 := ft_tree_ok (gs := [0, 267, 1, 24]) (by decide +kernel)
theorem cw_27 : ai_mok ft_W cy_27 := ft_mok_ok (gs := [126, 625]) (by decide +kernel)
theorem pm_27 : ct_G cm_27 := ct_G0 cw_27 ck_27 rfl
theorem ck_28 : ct_S cy_28 3 ct_28 := ft_tree_ok (gs := [0, 267, 1, 30, 20, 0, 0, 0]) (by decide +kernel)
theorem cw_28 : ai_mok ft_W cy_28 := ft_mok_ok (gs := [126, 735]) (by decide +kernel)
theorem pm_28 : ct_G cm_28 := ct_G0 cw_28 ck_28 rfl
theorem ck_29 : ct_S cy_29 1 ct_29 := ft_tree_ok (gs := [321]) (by decide +kernel)
theorem cw_29 : ai_mok ft_W cy_29 := ft_mok_ok (gs := [126, 757]) (by decide +kernel)
theorem pm_29 : ct_G cm_29 := ct_G0 cw_29 ck_29 rfl
theorem ck_30 : ct_S cy_30 1 ct_30 := ft_tree_ok (gs := [319, 805, 9]) (by decide +kernel)
theorem cw_30 : ai_mok ft_W cy_30 := ft_mok_ok (gs := [126, 1007]) (by decide +kernel)
theorem pm_30 : ct_G cm_30 := ct_G0 cw_30 ck_30 rfl
theorem ck_31 : ct_S cy_31 2 ct_31 := ft_tree_ok (gs := [202, 107, 10]) (by decide +kernel)
theorem cw_31 : ai_mok ft_W cy_31 := ft_mok_ok (gs := [126, 753]) (by decide +kernel)
theorem pm_31 : ct_G cm_31 := ct_G0 cw_31 ck_31 rfl
theorem ck_32 : ct_S cy_32 1 ct_32 := ft_tree_ok (gs := [211, 666, 0, 2, 0, 322, 0]) (by decide +kernel)
theorem cw_32 : ai_mok ft_W cy_32 := ft_mok_ok (gs := [126, 1078]) (by decide +kernel)
theorem pm_32 : ct_G cm_32 := ct_G0 cw_32 ck_32 rfl
theorem ck_33 : ct_S cy_33 1 ct_33 := ft_tree_ok (gs := [322]) (by decide +kernel)
theorem cw_33 : ai_mok ft_W cy_33 := ft_mok_ok (gs := [126, 1447]) (by decide +kernel)
theorem pm_33 : ct_G cm_33 := ct_G0 cw_33 ck_33 rfl
theorem ck_34 : ct_S cy_34 1 ct_34 := ft_tree_ok (gs := [323]) (by decide +kernel)
theorem cw_34 : ai_mok ft_W cy_34 := ft_mok_ok (gs := [126, 1451]) (by decide +kernel)
theorem pm_34 : ct_G cm_34 := ct_G0 cw_34 ck_34 rfl
theorem ck_35 : ct_S cy_35 1 ct_35 := ft_tree_ok (gs := [326]) (by decide +kernel)
theorem cw_35 : ai_mok ft_W cy_35 := ft_mok_ok (gs := [126, 1057]) (by decide +kernel)
theorem pm_35 : ct_G cm_35 := ct_G0 cw_35 ck_35 rfl
theorem ck_36 : ct_S cy_36 2 ct_36 := ft_tree_ok (gs := [327]) (by decide +kernel)
theorem cw_36 : ai_mok ft_W cy_36 := ft_mok_ok (gs := [126, 1061]) (by decide +kernel)
theorem pm_36 : ct_G cm_36 := ct_G0 cw_36 ck_36 rfl
theorem ck_37 : ct_S cy_37 2 ct_37 := ft_tree_ok (gs := [149, 1042, 0, 0]) (by decide +kernel)
theorem cw_37 : ai_mok ft_W cy_37 := ft_mok_ok (gs := [126, 1064]) (by decide +kernel)
theorem pm_37 : ct_G cm_37 := ct_G0 cw_37 ck_37 rfl
theorem ck_38 : ct_S cy_38 3 ct_38 := ft_tree_ok (gs := [1, 1, 0, 267, 1, 8, 1, 1, 1, 11, 24, 1, 0]) (by decide +kernel)
theorem cw_38 : ai_mok ft_W cy_38 := ft_mok_ok (gs := [126, 144]) (by decide +kernel)
theorem pm_38 : ct_G cm_38 := ct_G0 cw_38 ck_38 rfl
theorem ck_39 : ct_S cy_39 3 ct_39 := ft_tree_ok (gs := [2, 273, 0, 1, 1, 13, 5, 20, 0, 0, 3]) (by decide +kernel)
theorem cw_39 : ai_mok ft_W cy_39 := ft_mok_ok (gs := [126, 148]) (by decide +kernel)
theorem pm_39 : ct_G cm_39 := ct_G0 cw_39 ck_39 rfl
theorem ck_40 : ct_S cy_40 3 ct_40 := ft_tree_ok (gs := [328]) (by decide +kernel)
theorem cw_40 : ai_mok ft_W cy_40 := ft_mok_ok (gs := [126, 155]) (by decide +kernel)
theorem pm_40 : ct_G cm_40 := ct_G0 cw_40 ck_40 rfl
theorem ck_41 : ct_S cy_41 3 ct_41 := ft_tree_ok (gs := [328, 0]) (by decide +kernel)
theorem cw_41 : ai_mok ft_W cy_41 := ft_mok_ok (gs := [126, 159]) (by decide +kernel)
theorem pm_41 : ct_G cm_41 := ct_G0 cw_41 ck_41 rfl
theorem ck_42 : ct_S cy_42 3 ct_42 := ft_tree_ok (gs := [5, 285, 1, 7, 20, 0, 0, 2]) (by decide +kernel)
