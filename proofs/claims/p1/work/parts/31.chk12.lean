/-! WHAT THE TABLES SAY OF EACH METHOD (printed by gen3.py) 12 -/
theorem ck_287_11 : ft_T ct_strs ct_mt "LightsMarketLaw" false (some .boolean) code [(0, 0, 0, 0)] 4 ct_287_11 := ft_tree_ok (gs := [745, 0, 0, 179, 0, 1043, 0, 0, 193, 0, 0, 61, 0, 0, 37, 0, 0, 53, 0, 0, 13, 0, 0]) (by decide +kernel)
