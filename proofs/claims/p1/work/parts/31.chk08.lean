/-! WHAT THE TABLES SAY OF EACH METHOD (printed by gen3.py) 8 -/
theorem ck_287_4 : ft_T ct_strs ct_mt "LightsMarketLaw" false (some .boolean) code [(0, 0, 0, 0)] 4 ct_287_4 := ft_tree_ok (gs := [1174, 0, 796, 0, 0]) (by decide +kernel)
theorem ck_287_5 : ft_T ct_strs ct_mt "LightsMarketLaw" false (some .boolean) code [(0, 0, 0, 0)] 4 ct_287_5 := ft_tree_ok (gs := [913, 0, 27, 0, 416, 0, 105, 0]) (by decide +kernel)
