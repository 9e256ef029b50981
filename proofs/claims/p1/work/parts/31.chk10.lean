/-! WHAT THE TABLES SAY OF EACH METHOD (printed by gen3.py) 10 -/
theorem ck_287_7 : ft_T ct_strs ct_mt "LightsMarketLaw" false (some .boolean) code [(0, 0, 0, 0)] 4 ct_287_7 := ft_tree_ok (gs := [1528, 0, 442, 0, 0, 40, 0, 0, 210, 0, 0, 37, 0, 0, 41, 0, 0]) (by decide +kernel)
theorem ck_287_8 : ft_T ct_strs ct_mt "LightsMarketLaw" false (some .boolean) code [(0, 0, 0, 0)] 4 ct_287_8 := ft_tree_ok (gs := [776, 0, 0, 1193, 0, 0, 365, 0, 0]) (by decide +kernel)
