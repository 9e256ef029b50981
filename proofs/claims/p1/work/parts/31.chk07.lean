/-! WHAT THE TABLES SAY OF EACH METHOD (printed by gen3.py) 7 -/
theorem ck_287_2 : ft_T ct_strs ct_mt "LightsMarketLaw" false (some .boolean) code [(0, 0, 0, 0)] 4 ct_287_2 := ft_tree_ok (gs := [1382, 0, 209, 0, 377, 0, 0, 170, 0, 0, 56, 0, 0]) (by decide +kernel)
theorem ck_287_3 : ft_T ct_strs ct_mt "LightsMarketLaw" false (some .boolean) code [(0, 0, 0, 0)] 4 ct_287_3 := ft_tree_ok (gs := [1972, 0, 0, 56, 0, 0, 218, 0, 0, 53, 0, 0, 25, 0, 0]) (by decide +kernel)
