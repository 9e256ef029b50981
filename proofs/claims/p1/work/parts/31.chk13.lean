/-! WHAT THE TABLES SAY OF EACH METHOD (printed by gen3.py) 13 -/
theorem ck_287_12 : ft_T ct_strs ct_mt "LightsMarketLaw" false (some .boolean) code [(0, 0, 0, 0)] 4 ct_287_12 := ft_tree_ok (gs := [1972, 0, 0, 1, 0, 0, 143, 0, 0]) (by decide +kernel)
theorem ck_287_13 : ft_T ct_strs ct_mt "LightsMarketLaw" false (some .boolean) code [(0, 0, 0, 0)] 4 ct_287_13 := ft_tree_ok (gs := [753, 0, 0, 506, 0, 249, 0, 508, 0, 0, 278, 0, 0]) (by decide +kernel)
