/-! WHAT THE TABLES SAY OF EACH METHOD (printed by gen3.py) 11 -/
theorem ck_287_9 : ft_T ct_strs ct_mt "LightsMarketLaw" false (some .boolean) code [(0, 0, 0, 0)] 4 ct_287_9 := ft_tree_ok (gs := [1195, 0, 281, 0, 638, 0, 0]) (by decide +kernel)
theorem ck_287_10 : ft_T ct_strs ct_mt "LightsMarketLaw" false (some .boolean) code [(0, 0, 0, 0)] 4 ct_287_10 := ft_tree_ok (gs := [1117, 0, 248, 0, 68, 0, 140, 0, 31, 0, 358, 0, 0, 20, 0, 0, 291, 0, 0]) (by decide +kernel)
