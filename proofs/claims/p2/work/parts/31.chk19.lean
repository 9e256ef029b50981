/-! WHAT THE TABLES SAY OF EACH METHOD (printed by gen3.py) 19 -/
theorem ck_286_1 : ft_T ct_strs ct_mt "LightsMarketLaw" false (some .boolean) code [(0, 0, 0, 0)] 3 ct_286_1 := ft_tree_ok (gs := [1444, 0, 525, 146, 0, 0, 79, 0, 0, 121, 0, 0]) (by decide +kernel)
theorem ck_286_2 : ft_T ct_strs ct_mt "LightsMarketLaw" false (some .boolean) code [(0, 0, 0, 0)] 3 ct_286_2 := ft_tree_ok (gs := [1360, 0, 224, 0, 423, 0, 0]) (by decide +kernel)
