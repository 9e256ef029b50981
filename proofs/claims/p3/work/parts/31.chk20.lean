/-! WHAT THE TABLES SAY OF EACH METHOD (printed by gen3.py) 20 -/
theorem ck_286_3 : ft_T ct_strs ct_mt "LightsMarketLaw" false (some .boolean) code [(0, 0, 0, 0)] 3 ct_286_3 := ft_tree_ok (gs := [1444, 0, 676, 0, 0, 79, 0, 0, 121, 0, 0]) (by decide +kernel)
theorem ck_286_4 : ft_T ct_strs ct_mt "LightsMarketLaw" false (some .boolean) code [(0, 0, 0, 0)] 3 ct_286_4 := ft_tree_ok (gs := [1360, 0, 224, 0, 427, 0, 0, 314, 0, 0]) (by decide +kernel)
