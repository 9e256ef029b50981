/-! WHAT THE TABLES SAY OF EACH METHOD (printed by gen3.py) 24 -/
theorem ck_286_11 : ft_T ct_strs ct_mt "LightsMarketLaw" false (some .boolean) code [(0, 0, 0, 0)] 3 ct_286_11 := ft_tree_ok (gs := [[], [], [], [141, 0, 0], [], [], [58, 0], [48, 0], [227, 0, 0], [105, 0, 0], [20, 0, 0]]) (by decide +kernel)
theorem ck_286_12 : ft_T ct_strs ct_mt "LightsMarketLaw" false (some .boolean) code [(0, 0, 0, 0)] 3 ct_286_12 := ft_tree_ok (gs := [[], [], [], [], [49, 0, 47, 0], [], [], [], [172, 0, 0], [208, 0, 0], [60, 0, 0]]) (by decide +kernel)
