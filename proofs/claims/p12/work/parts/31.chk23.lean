/-! WHAT THE TABLES SAY OF EACH METHOD (printed by gen3.py) 23 -/
theorem ck_286_9 : ft_T ct_strs ct_mt "LightsMarketLaw" false (some .boolean) code [(0, 0, 0, 0)] 3 ct_286_9 := ft_tree_ok (gs := [[], [], [], [149, 0, 0, 8, 0, 0], [], [90, 0], [51, 0], [36, 0], [], [], [5, 0, 0]]) (by decide +kernel)
theorem ck_286_10 : ft_T ct_strs ct_mt "LightsMarketLaw" false (some .boolean) code [(0, 0, 0, 0)] 3 ct_286_10 := ft_tree_ok (gs := [[], [], [], [], [], [], [189, 0], [], [199, 0, 0], [192, 0, 0], [56, 0, 0]]) (by decide +kernel)
