/-! WHAT THE TABLES SAY OF EACH METHOD (printed by gen3.py) 19 -/
theorem ck_286_1 : ft_T ct_strs ct_mt "LightsMarketLaw" false (some .boolean) code [(0, 0, 0, 0)] 3 ct_286_1 := ft_tree_ok (gs := [[], [], [], [], [], [185, 0], [], [], [167], [78, 0, 0, 147, 0, 0], [28, 0, 0]]) (by decide +kernel)
theorem ck_286_2 : ft_T ct_strs ct_mt "LightsMarketLaw" false (some .boolean) code [(0, 0, 0, 0)] 3 ct_286_2 := ft_tree_ok (gs := [[], [], [], [], [], [], [], [15, 0], [168, 0, 0, 40, 0, 0]]) (by decide +kernel)
