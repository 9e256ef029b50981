/-! WHAT THE TABLES SAY OF EACH METHOD (printed by gen3.py) 19 -/
theorem ck_286_1 : ft_T ct_strs ct_mt "LightsMarketLaw" false (some .boolean) code [(0, 0, 0, 0)] 3 ct_286_1 := ft_tree_ok (gs := [[], [], [], [], [], [], [120, 0], [], [167], [74, 0, 0, 79, 0, 0], [40, 0, 0]]) (by decide +kernel)
theorem ck_286_2 : ft_T ct_strs ct_mt "LightsMarketLaw" false (some .boolean) code [(0, 0, 0, 0)] 3 ct_286_2 := ft_tree_ok (gs := [[], [], [], [], [], [], [36, 0], [22, 0], [207, 0, 0]]) (by decide +kernel)
