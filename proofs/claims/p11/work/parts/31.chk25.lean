/-! WHAT THE TABLES SAY OF EACH METHOD (printed by gen3.py) 25 -/
theorem ck_286_13 : ft_T ct_strs ct_mt "LightsMarketLaw" false (some .boolean) code [(0, 0, 0, 0)] 3 ct_286_13 := ft_tree_ok (gs := [[], [], [], [], [], [], [], [], [199, 0, 0, 25, 0, 0], [120, 0, 0, 97, 0, 0], [20, 0, 0]]) (by decide +kernel)
theorem ck_286_14 : ft_T ct_strs ct_mt "LightsMarketLaw" false (some .boolean) code [(0, 0, 0, 0)] 3 ct_286_14 := ft_tree_ok (gs := [[], [], [], [172, 0, 0, 6, 0], [], [178, 0], [113, 0, 89, 0], [], [], [70, 0, 0, 79, 0, 0]]) (by decide +kernel)
