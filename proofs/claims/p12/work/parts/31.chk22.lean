/-! WHAT THE TABLES SAY OF EACH METHOD (printed by gen3.py) 22 -/
theorem ck_286_7 : ft_T ct_strs ct_mt "LightsMarketLaw" false (some .boolean) code [(0, 0, 0, 0)] 3 ct_286_7 := ft_tree_ok (gs := [[], [], [], [], [], [], [], [], [], [101, 0, 0], [1, 0, 0]]) (by decide +kernel)
theorem ck_286_8 : ft_T ct_strs ct_mt "LightsMarketLaw" false (some .boolean) code [(0, 0, 0, 0)] 3 ct_286_8 := ft_tree_ok (gs := [[], [], [], [], [], [], [154, 0], [], [191, 0, 0], [188, 0, 0], [52, 0, 0]]) (by decide +kernel)
