/-! WHAT THE TABLES SAY OF EACH METHOD (printed by gen3.py) 20 -/
theorem ck_286_3 : ft_T ct_strs ct_mt "LightsMarketLaw" false (some .boolean) code [(0, 0, 0, 0)] 3 ct_286_3 := ft_tree_ok (gs := [[], [], [], [176, 0, 0], [], [], [], [], [], [180, 0, 0, 49, 0, 0], [44, 0, 0]]) (by decide +kernel)
theorem ck_286_4 : ft_T ct_strs ct_mt "LightsMarketLaw" false (some .boolean) code [(0, 0, 0, 0)] 3 ct_286_4 := ft_tree_ok (gs := [[], [], [], [], [19, 0, 62, 0], [], [143, 0], [29, 0]]) (by decide +kernel)
