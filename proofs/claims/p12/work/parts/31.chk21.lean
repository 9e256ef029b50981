/-! WHAT THE TABLES SAY OF EACH METHOD (printed by gen3.py) 21 -/
theorem ck_286_5 : ft_T ct_strs ct_mt "LightsMarketLaw" false (some .boolean) code [(0, 0, 0, 0)] 3 ct_286_5 := ft_tree_ok (gs := [[], [], [], [176, 0, 0], [], [], [], [], [], [184, 0, 0, 49, 0, 0]]) (by decide +kernel)
theorem ck_286_6 : ft_T ct_strs ct_mt "LightsMarketLaw" false (some .boolean) code [(0, 0, 0, 0)] 3 ct_286_6 := ft_tree_ok (gs := [[], [], [], [], [], [], [43, 0, 98, 0], [29, 0], [219, 0, 0]]) (by decide +kernel)
