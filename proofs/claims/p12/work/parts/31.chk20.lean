/-! WHAT THE TABLES SAY OF EACH METHOD (printed by gen3.py) 20 -/
theorem ck_286_3 : ft_T ct_strs ct_mt "LightsMarketLaw" false (some .boolean) code [(0, 0, 0, 0)] 3 ct_286_3 := ft_tree_ok (gs := [[], [], [], [], [], [], [120, 0], [], [], [160, 0, 0], [44, 0, 0]]) (by decide +kernel)
theorem ck_286_4 : ft_T ct_strs ct_mt "LightsMarketLaw" false (some .boolean) code [(0, 0, 0, 0)] 3 ct_286_4 := ft_tree_ok (gs := [[], [], [], [], [19, 0, 62, 0], [], [36, 0], [22, 0], [], [], [48, 0, 0]]) (by decide +kernel)
