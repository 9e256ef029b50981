/-! WHAT THE TABLES SAY OF EACH METHOD (printed by gen3.py) 25 -/
theorem ck_286_13 : ft_T ct_strs ct_mt "LightsMarketLaw" false (some .boolean) code [(0, 0, 0, 0)] 3 ct_286_13 := ft_tree_ok (gs := [[], [], [], [], [], [111, 0], [104, 0, 91, 0], [], [203, 0, 0, 25, 0, 0]]) (by decide +kernel)
theorem ck_286_14 : ft_T ct_strs ct_mt "LightsMarketLaw" false (some .boolean) code [(0, 0, 0, 0)] 3 ct_286_14 := ft_tree_ok (gs := [[], [], [], [172, 0, 0, 6, 0], [], [], [], [], [], [74, 0, 0, 47, 0, 0, 97, 0, 0]]) (by decide +kernel)
