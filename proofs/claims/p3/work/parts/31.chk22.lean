/-! WHAT THE TABLES SAY OF EACH METHOD (printed by gen3.py) 22 -/
theorem ck_286_7 : ft_T ct_strs ct_mt "LightsMarketLaw" false (some .boolean) code [(0, 0, 0, 0)] 3 ct_286_7 := ft_tree_ok (gs := [2145, 0, 0, 137, 0, 0]) (by decide +kernel)
theorem ck_286_8 : ft_T ct_strs ct_mt "LightsMarketLaw" false (some .boolean) code [(0, 0, 0, 0)] 3 ct_286_8 := ft_tree_ok (gs := [1478, 0, 543, 0, 0, 206, 0, 0, 101, 0, 0]) (by decide +kernel)
