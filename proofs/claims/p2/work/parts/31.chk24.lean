/-! WHAT THE TABLES SAY OF EACH METHOD (printed by gen3.py) 24 -/
theorem ck_286_11 : ft_T ct_strs ct_mt "LightsMarketLaw" false (some .boolean) code [(0, 0, 0, 0)] 3 ct_286_11 := ft_tree_ok (gs := [745, 0, 0, 447, 0, 231, 0, 91, 0, 504, 0, 0]) (by decide +kernel)
theorem ck_286_12 : ft_T ct_strs ct_mt "LightsMarketLaw" false (some .boolean) code [(0, 0, 0, 0)] 3 ct_286_12 := ft_tree_ok (gs := [893, 0, 47, 0, 1028, 0, 0]) (by decide +kernel)
