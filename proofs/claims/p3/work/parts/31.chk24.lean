/-! WHAT THE TABLES SAY OF EACH METHOD (printed by gen3.py) 24 -/
theorem ck_286_11 : ft_T ct_strs ct_mt "LightsMarketLaw" false (some .boolean) code [(0, 0, 0, 0)] 3 ct_286_11 := ft_tree_ok (gs := [745, 0, 0, 5, 0, 0, 626, 0, 228, 0, 535, 0, 0, 152, 0, 0]) (by decide +kernel)
theorem ck_286_12 : ft_T ct_strs ct_mt "LightsMarketLaw" false (some .boolean) code [(0, 0, 0, 0)] 3 ct_286_12 := ft_tree_ok (gs := [1976, 0, 0, 24, 0, 0, 246, 0, 0, 89, 0, 0]) (by decide +kernel)
