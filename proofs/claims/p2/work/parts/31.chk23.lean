/-! WHAT THE TABLES SAY OF EACH METHOD (printed by gen3.py) 23 -/
theorem ck_286_9 : ft_T ct_strs ct_mt "LightsMarketLaw" false (some .boolean) code [(0, 0, 0, 0)] 3 ct_286_9 := ft_tree_ok (gs := [753, 0, 0, 8, 0, 0, 615, 0, 228, 0, 531, 0, 0, 152, 0, 0]) (by decide +kernel)
theorem ck_286_10 : ft_T ct_strs ct_mt "LightsMarketLaw" false (some .boolean) code [(0, 0, 0, 0)] 3 ct_286_10 := ft_tree_ok (gs := [1999, 0, 0, 246, 0, 0, 89, 0, 0]) (by decide +kernel)
