/-! WHAT THE TABLES SAY OF EACH METHOD (printed by gen3.py) 21 -/
theorem ck_286_5 : ft_T ct_strs ct_mt "LightsMarketLaw" false (some .boolean) code [(0, 0, 0, 0)] 3 ct_286_5 := ft_tree_ok (gs := [1367, 0, 772, 0, 0]) (by decide +kernel)
theorem ck_286_6 : ft_T ct_strs ct_mt "LightsMarketLaw" false (some .boolean) code [(0, 0, 0, 0)] 3 ct_286_6 := ft_tree_ok (gs := [2019, 0, 0, 206, 0, 0, 50, 0, 0, 48, 0, 0]) (by decide +kernel)
