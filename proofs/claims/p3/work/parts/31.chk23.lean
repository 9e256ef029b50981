/-! WHAT THE TABLES SAY OF EACH METHOD (printed by gen3.py) 23 -/
theorem ck_286_9 : ft_T ct_strs ct_mt "LightsMarketLaw" false (some .boolean) code [(0, 0, 0, 0)] 3 ct_286_9 := ft_tree_ok (gs := [1174, 0, 199, 0, 223, 0, 687, 0, 0]) (by decide +kernel)
theorem ck_286_10 : ft_T ct_strs ct_mt "LightsMarketLaw" false (some .boolean) code [(0, 0, 0, 0)] 3 ct_286_10 := ft_tree_ok (gs := [764, 0, 0, 746, 0, 480, 0, 0, 238, 0, 0, 101, 0, 0]) (by decide +kernel)
