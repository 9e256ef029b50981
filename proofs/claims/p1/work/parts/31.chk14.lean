/-! WHAT THE TABLES SAY OF EACH METHOD (printed by gen3.py) 14 -/
theorem ck_287_14 : ft_T ct_strs ct_mt "LightsMarketLaw" false (some .boolean) code [(0, 0, 0, 0)] 4 ct_287_14 := ft_tree_ok (gs := [785, 0, 588, 0, 209, 0, 384, 0, 0, 28, 0, 0, 194, 0, 0, 129, 0, 0]) (by decide +kernel)
theorem ck_287_15 : ft_T ct_strs ct_mt "LightsMarketLaw" false (some .boolean) code [(0, 0, 0, 0)] 4 ct_287_15 := ft_tree_ok (gs := [893, 0, 549, 0, 526, 0, 0, 261, 0, 0]) (by decide +kernel)
