/-! WHAT THE TABLES SAY OF EACH METHOD (printed by gen3.py) 9 -/
theorem ck_287_6 : ft_T ct_strs ct_mt "LightsMarketLaw" false (some .boolean) code [(0, 0, 0, 0)] 4 ct_287_6 := ft_tree_ok (gs := [863, 0, 563, 0, 170, 0, 370, 0, 0, 60, 0, 0, 111, 0, 0, 133, 0, 0]) (by decide +kernel)
