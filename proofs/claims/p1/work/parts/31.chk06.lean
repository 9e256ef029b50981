/-! WHAT THE TABLES SAY OF EACH METHOD (printed by gen3.py) 6 -/
theorem ck_287_1 : ft_T ct_strs ct_mt "LightsMarketLaw" false (some .boolean) code [(0, 0, 0, 0)] 4 ct_287_1 := ft_tree_ok (gs := [764, 0, 0, 502, 0, 250, 0, 448, 0, 0, 0, 32, 0, 0, 270, 0, 0]) (by decide +kernel)
