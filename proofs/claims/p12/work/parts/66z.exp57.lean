/-! THE LEAST (the class): LM.least -/
noncomputable def zu_L (q : Nat) (a b : ai_V) : List ai_V := [wa_r 16, wa_k q, wa_i 728, wa_i 729, a, b]
noncomputable def zu_0 (q : Nat) : List ai_V := zu_L q wa_u wa_u
noncomputable def zu_h (q i : Nat) : List ai_V := zu_L q (wa_i 807) (wa_k i)
noncomputable def zu_dS (q : Nat) : List ai_V := [.inl (0, -1), wa_k q, wa_r 87]
noncomputable def zu_dA (q : Nat) : List ai_V := [wa_r 87, wa_k q, .inl (0, -1)]
noncomputable def zu_sS : List ai_V := [.inl (0, -1), wa_k 0, wa_i 729, wa_i 728, wa_r 87]
noncomputable def zu_sA : List ai_V := [wa_r 87, wa_i 728, wa_i 729, wa_k 0, .inl (0, -1)]
noncomputable abbrev zu_r (st : List Nat) (sk : Bool) (pc : Nat) (L S : List ai_V) (cp : List (Nat × Int × Int)) (le : List (ai_X × ai_X)) (C : List Nat) (Es : List pt_E) : Bool := pt_row zxY 146 st sk (pc, 0, 0) L S [] cp le C Es
theorem zu_c1 : (List.range 4).all (fun q => zu_r [11, 23, 32] true 0 (zu_0 q) [] [(729, (0, 2147483647))] [] [] [((32, 0, 0), (zu_0 q, [wa_r 17, wa_i 729]), [], [])]) = true := by decide +kernel
theorem zu_c2 : (List.range 4).all (fun q => zu_r [39, 40] false 35 (zu_0 q) [wa_i 807, wa_i 729] [] [((729, 0), (807, 0))] [] [((40, 0, 0), (zu_0 q, []), [], [])] && zu_r [39, 40] false 35 (zu_0 q) [wa_i 807, wa_i 729] [] [((807, 1), (729, 0))] [] [((39, 0, 0), (zu_0 q, [.inl (0, -1)]), [], [])]) = true := by decide +kernel
theorem zu_c3 : (List.range 4).all (fun q => zu_r [46] false 40 (zu_0 q) [] [] [] [] [((46, 0, 0), (zu_0 q, zu_dS q), [], [])] && zu_r [57] false 49 (zu_0 q) [] [] [] [] [((57, 0, 0), (zu_0 q, zu_sS), [], [])]) = true := by decide +kernel
theorem zu_c4 : (List.range 4).all (fun q => zu_r [82, 111] false 60 (zu_0 q) [wa_i 807] [(807, (-1, -1))] [] [] [((111, 0, 0), (zu_L q (wa_i 807) wa_u, []), [], [])] && zu_r [82, 111] false 60 (zu_0 q) [wa_i 807] [(807, (0, 2147483647))] [] [] [((82, 0, 0), (zu_h q 0, []), [(2, gz_p 73)], [])]) = true := by decide +kernel
theorem zu_c5 : (List.range 4).all (fun q => (List.range 4).all (fun i => zu_r [82, 111] true 82 (zu_h q i) [] [] [] [202] [((82, 0, 0), (zu_h q (i + 1), []), [(570 + i, gz_p (550 + i))], [])]) && (zu_r [82, 111] true 82 (zu_h q 4) [] [] [] [] [((111, 0, 0), (zu_L q (wa_i 807) wa_u, []), [], [])] && zu_r [113] true 111 (zu_L q (wa_i 807) wa_u) [] [] [] [] [((113, 0, 0), (zu_L q (wa_i 807) wa_u, [wa_i 807]), [], [])])) = true := by decide +kernel
theorem zu_k : (List.range 4).all (fun q => (cy_vk 146 32 32 zxY.2.1 [wa_r 17, wa_i 729] [wa_r 17] [wa_i 729] && pt_cck zxY 146 32 (32, 0, 0) 1 807 (zu_0 q) [wa_i 729] [wa_r 17] [wa_r 17]) && ((cy_vk 146 46 4 zxY.2.1 (zu_dS q) (zu_dA q) [] && pt_cck zxY 146 4 (46, 0, 0) 0 807 (zu_0 q) [] (zu_dA q) op_aZ) && (cy_vk 146 57 8 zxY.2.1 zu_sS zu_sA [] && pt_cck zxY 146 8 (57, 0, 0) 1 807 (zu_0 q) [] zu_sA zs_a))) = true ∧ ((pt_is 5 146 39 = true ∧ pt_is 5 146 113 = true) ∧ (ct_mt 146).2.2.1 = 6) ∧ ct_bud 146 = (1, 6) := by decide +kernel
