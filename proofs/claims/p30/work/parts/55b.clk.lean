/-! THE PARSER: readClause: its pieces -/
noncomputable def ck_r : ai_V := .inr (.inr (some (some 286)))
noncomputable def ck_L (fl : Int) : List ai_V := [pz_this, .inl (0, fl), pz_u]
noncomputable def ck_Lc (fl : Int) : List ai_V := [pz_this, .inl (0, fl), .inl (44, 0)]
noncomputable def ck_us : List ai_V := [pz_u, pz_u, pz_u]
noncomputable def ck_b7 : List (Int × Int) := [(0, 7)]
noncomputable def ck_b : List (Int × Int) := [(32, 39)]
noncomputable def ck_b5 : List (Int × Int) := [(32, 39), (1, 8)]
noncomputable def ck_b8 : List (Int × Int) := [(0, 8)]
noncomputable def ck_bad (v : Int) (f : ai_F) : Bool := pz_to [] 53 ck_us [] [(14, (0, v)), (15, (12, 0))] f
noncomputable def ck_Lx : List ai_V := [pz_this, .inl (44, 0), pz_u]
noncomputable def ck_c0 (f : ai_F) : Bool := ck_bad 1 f || (pz_to [(0, 0)] 35 ck_Lx [.inl (0, 4), ck_r] [] f || pz_to [(1, 1)] 35 ck_Lx [.inl (0, 4), ck_r] [] f)
theorem ck_k0 : pz_sc [] 202 [35, 53] false 0 [pz_this, pz_u, pz_u] [] [] [(14, (0, 0)), (9, (0, 0))] (ck_bad 1) = true := by decide +kernel
theorem ck_k1 : pz_sc pz_Tis 202 [35, 53] false 0 [pz_this, pz_u, pz_u] [] [] [(14, (0, 0)), (9, (1, 1))] ck_c0 = true := by decide +kernel
theorem ck_k2 : pz_sc [] 202 [35, 53] false 0 [pz_this, pz_u, pz_u] [] [] [(14, (0, 0)), (9, (2, 4))] (ck_bad 1) = true := by decide +kernel
noncomputable def ck_ks (fl : Int) : Bool :=
  pz_sc [] 202 [53, 55] false 36 (ck_L fl) [.inl (44, 0)] ck_b8 [(44, (8, 8)), (14, (0, 0))] (ck_bad 2) && (pz_sc [] 202 [53, 55] false 36 (ck_L fl) [.inl (44, 0)] ck_b8 [(44, (0, 7)), (14, (0, 0))] (pz_to [] 55 (ck_L fl) [pz_this] []) && (pz_sc [] 202 [65] false 58 (ck_L fl) [] [] [] (pz_to [] 65 (ck_L fl) [.inl (0, 4), ck_r, .inl (0, 32)] []) && (pz_sc [] 202 [74] false 66 (ck_L fl) [.inl (44, 0), .inl (0, 32)] ck_b7 [] (pz_to ck_b 74 (ck_Lc fl) [.inl (0, 4), ck_r, .inl (0, 4), ck_r] [(44, (44, 32))]) && (pz_sc [] 202 [77] false 75 (ck_Lc fl) [.inl (44, -32), .inl (0, 4), ck_r] ck_b [] (pz_to ck_b5 77 (ck_Lc fl) [.inl (45, 0), .inl (0, 4), ck_r] [(44, (44, 0)), (45, (44, -31))]) && (pz_sc [] 202 [92] false 78 (ck_Lc fl) [] ck_b5 [] (pz_to ck_b 92 (ck_Lc fl) [.inl (0, 1 - fl), .inl (44, 0), .inr (.inr (some (some 287)))] [(44, (44, 0))]) && (pz_sc [] 202 [102] false 93 (ck_Lc fl) [] ck_b [] (pz_to ck_b 102 (ck_Lc fl) [.inl (17, 0), .inl (44, 0), .inr (.inr (some (some 288)))] [(44, (44, 0))]) && (pz_sc [] 202 [105] false 103 (ck_Lc fl) [] ck_b [] (pz_to ck_b 105 (ck_Lc fl) [.inl (0, .ofNat 0), pz_this] [(44, (44, 0))]) && (pz_sc [] 202 [117] false 108 (ck_Lc fl) [] ck_b [] (pz_to ck_b 117 (ck_Lc fl) [.inl (17, 0), .inl (44, 0), .inr (.inr (some (some 289)))] [(44, (44, 0))]) && (pz_sc [] 202 [121] false 118 (ck_Lc fl) [] ck_b [] (pz_to [] 121 (ck_L fl) [.inl (0, .ofNat 59), pz_this] []))))))))))
theorem ck_kk0 : ck_ks 0 = true := by decide +kernel
theorem ck_kk1 : ck_ks 1 = true := by decide +kernel
theorem ck_kc : pz_ck 202 55 188 [pz_this] [pz_this] [] = true ∧ pz_ck 202 105 201 [.inl (0, .ofNat 0), pz_this] [pz_this, .inl (0, .ofNat 0)] [] = true ∧ pz_ck 202 121 192 [.inl (0, .ofNat 59), pz_this] [pz_this, .inl (0, .ofNat 59)] [] = true := by decide +kernel
theorem ck_pl : ls_plain 202 = true ∧ ct_bud 202 = (0, 0) ∧ (ct_mt 202).2.2.1 = 3 ∧ (ct_mt 202).2.2.2.1 = none ∧ decode (ct_mt 202).2.1 53 = .ok (.return_, 1) ∧ decode (ct_mt 202).2.1 124 = .ok (.return_, 1) ∧ decode (ct_mt 202).2.1 65 = .ok (.iaload, 1) ∧ decode (ct_mt 202).2.1 35 = .ok (.iaload, 1) ∧ decode (ct_mt 202).2.1 74 = .ok (.iaload, 1) ∧ decode (ct_mt 202).2.1 77 = .ok (.iastore, 1) ∧ decode (ct_mt 202).2.1 92 = .ok (.iastore, 1) ∧ decode (ct_mt 202).2.1 102 = .ok (.iastore, 1) ∧ decode (ct_mt 202).2.1 117 = .ok (.iastore, 1) := by decide +kernel
