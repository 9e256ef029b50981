/-! THE PARSER: readPart -/
noncomputable def pt_us : List ai_V := [pz_u, pz_u, pz_u]
noncomputable def pt_S : List ai_V := [.inl (44, 0), pz_this]
noncomputable def pt_Lv (a : Nat) : List ai_V := [pz_this, .inl (0, .ofNat a), .inl (44, 0)]
noncomputable def pt_bad : List (Nat × ai_X) := [(14, (0, 1)), (15, (12, 0))]
noncomputable def pt_stop : List Nat := [7, 17, 62, 89, 113]
noncomputable def pt_T : List (Nat × us_C) := [(195, cn_valueNow)]
noncomputable def pt_c2 (a : Nat) (f : ai_F) : Bool := pz_to [(20, 24)] 62 (pz_L3 a) pt_S [] f || pz_to [rn_b] 62 (pz_L3 a) pt_S [(14, (0, 3)), (15, (12, 0))] f
noncomputable def pt_c4 (a : Nat) (f : ai_F) : Bool := pz_to [] 89 (pz_L3 a) [pz_this] [] f || pz_to [] 113 pt_us [] pt_bad f
noncomputable def pt_k (a : Nat) : Bool :=
  pz_sc [] 196 pt_stop false 0 (pz_L3 a) [] [] [(14, (1, 3))] (pz_to [] 7 pt_us [] []) && (pz_sc [] 196 pt_stop false 0 (pz_L3 a) [] [] [(14, (0, 0)), (9, (2, 2))] (pz_to [] 17 (pz_L3 a) [pz_this] []) && (pz_sc pt_T 196 pt_stop false 0 (pz_L3 a) [] [] [(14, (0, 0)), (9, (1, 1))] (pt_c2 a) && (pz_sc [] 196 pt_stop false 0 (pz_L3 a) [] [] [(14, (0, 0)), (9, (0, 0))] (pz_to [] 113 pt_us [] pt_bad) && (pz_sc [] 196 pt_stop false 0 (pz_L3 a) [] [] [(14, (0, 0)), (9, (3, 3))] (pt_c4 a) && pz_sc [] 196 pt_stop false 0 (pz_L3 a) [] [] [(14, (0, 0)), (9, (4, 4))] (pz_to [] 113 pt_us [] pt_bad)))))
noncomputable def pt_k2 (a : Nat) : Bool :=
  pz_sc [] 196 [23] false 20 (pz_L3 a) [.inl (44, 0)] [rn_b] [] (pz_to [rn_b] 23 (pt_Lv a) [.inl (0, 0), pz_this] [(44, (44, 0))]) && (pz_sc [] 196 [28] false 26 (pt_Lv a) [] [rn_b] [] (pz_to [rn_b] 28 (pt_Lv a) pt_S [(44, (44, 0))]) && (pz_sc [] 196 [113] false 31 (pt_Lv a) [] [rn_b] [] (pz_to [] 113 pt_us [] []) &&
  (pz_sc [] 196 [73, 113] false 65 (pz_L3 a) [] [rn_b] [(14, (0, 0))] (pz_to [] 73 (pz_L3 a) [pz_this] []) && (pz_sc [] 196 [73, 113] false 65 (pz_L3 a) [] [rn_b] [(14, (1, 3))] (pz_to [] 113 pt_us [] []) && (pz_sc [] 196 [113] false 76 (pz_L3 a) [] [] [] (pz_to [] 113 pt_us [] []) &&
  (pz_sc [] 196 [96] false 92 (pz_L3 a) [] [] [] (pz_to [] 96 (pz_L3 a) [.inl (0, .ofNat (a + 1)), pz_this] []) && (pz_sc [] 196 [102] false 99 (pz_L3 a) [] [] [] (pz_to [] 102 (pz_L3 a) [.inl (0, 41), pz_this] []) && pz_sc [] 196 [113] false 105 (pz_L3 a) [] [] [] (pz_to [] 113 pt_us [] []))))))))
noncomputable def pt_k3 (a : Nat) : Bool := pz_ck 196 17 193 [pz_this] [pz_this] [] && (pz_ck 196 23 194 [.inl (0, 0), pz_this] [pz_this, .inl (0, 0)] [] && (pz_ck 196 28 194 pt_S [pz_this, .inl (44, 0)] [] && (pz_ck 196 62 194 pt_S [pz_this, .inl (44, 0)] [] && (pz_ck 196 73 188 [pz_this] [pz_this] [] && (pz_ck 196 89 188 [pz_this] [pz_this] [] && (pz_ck 196 96 201 [.inl (0, .ofNat (a + 1)), pz_this] [pz_this, .inl (0, .ofNat (a + 1))] [] && pz_ck 196 102 192 [.inl (0, 41), pz_this] [pz_this, .inl (0, 41)] []))))))
theorem pt_kk : ∀ a, a < 7 → pt_k a = true := by decide +kernel
theorem pt_kk2 : ∀ a, a < 7 → pt_k2 a = true := by decide +kernel
theorem pt_kk3 : ∀ a, a < 7 → pt_k3 a = true := by decide +kernel
theorem pt_T_ok : lt_all 41 pt_T := ⟨cp_valueNow, trivial⟩
