/-! THE PARSER: readNot -/
noncomputable def nt_L (a j : Nat) : List ai_V := [pz_this, .inl (0, .ofNat a), .inl (0, .ofNat j), pz_u]
noncomputable def nt_Li (a j i : Nat) : List ai_V := [pz_this, .inl (0, .ofNat a), .inl (0, .ofNat j), .inl (0, .ofNat i)]
noncomputable def nt_us : List ai_V := [pz_u, pz_u, pz_u, pz_u]
noncomputable def nt_S (a : Nat) : List ai_V := [.inl (0, .ofNat a), pz_this]
noncomputable def nt_st : List Nat := [2, 23, 28, 36]
noncomputable def nt_c36 (a j : Nat) (f : ai_F) : Bool := pz_to [] 36 (nt_L a j) (nt_S a) [] f
noncomputable def nt_c2 (a j : Nat) (f : ai_F) : Bool := nt_c36 a j f || (match Nat.beq j 6 with
  | true => pz_to [] 23 nt_us [] [(14, (0, 2)), (15, (12, 0))] f
  | false => pz_to [] 28 (nt_L a (j + 1)) [pz_this] [] f)
noncomputable def nt_k1 (a j : Nat) : Bool :=
  pz_sc [] 199 nt_st true 2 (nt_L a j) [] [] [(14, (1, 3))] (nt_c36 a j) && (pz_sc [] 199 nt_st true 2 (nt_L a j) [] [] [(14, (0, 0)), (9, (0, 0))] (nt_c36 a j) && (pz_sc pz_Tis 199 nt_st true 2 (nt_L a j) [] [] [(14, (0, 0)), (9, (1, 1))] (nt_c2 a j) && (pz_sc [] 199 nt_st true 2 (nt_L a j) [] [] [(14, (0, 0)), (9, (2, 4))] (nt_c36 a j) &&
  (pz_sc [] 199 [2] false 31 (nt_L a (j + 1)) [] [] [] (pz_to [] 2 (nt_L a (j + 1)) [] []) && pz_ck 199 28 188 [pz_this] [pz_this] []))))
noncomputable def nt_c89 (a j : Nat) (f : ai_F) : Bool := pz_to [] 89 (nt_Li a j 0) [] [] f
noncomputable def nt_c39 (a j : Nat) (f : ai_F) : Bool := nt_c89 a j f || (pz_to [] 74 (nt_Li a j 5) [pz_this] [] f || pz_to [] 74 (nt_Li a j 6) [pz_this] [] f)
noncomputable def nt_ko (a j o : Nat) : Bool := pz_sc [] 199 [79] false 77 (nt_Li a j o) [] [] [] (pz_to [] 79 (nt_Li a j o) (nt_S a) []) && (pz_sc [] 199 [84] false 82 (nt_Li a j o) [] [] [] (pz_to [] 84 (nt_Li a j o) (nt_S o) []) && (pz_sc [] 199 [89] false 87 (nt_Li a j o) [] [] [] (nt_c89 a j) && pz_ck 199 84 194 (nt_S o) [pz_this, .inl (0, .ofNat o)] []))
noncomputable def nt_k2 (a j : Nat) : Bool :=
  pz_sc [] 199 [74, 89] false 39 (nt_L a j) [] [] [(14, (1, 3))] (nt_c89 a j) && (pz_sc [] 199 [74, 89] false 39 (nt_L a j) [] [] [(14, (0, 0)), (9, (0, 2))] (nt_c89 a j) && (pz_sc [] 199 [74, 89] false 39 (nt_L a j) [] [] [(14, (0, 0)), (9, (3, 3))] (nt_c39 a j) && (pz_sc [] 199 [74, 89] false 39 (nt_L a j) [] [] [(14, (0, 0)), (9, (4, 4))] (nt_c89 a j) &&
  (pz_ck 199 74 188 [pz_this] [pz_this] [] && (nt_ko a j 5 && (nt_ko a j 6 && (pz_ck 199 36 198 (nt_S a) [pz_this, .inl (0, .ofNat a)] [] && pz_ck 199 79 198 (nt_S a) [pz_this, .inl (0, .ofNat a)] [])))))))
noncomputable def nt_k3 (a j i : Nat) : Bool := match Nat.blt i j with
  | true => pz_sc [] 199 [97, 106] false 89 (nt_Li a j i) [] [] [] (pz_to [] 97 (nt_Li a j i) (nt_S 9) []) && pz_sc [] 199 [89] false 100 (nt_Li a j i) [] [] [] (pz_to [] 89 (nt_Li a j (i + 1)) [] [])
  | false => pz_sc [] 199 [97, 106] false 89 (nt_Li a j i) [] [] [] (pz_to [] 106 nt_us [] [])
theorem nt_kk1 : ∀ a, a < 7 → ∀ j, j < 7 → nt_k1 a j = true := by decide +kernel
theorem nt_kk2 : ∀ a, a < 7 → ∀ j, j < 7 → nt_k2 a j = true := by decide +kernel
theorem nt_kk3 : ∀ a, a < 7 → ∀ j, j < 7 → ∀ i, i < 7 → nt_k3 a j i = true := by decide +kernel
theorem nt_k4 : pz_ck 199 97 194 (nt_S 9) [pz_this, .inl (0, .ofNat 9)] [] = true ∧ (∀ a, a < 7 → pz_sc [] 199 [2] false 0 [pz_this, .inl (0, .ofNat a), pz_u, pz_u] [] [] [] (pz_to [] 2 (nt_L a 0) [] []) = true) := by decide +kernel
