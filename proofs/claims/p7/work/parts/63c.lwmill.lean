/-! THE LAW: mill (printed by lawq.py) -/
noncomputable def lx_P2 : List (Nat × Nat × Nat) := [(1, 0, 4), (7, 17, 2), (11, 44, 0), (12, 44, 1), (13, 44, 2), (14, 44, 3), (15, 44, 4), (16, 44, 5), (17, 44, 6), (18, 44, 7), (19, 44, 8), (20, 44, 9), (21, 44, 10), (26, 50, 0), (27, 50, 1), (28, 50, 2), (29, 50, 3), (30, 50, 4), (31, 50, 5), (32, 50, 6), (33, 50, 7), (34, 50, 8), (35, 50, 9), (36, 50, 10), (41, 56, 0), (42, 56, 1), (43, 56, 2), (44, 56, 3), (45, 56, 4), (46, 56, 5), (47, 56, 6), (48, 56, 7), (49, 56, 8), (50, 56, 9), (51, 56, 10), (56, 62, 0), (57, 62, 1), (58, 62, 2), (59, 62, 3), (60, 62, 4), (61, 62, 5), (62, 62, 6), (63, 62, 7), (64, 62, 8), (65, 62, 9), (66, 62, 10), (106, 264, 1), (109, 264, 4), (149, 271, 0), (150, 271, 1), (151, 271, 2), (152, 271, 3), (153, 275, 0), (154, 275, 1), (155, 275, 2), (156, 275, 3)]
noncomputable def lx_Tm0_0 : List (Nat × us_C) := [(135, cn_x_mill), (177, cn_m_milln0_0)]
theorem lx_Tm0_0_ok : lt_all 60 lx_Tm0_0 := ⟨cp_x_mill.mono (by decide), cp_m_milln0_0.mono (by decide), trivial⟩
theorem lx_m0_0 : lx_mkS lx_Tm0_0 bx_0 [271, 275] lx_P2 0 0 = true := by decide +kernel
noncomputable def lx_Tm1_0 : List (Nat × us_C) := [(135, cn_x_mill), (177, cn_m_milln1_0)]
theorem lx_Tm1_0_ok : lt_all 60 lx_Tm1_0 := ⟨cp_x_mill.mono (by decide), cp_m_milln1_0.mono (by decide), trivial⟩
theorem lx_m1_0 : lx_mkS lx_Tm1_0 bx_0 [271, 275] lx_P2 1 0 = true := by decide +kernel
noncomputable def lx_Tm1_1 : List (Nat × us_C) := [(135, cn_x_mill), (177, cn_m_milln1_1)]
theorem lx_Tm1_1_ok : lt_all 60 lx_Tm1_1 := ⟨cp_x_mill.mono (by decide), cp_m_milln1_1.mono (by decide), trivial⟩
theorem lx_m1_1 : lx_mkS lx_Tm1_1 bx_0 [271, 275] lx_P2 1 1 = true := by decide +kernel
noncomputable def lx_Tm2_0 : List (Nat × us_C) := [(135, cn_x_mill), (177, cn_m_milln2_0)]
theorem lx_Tm2_0_ok : lt_all 60 lx_Tm2_0 := ⟨cp_x_mill.mono (by decide), cp_m_milln2_0.mono (by decide), trivial⟩
theorem lx_m2_0 : lx_mkS lx_Tm2_0 bx_0 [271, 275] lx_P2 2 0 = true := by decide +kernel
noncomputable def lx_Tm2_1 : List (Nat × us_C) := [(135, cn_x_mill), (177, cn_m_milln2_1)]
theorem lx_Tm2_1_ok : lt_all 60 lx_Tm2_1 := ⟨cp_x_mill.mono (by decide), cp_m_milln2_1.mono (by decide), trivial⟩
theorem lx_m2_1 : lx_mkS lx_Tm2_1 bx_0 [271, 275] lx_P2 2 1 = true := by decide +kernel
noncomputable def lx_Tm2_2 : List (Nat × us_C) := [(135, cn_x_mill), (177, cn_m_milln2_2)]
theorem lx_Tm2_2_ok : lt_all 60 lx_Tm2_2 := ⟨cp_x_mill.mono (by decide), cp_m_milln2_2.mono (by decide), trivial⟩
theorem lx_m2_2 : lx_mkS lx_Tm2_2 bx_0 [271, 275] lx_P2 2 2 = true := by decide +kernel
noncomputable def lx_Tm3_0 : List (Nat × us_C) := [(135, cn_x_mill), (177, cn_m_milln3_0)]
theorem lx_Tm3_0_ok : lt_all 60 lx_Tm3_0 := ⟨cp_x_mill.mono (by decide), cp_m_milln3_0.mono (by decide), trivial⟩
theorem lx_m3_0 : lx_mkS lx_Tm3_0 bx_0 [271, 275] lx_P2 3 0 = true := by decide +kernel
noncomputable def lx_Tm3_1 : List (Nat × us_C) := [(135, cn_x_mill), (177, cn_m_milln3_1)]
theorem lx_Tm3_1_ok : lt_all 60 lx_Tm3_1 := ⟨cp_x_mill.mono (by decide), cp_m_milln3_1.mono (by decide), trivial⟩
theorem lx_m3_1 : lx_mkS lx_Tm3_1 bx_0 [271, 275] lx_P2 3 1 = true := by decide +kernel
noncomputable def lx_Tm3_2 : List (Nat × us_C) := [(135, cn_x_mill), (177, cn_m_milln3_2)]
theorem lx_Tm3_2_ok : lt_all 60 lx_Tm3_2 := ⟨cp_x_mill.mono (by decide), cp_m_milln3_2.mono (by decide), trivial⟩
theorem lx_m3_2 : lx_mkS lx_Tm3_2 bx_0 [271, 275] lx_P2 3 2 = true := by decide +kernel
noncomputable def lx_Tm3_3 : List (Nat × us_C) := [(135, cn_x_mill), (177, cn_m_milln3_3)]
theorem lx_Tm3_3_ok : lt_all 60 lx_Tm3_3 := ⟨cp_x_mill.mono (by decide), cp_m_milln3_3.mono (by decide), trivial⟩
theorem lx_m3_3 : lx_mkS lx_Tm3_3 bx_0 [271, 275] lx_P2 3 3 = true := by decide +kernel
noncomputable def lx_Tm4_0 : List (Nat × us_C) := [(135, cn_x_mill), (177, cn_m_milln4_0)]
theorem lx_Tm4_0_ok : lt_all 60 lx_Tm4_0 := ⟨cp_x_mill.mono (by decide), cp_m_milln4_0.mono (by decide), trivial⟩
theorem lx_m4_0 : lx_mkS lx_Tm4_0 bx_0 [271, 275] lx_P2 4 0 = true := by decide +kernel
noncomputable def lx_Tm4_1 : List (Nat × us_C) := [(135, cn_x_mill), (177, cn_m_milln4_1)]
theorem lx_Tm4_1_ok : lt_all 60 lx_Tm4_1 := ⟨cp_x_mill.mono (by decide), cp_m_milln4_1.mono (by decide), trivial⟩
theorem lx_m4_1 : lx_mkS lx_Tm4_1 bx_0 [271, 275] lx_P2 4 1 = true := by decide +kernel
noncomputable def lx_Tm4_2 : List (Nat × us_C) := [(135, cn_x_mill), (177, cn_m_milln4_2)]
theorem lx_Tm4_2_ok : lt_all 60 lx_Tm4_2 := ⟨cp_x_mill.mono (by decide), cp_m_milln4_2.mono (by decide), trivial⟩
theorem lx_m4_2 : lx_mkS lx_Tm4_2 bx_0 [271, 275] lx_P2 4 2 = true := by decide +kernel
noncomputable def lx_Tm4_3 : List (Nat × us_C) := [(135, cn_x_mill), (177, cn_m_milln4_3)]
theorem lx_Tm4_3_ok : lt_all 60 lx_Tm4_3 := ⟨cp_x_mill.mono (by decide), cp_m_milln4_3.mono (by decide), trivial⟩
theorem lx_m4_3 : lx_mkS lx_Tm4_3 bx_0 [271, 275] lx_P2 4 3 = true := by decide +kernel
noncomputable def lx_Tm4_4 : List (Nat × us_C) := [(135, cn_x_mill), (177, cn_m_milln4_4)]
theorem lx_Tm4_4_ok : lt_all 60 lx_Tm4_4 := ⟨cp_x_mill.mono (by decide), cp_m_milln4_4.mono (by decide), trivial⟩
theorem lx_m4_4 : lx_mkS lx_Tm4_4 bx_0 [271, 275] lx_P2 4 4 = true := by decide +kernel
theorem lx_mills : ∀ k v, v ≤ k → k ≤ 4 → lx_MKS k v := fun k v h1 h2 => match k, v with
  | 0, 0 => ⟨_, _, _, _, lx_Tm0_0_ok, lx_m0_0⟩
  | 1, 0 => ⟨_, _, _, _, lx_Tm1_0_ok, lx_m1_0⟩
  | 1, 1 => ⟨_, _, _, _, lx_Tm1_1_ok, lx_m1_1⟩
  | 2, 0 => ⟨_, _, _, _, lx_Tm2_0_ok, lx_m2_0⟩
  | 2, 1 => ⟨_, _, _, _, lx_Tm2_1_ok, lx_m2_1⟩
  | 2, 2 => ⟨_, _, _, _, lx_Tm2_2_ok, lx_m2_2⟩
  | 3, 0 => ⟨_, _, _, _, lx_Tm3_0_ok, lx_m3_0⟩
  | 3, 1 => ⟨_, _, _, _, lx_Tm3_1_ok, lx_m3_1⟩
  | 3, 2 => ⟨_, _, _, _, lx_Tm3_2_ok, lx_m3_2⟩
  | 3, 3 => ⟨_, _, _, _, lx_Tm3_3_ok, lx_m3_3⟩
  | 4, 0 => ⟨_, _, _, _, lx_Tm4_0_ok, lx_m4_0⟩
  | 4, 1 => ⟨_, _, _, _, lx_Tm4_1_ok, lx_m4_1⟩
  | 4, 2 => ⟨_, _, _, _, lx_Tm4_2_ok, lx_m4_2⟩
  | 4, 3 => ⟨_, _, _, _, lx_Tm4_3_ok, lx_m4_3⟩
  | 4, 4 => ⟨_, _, _, _, lx_Tm4_4_ok, lx_m4_4⟩
  | 0, n + 1 => absurd h1 (by omega)
  | 1, n + 2 => absurd h1 (by omega)
  | 2, n + 3 => absurd h1 (by omega)
  | 3, n + 4 => absurd h1 (by omega)
  | 4, n + 5 => absurd h1 (by omega)
  | n + 5, _ => absurd h2 (by omega)
