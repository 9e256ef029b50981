/-! THE LAW: what each kind of call comes to (printed by lawq.py) 0 -/
noncomputable def lx_P1 : List (Nat × Nat × Nat) := [(1, 0, 4), (70, 264, 1), (72, 17, 1), (113, 24, 0), (114, 24, 1), (115, 24, 2), (116, 24, 3), (117, 24, 4), (118, 25, 0), (119, 25, 1), (120, 25, 2), (121, 25, 3), (122, 25, 4), (123, 26, 0), (124, 26, 1), (125, 26, 2), (126, 26, 3), (127, 26, 4), (128, 27, 0), (129, 27, 1), (130, 27, 2), (131, 27, 3), (132, 27, 4)]
noncomputable def lx_B1 : Int → List (Int × Int) := fun k => [(ai_lo32, ai_hi32)]
noncomputable def lx_T1_u : List (Nat × us_C) := [(38, cn_rework), (38, cn_rework_o1), (38, cn_rework_o2), (38, cn_rework_o3), (38, cn_rework_o4)]
theorem lx_T1_u_ok : lt_all 60 lx_T1_u := ⟨cp_rework.mono (by decide), cp_rework_o1.mono (by decide), cp_rework_o2.mono (by decide), cp_rework_o3.mono (by decide), cp_rework_o4.mono (by decide), trivial⟩
theorem lx_e1_u0 : (List.range 1).all (fun j => lx_ckU lx_T1_u lx_B1 [24, 25, 26, 27, 266, 267, 268, 269] lx_P1 72 ((0) + Int.ofNat j) 1) = true := by decide +kernel
theorem lx_e1_u1 : (List.range 1).all (fun j => lx_ckU lx_T1_u lx_B1 [24, 25, 26, 27, 266, 267, 268, 269] lx_P1 72 ((1) + Int.ofNat j) 1) = true := by decide +kernel
theorem lx_e1_u2 : (List.range 1).all (fun j => lx_ckU lx_T1_u lx_B1 [24, 25, 26, 27, 266, 267, 268, 269] lx_P1 72 ((2) + Int.ofNat j) 1) = true := by decide +kernel
theorem lx_e1_u3 : (List.range 1).all (fun j => lx_ckU lx_T1_u lx_B1 [24, 25, 26, 27, 266, 267, 268, 269] lx_P1 72 ((3) + Int.ofNat j) 1) = true := by decide +kernel
theorem lx_e1_u4 : (List.range 1).all (fun j => lx_ckU lx_T1_u lx_B1 [24, 25, 26, 27, 266, 267, 268, 269] lx_P1 72 ((4) + Int.ofNat j) 1) = true := by decide +kernel
theorem lx_e1_u5 : (List.range 1).all (fun j => lx_ckU lx_T1_u lx_B1 [24, 25, 26, 27, 266, 267, 268, 269] lx_P1 72 ((5) + Int.ofNat j) 1) = true := by decide +kernel
theorem lx_e1_u : ∀ k : Int, (0) ≤ k → k ≤ (5) → lx_ckU lx_T1_u lx_B1 [24, 25, 26, 27, 266, 267, 268, 269] lx_P1 72 k 1 = true := fun k h1 h2 => by
  by_cases q0 : k ≤ (0)
  · exact lx_each (lo := (0)) (n := 1) (f := fun k => lx_ckU lx_T1_u lx_B1 [24, 25, 26, 27, 266, 267, 268, 269] lx_P1 72 k 1) lx_e1_u0 k (by omega) (by omega)
  by_cases q1 : k ≤ (1)
  · exact lx_each (lo := (1)) (n := 1) (f := fun k => lx_ckU lx_T1_u lx_B1 [24, 25, 26, 27, 266, 267, 268, 269] lx_P1 72 k 1) lx_e1_u1 k (by omega) (by omega)
  by_cases q2 : k ≤ (2)
  · exact lx_each (lo := (2)) (n := 1) (f := fun k => lx_ckU lx_T1_u lx_B1 [24, 25, 26, 27, 266, 267, 268, 269] lx_P1 72 k 1) lx_e1_u2 k (by omega) (by omega)
  by_cases q3 : k ≤ (3)
  · exact lx_each (lo := (3)) (n := 1) (f := fun k => lx_ckU lx_T1_u lx_B1 [24, 25, 26, 27, 266, 267, 268, 269] lx_P1 72 k 1) lx_e1_u3 k (by omega) (by omega)
  by_cases q4 : k ≤ (4)
  · exact lx_each (lo := (4)) (n := 1) (f := fun k => lx_ckU lx_T1_u lx_B1 [24, 25, 26, 27, 266, 267, 268, 269] lx_P1 72 k 1) lx_e1_u4 k (by omega) (by omega)
  exact lx_each (lo := (5)) (n := 1) (f := fun k => lx_ckU lx_T1_u lx_B1 [24, 25, 26, 27, 266, 267, 268, 269] lx_P1 72 k 1) lx_e1_u5 k (by omega) (by omega)
theorem lx_u1 : lx_KU 1 := ⟨lx_B1, [24, 25, 26, 27, 266, 267, 268, 269], lx_P1, 72, (0), (5), by decide +kernel, by decide +kernel, by decide +kernel, fun k h1 h2 => ⟨_, lx_T1_u_ok, lx_e1_u k h1 h2⟩⟩
noncomputable def lx_P9 : List (Nat × Nat × Nat) := [(1, 0, 4), (70, 264, 1)]
noncomputable def lx_T9_u : List (Nat × us_C) := []
theorem lx_T9_u_ok : lt_all 60 lx_T9_u := trivial
theorem lx_e9_u : lx_ckU lx_T9_u bx_0 [] lx_P9 0 0 9 = true := by decide +kernel
theorem lx_u9 : lx_KU 9 := lx_KU0 (by decide +kernel) lx_T9_u_ok lx_e9_u
noncomputable def lx_P11 : List (Nat × Nat × Nat) := [(1, 0, 4), (70, 264, 1), (87, 17, 3), (88, 17, 4), (89, 17, 5)]
noncomputable def lx_T11_u : List (Nat × us_C) := []
theorem lx_T11_u_ok : lt_all 60 lx_T11_u := trivial
theorem lx_e11_u : lx_ckU lx_T11_u bx_0 [] lx_P11 0 0 11 = true := by decide +kernel
theorem lx_u11 : lx_KU 11 := lx_KU0 (by decide +kernel) lx_T11_u_ok lx_e11_u
noncomputable def lx_P12 : List (Nat × Nat × Nat) := [(1, 0, 4), (70, 264, 1)]
noncomputable def lx_T12_u : List (Nat × us_C) := [(145, cn_x_flow), (215, cn_m_flow)]
theorem lx_T12_u_ok : lt_all 60 lx_T12_u := ⟨cp_x_flow.mono (by decide), cp_m_flow.mono (by decide), trivial⟩
theorem lx_e12_u : lx_ckU lx_T12_u bx_0 [] lx_P12 0 0 12 = true := by decide +kernel
theorem lx_u12 : lx_KU 12 := lx_KU0 (by decide +kernel) lx_T12_u_ok lx_e12_u
noncomputable def lx_P13 : List (Nat × Nat × Nat) := [(1, 0, 4), (2, 16, 10), (12, 46, 4), (20, 52, 4), (28, 58, 4), (36, 64, 4), (44, 87, 2), (45, 87, 3), (46, 87, 4), (70, 264, 1), (90, 264, 59), (91, 264, 60), (93, 264, 62), (94, 264, 63)]
noncomputable def lx_T13_0 : List (Nat × us_C) := [(146, cn_x_least), (222, cn_m_least0)]
theorem lx_T13_0_ok : lt_all 60 lx_T13_0 := ⟨cp_x_least.mono (by decide), cp_m_least0.mono (by decide), trivial⟩
theorem lx_e13_0 : lx_ckB lx_T13_0 bx_0 [] lx_P13 0 0 13 0 = true := by decide +kernel
noncomputable def lx_T13_1 : List (Nat × us_C) := [(146, cn_x_least), (222, cn_m_least1)]
theorem lx_T13_1_ok : lt_all 60 lx_T13_1 := ⟨cp_x_least.mono (by decide), cp_m_least1.mono (by decide), trivial⟩
theorem lx_e13_1 : lx_ckB lx_T13_1 bx_0 [] lx_P13 0 0 13 1 = true := by decide +kernel
noncomputable def lx_T13_2 : List (Nat × us_C) := [(146, cn_x_least), (222, cn_m_least2)]
theorem lx_T13_2_ok : lt_all 60 lx_T13_2 := ⟨cp_x_least.mono (by decide), cp_m_least2.mono (by decide), trivial⟩
theorem lx_e13_2 : lx_ckB lx_T13_2 bx_0 [] lx_P13 0 0 13 2 = true := by decide +kernel
noncomputable def lx_T13_3 : List (Nat × us_C) := [(146, cn_x_least), (222, cn_m_least3)]
theorem lx_T13_3_ok : lt_all 60 lx_T13_3 := ⟨cp_x_least.mono (by decide), cp_m_least3.mono (by decide), trivial⟩
theorem lx_e13_3 : lx_ckB lx_T13_3 bx_0 [] lx_P13 0 0 13 3 = true := by decide +kernel
noncomputable def lx_T13_4 : List (Nat × us_C) := [(146, cn_x_least), (222, cn_m_least4)]
theorem lx_T13_4_ok : lt_all 60 lx_T13_4 := ⟨cp_x_least.mono (by decide), cp_m_least4.mono (by decide), trivial⟩
theorem lx_e13_4 : lx_ckB lx_T13_4 bx_0 [] lx_P13 0 0 13 4 = true := by decide +kernel
theorem lx_k13 : ∀ v, v < 5 → lx_KS 13 v := fun v hv => match v, hv with
  | 0, _ => lx_KS0 lx_T13_0_ok lx_e13_0
  | 1, _ => lx_KS0 lx_T13_1_ok lx_e13_1
  | 2, _ => lx_KS0 lx_T13_2_ok lx_e13_2
  | 3, _ => lx_KS0 lx_T13_3_ok lx_e13_3
  | 4, _ => lx_KS0 lx_T13_4_ok lx_e13_4
  | n + 5, h => absurd h (by omega)
noncomputable def lx_P14 : List (Nat × Nat × Nat) := [(1, 0, 4), (70, 264, 1)]
noncomputable def lx_T14_u : List (Nat × us_C) := [(147, cn_x_units), (223, cn_m_units)]
theorem lx_T14_u_ok : lt_all 60 lx_T14_u := ⟨cp_x_units.mono (by decide), cp_m_units.mono (by decide), trivial⟩
theorem lx_e14_u : lx_ckU lx_T14_u bx_0 [] lx_P14 0 0 14 = true := by decide +kernel
theorem lx_u14 : lx_KU 14 := lx_KU0 (by decide +kernel) lx_T14_u_ok lx_e14_u
noncomputable def lx_P15 : List (Nat × Nat × Nat) := [(1, 0, 4), (12, 46, 4), (20, 52, 4), (28, 58, 4), (36, 64, 4), (44, 87, 2), (45, 87, 3), (46, 87, 4), (47, 100, 0), (48, 100, 1), (49, 100, 2), (50, 122, 5), (51, 122, 6), (52, 122, 7), (53, 122, 8), (54, 122, 9), (55, 122, 10), (70, 264, 1), (90, 264, 59), (91, 264, 60), (95, 264, 69), (96, 264, 70), (97, 264, 71), (98, 264, 72)]
noncomputable def lx_T15_0 : List (Nat × us_C) := [(148, cn_x_plan), (228, cn_m_plan0)]
theorem lx_T15_0_ok : lt_all 60 lx_T15_0 := ⟨cp_x_plan.mono (by decide), cp_m_plan0.mono (by decide), trivial⟩
theorem lx_e15_0 : lx_ckB lx_T15_0 bx_0 [] lx_P15 0 0 15 0 = true := by decide +kernel
noncomputable def lx_T15_1 : List (Nat × us_C) := [(148, cn_x_plan), (228, cn_m_plan1)]
theorem lx_T15_1_ok : lt_all 60 lx_T15_1 := ⟨cp_x_plan.mono (by decide), cp_m_plan1.mono (by decide), trivial⟩
theorem lx_e15_1 : lx_ckB lx_T15_1 bx_0 [] lx_P15 0 0 15 1 = true := by decide +kernel
noncomputable def lx_T15_2 : List (Nat × us_C) := [(148, cn_x_plan), (228, cn_m_plan2)]
theorem lx_T15_2_ok : lt_all 60 lx_T15_2 := ⟨cp_x_plan.mono (by decide), cp_m_plan2.mono (by decide), trivial⟩
theorem lx_e15_2 : lx_ckB lx_T15_2 bx_0 [] lx_P15 0 0 15 2 = true := by decide +kernel
noncomputable def lx_T15_3 : List (Nat × us_C) := [(148, cn_x_plan), (228, cn_m_plan3)]
theorem lx_T15_3_ok : lt_all 60 lx_T15_3 := ⟨cp_x_plan.mono (by decide), cp_m_plan3.mono (by decide), trivial⟩
theorem lx_e15_3 : lx_ckB lx_T15_3 bx_0 [] lx_P15 0 0 15 3 = true := by decide +kernel
noncomputable def lx_T15_4 : List (Nat × us_C) := [(148, cn_x_plan), (228, cn_m_plan4)]
theorem lx_T15_4_ok : lt_all 60 lx_T15_4 := ⟨cp_x_plan.mono (by decide), cp_m_plan4.mono (by decide), trivial⟩
theorem lx_e15_4 : lx_ckB lx_T15_4 bx_0 [] lx_P15 0 0 15 4 = true := by decide +kernel
theorem lx_k15 : ∀ v, v < 5 → lx_KS 15 v := fun v hv => match v, hv with
  | 0, _ => lx_KS0 lx_T15_0_ok lx_e15_0
  | 1, _ => lx_KS0 lx_T15_1_ok lx_e15_1
  | 2, _ => lx_KS0 lx_T15_2_ok lx_e15_2
  | 3, _ => lx_KS0 lx_T15_3_ok lx_e15_3
  | 4, _ => lx_KS0 lx_T15_4_ok lx_e15_4
  | n + 5, h => absurd h (by omega)
