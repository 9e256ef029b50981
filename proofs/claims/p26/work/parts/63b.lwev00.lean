/-! THE LAW: what each kind of call comes to (printed by lawq.py) 0 -/
noncomputable def lx_P1 : List (Nat × Nat × Nat) := [(1, 0, 4), (71, 264, 1), (73, 17, 1), (114, 24, 0), (115, 24, 1), (116, 24, 2), (117, 24, 3), (118, 24, 4), (119, 25, 0), (120, 25, 1), (121, 25, 2), (122, 25, 3), (123, 25, 4), (124, 26, 0), (125, 26, 1), (126, 26, 2), (127, 26, 3), (128, 26, 4), (129, 27, 0), (130, 27, 1), (131, 27, 2), (132, 27, 3), (133, 27, 4)]
noncomputable def lx_B1 : Int → List (Int × Int) := fun k => [(ai_lo32, ai_hi32)]
noncomputable def lx_T1_u : List (Nat × us_C) := [(38, cn_rework), (38, cn_rework_o1), (38, cn_rework_o2), (38, cn_rework_o3), (38, cn_rework_o4)]
theorem lx_T1_u_ok : lt_all 60 lx_T1_u := ⟨cp_rework.mono (by decide), cp_rework_o1.mono (by decide), cp_rework_o2.mono (by decide), cp_rework_o3.mono (by decide), cp_rework_o4.mono (by decide), trivial⟩
theorem lx_e1_u0 : (List.range 1).all (fun j => lx_ckU lx_T1_u lx_B1 [24, 25, 26, 27, 266, 267, 268, 269] lx_P1 73 ((0) + Int.ofNat j) 1) = true := by decide +kernel
theorem lx_e1_u1 : (List.range 1).all (fun j => lx_ckU lx_T1_u lx_B1 [24, 25, 26, 27, 266, 267, 268, 269] lx_P1 73 ((1) + Int.ofNat j) 1) = true := by decide +kernel
theorem lx_e1_u2 : (List.range 1).all (fun j => lx_ckU lx_T1_u lx_B1 [24, 25, 26, 27, 266, 267, 268, 269] lx_P1 73 ((2) + Int.ofNat j) 1) = true := by decide +kernel
theorem lx_e1_u3 : (List.range 1).all (fun j => lx_ckU lx_T1_u lx_B1 [24, 25, 26, 27, 266, 267, 268, 269] lx_P1 73 ((3) + Int.ofNat j) 1) = true := by decide +kernel
theorem lx_e1_u4 : (List.range 1).all (fun j => lx_ckU lx_T1_u lx_B1 [24, 25, 26, 27, 266, 267, 268, 269] lx_P1 73 ((4) + Int.ofNat j) 1) = true := by decide +kernel
theorem lx_e1_u5 : (List.range 1).all (fun j => lx_ckU lx_T1_u lx_B1 [24, 25, 26, 27, 266, 267, 268, 269] lx_P1 73 ((5) + Int.ofNat j) 1) = true := by decide +kernel
theorem lx_e1_u : ∀ k : Int, (0) ≤ k → k ≤ (5) → lx_ckU lx_T1_u lx_B1 [24, 25, 26, 27, 266, 267, 268, 269] lx_P1 73 k 1 = true := fun k h1 h2 => by
  by_cases q0 : k ≤ (0)
  · exact lx_each (lo := (0)) (n := 1) (f := fun k => lx_ckU lx_T1_u lx_B1 [24, 25, 26, 27, 266, 267, 268, 269] lx_P1 73 k 1) lx_e1_u0 k (by omega) (by omega)
  by_cases q1 : k ≤ (1)
  · exact lx_each (lo := (1)) (n := 1) (f := fun k => lx_ckU lx_T1_u lx_B1 [24, 25, 26, 27, 266, 267, 268, 269] lx_P1 73 k 1) lx_e1_u1 k (by omega) (by omega)
  by_cases q2 : k ≤ (2)
  · exact lx_each (lo := (2)) (n := 1) (f := fun k => lx_ckU lx_T1_u lx_B1 [24, 25, 26, 27, 266, 267, 268, 269] lx_P1 73 k 1) lx_e1_u2 k (by omega) (by omega)
  by_cases q3 : k ≤ (3)
  · exact lx_each (lo := (3)) (n := 1) (f := fun k => lx_ckU lx_T1_u lx_B1 [24, 25, 26, 27, 266, 267, 268, 269] lx_P1 73 k 1) lx_e1_u3 k (by omega) (by omega)
  by_cases q4 : k ≤ (4)
  · exact lx_each (lo := (4)) (n := 1) (f := fun k => lx_ckU lx_T1_u lx_B1 [24, 25, 26, 27, 266, 267, 268, 269] lx_P1 73 k 1) lx_e1_u4 k (by omega) (by omega)
  exact lx_each (lo := (5)) (n := 1) (f := fun k => lx_ckU lx_T1_u lx_B1 [24, 25, 26, 27, 266, 267, 268, 269] lx_P1 73 k 1) lx_e1_u5 k (by omega) (by omega)
theorem lx_u1 : lx_KU 1 := ⟨lx_B1, [24, 25, 26, 27, 266, 267, 268, 269], lx_P1, 73, (0), (5), by decide +kernel, by decide +kernel, by decide +kernel, fun k h1 h2 => ⟨_, lx_T1_u_ok, lx_e1_u k h1 h2⟩⟩
noncomputable def lx_P7 : List (Nat × Nat × Nat) := [(1, 0, 4), (38, 84, 2), (71, 264, 1), (76, 264, 26)]
noncomputable def lx_T7_u : List (Nat × us_C) := [(140, cn_x_feed), (184, cn_m_feed)]
theorem lx_T7_u_ok : lt_all 60 lx_T7_u := ⟨cp_x_feed.mono (by decide), cp_m_feed.mono (by decide), trivial⟩
theorem lx_e7_u : lx_ckU lx_T7_u bx_0 [] lx_P7 0 0 7 = true := by decide +kernel
theorem lx_u7 : lx_KU 7 := lx_KU0 (by decide +kernel) lx_T7_u_ok lx_e7_u
noncomputable def lx_P9 : List (Nat × Nat × Nat) := [(1, 0, 4), (71, 264, 1)]
noncomputable def lx_T9_u : List (Nat × us_C) := [(142, cn_x_fault), (204, cn_m_fault)]
theorem lx_T9_u_ok : lt_all 60 lx_T9_u := ⟨cp_x_fault.mono (by decide), cp_m_fault.mono (by decide), trivial⟩
theorem lx_e9_u : lx_ckU lx_T9_u bx_0 [] lx_P9 0 0 9 = true := by decide +kernel
theorem lx_u9 : lx_KU 9 := lx_KU0 (by decide +kernel) lx_T9_u_ok lx_e9_u
noncomputable def lx_P10 : List (Nat × Nat × Nat) := [(1, 0, 4), (12, 46, 4), (20, 52, 4), (28, 58, 4), (36, 64, 4), (46, 87, 2), (47, 87, 3), (71, 264, 1)]
noncomputable def lx_T10_u : List (Nat × us_C) := [(143, cn_x_asked), (209, cn_m_asked)]
theorem lx_T10_u_ok : lt_all 60 lx_T10_u := ⟨cp_x_asked.mono (by decide), cp_m_asked.mono (by decide), trivial⟩
theorem lx_e10_u : lx_ckU lx_T10_u bx_0 [] lx_P10 0 0 10 = true := by decide +kernel
theorem lx_u10 : lx_KU 10 := lx_KU0 (by decide +kernel) lx_T10_u_ok lx_e10_u
noncomputable def lx_P11 : List (Nat × Nat × Nat) := [(1, 0, 4), (71, 264, 1), (88, 17, 3), (89, 17, 4), (90, 17, 5)]
noncomputable def lx_T11_u : List (Nat × us_C) := []
theorem lx_T11_u_ok : lt_all 60 lx_T11_u := trivial
theorem lx_e11_u : lx_ckU lx_T11_u bx_0 [] lx_P11 0 0 11 = true := by decide +kernel
theorem lx_u11 : lx_KU 11 := lx_KU0 (by decide +kernel) lx_T11_u_ok lx_e11_u
noncomputable def lx_P12 : List (Nat × Nat × Nat) := [(1, 0, 4), (71, 264, 1)]
noncomputable def lx_T12_u : List (Nat × us_C) := [(145, cn_x_flow), (215, cn_m_flow)]
theorem lx_T12_u_ok : lt_all 60 lx_T12_u := ⟨cp_x_flow.mono (by decide), cp_m_flow.mono (by decide), trivial⟩
theorem lx_e12_u : lx_ckU lx_T12_u bx_0 [] lx_P12 0 0 12 = true := by decide +kernel
theorem lx_u12 : lx_KU 12 := lx_KU0 (by decide +kernel) lx_T12_u_ok lx_e12_u
noncomputable def lx_P13 : List (Nat × Nat × Nat) := [(1, 0, 4), (2, 16, 10), (12, 46, 4), (20, 52, 4), (28, 58, 4), (36, 64, 4), (46, 87, 2), (47, 87, 3), (48, 87, 4), (71, 264, 1), (91, 264, 59), (92, 264, 60), (94, 264, 62), (95, 264, 63)]
noncomputable def lx_T13_0 : List (Nat × us_C) := [(146, cn_x_least), (222, cn_m_least0)]
theorem lx_T13_0_ok : lt_all 60 lx_T13_0 := ⟨cp_x_least.mono (by decide), cp_m_least0.mono (by decide), trivial⟩
theorem lx_e13_0 : lx_ckB lx_T13_0 bx_0 [] lx_P13 0 0 13 0 = true := by decide +kernel
noncomputable def lx_T13_1 : List (Nat × us_C) := [(146, cn_x_least), (222, cn_m_least1)]
theorem lx_T13_1_ok : lt_all 60 lx_T13_1 := ⟨cp_x_least.mono (by decide), cp_m_least1.mono (by decide), trivial⟩
theorem lx_e13_1 : lx_ckB lx_T13_1 bx_0 [] lx_P13 0 0 13 1 = true := by decide +kernel
noncomputable def lx_T13_2 : List (Nat × us_C) := [(146, cn_x_least), (222, cn_m_least2)]
theorem lx_T13_2_ok : lt_all 60 lx_T13_2 := ⟨cp_x_least.mono (by decide), cp_m_least2.mono (by decide), trivial⟩
theorem lx_e13_2 : lx_ckB lx_T13_2 bx_0 [] lx_P13 0 0 13 2 = true := by decide +kernel
noncomputable def lx_T13_3 : List (Nat × us_C) := [(146, cn_x_least), (222, cn_m_least3)]
theorem lx_T13_3_ok : lt_all 60 lx_T13_3 := ⟨cp_x_least.mono (by decide), cp_m_least3.mono (by decide), trivial⟩
theorem lx_e13_3 : lx_ckB lx_T13_3 bx_0 [] lx_P13 0 0 13 3 = true := by decide +kernel
noncomputable def lx_T13_4 : List (Nat × us_C) := [(146, cn_x_least), (222, cn_m_least4)]
theorem lx_T13_4_ok : lt_all 60 lx_T13_4 := ⟨cp_x_least.mono (by decide), cp_m_least4.mono (by decide), trivial⟩
theorem lx_e13_4 : lx_ckB lx_T13_4 bx_0 [] lx_P13 0 0 13 4 = true := by decide +kernel
theorem lx_k13 : ∀ v, v < 5 → lx_KS 13 v := fun v hv => match v, hv with
  | 0, _ => lx_KS0 lx_T13_0_ok lx_e13_0
  | 1, _ => lx_KS0 lx_T13_1_ok lx_e13_1
  | 2, _ => lx_KS0 lx_T13_2_ok lx_e13_2
  | 3, _ => lx_KS0 lx_T13_3_ok lx_e13_3
  | 4, _ => lx_KS0 lx_T13_4_ok lx_e13_4
  | n + 5, h => absurd h (by omega)
noncomputable def lx_P14 : List (Nat × Nat × Nat) := [(1, 0, 4), (71, 264, 1)]
noncomputable def lx_T14_u : List (Nat × us_C) := [(147, cn_x_units), (223, cn_m_units)]
theorem lx_T14_u_ok : lt_all 60 lx_T14_u := ⟨cp_x_units.mono (by decide), cp_m_units.mono (by decide), trivial⟩
theorem lx_e14_u : lx_ckU lx_T14_u bx_0 [] lx_P14 0 0 14 = true := by decide +kernel
theorem lx_u14 : lx_KU 14 := lx_KU0 (by decide +kernel) lx_T14_u_ok lx_e14_u
