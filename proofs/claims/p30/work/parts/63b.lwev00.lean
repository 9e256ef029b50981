/-! THE LAW: what each kind of call comes to (printed by lawq.py) 0 -/
noncomputable def lx_P7 : List (Nat × Nat × Nat) := [(1, 0, 4), (38, 84, 2), (72, 264, 1), (77, 264, 26)]
noncomputable def lx_T7_u : List (Nat × us_C) := [(140, cn_x_feed), (184, cn_m_feed)]
theorem lx_T7_u_ok : lt_all 60 lx_T7_u := ⟨cp_x_feed.mono (by decide), cp_m_feed.mono (by decide), trivial⟩
theorem lx_e7_u : lx_ckU lx_T7_u bx_0 [] lx_P7 0 0 7 = true := by decide +kernel
theorem lx_u7 : lx_KU 7 := lx_KU0 (by decide +kernel) lx_T7_u_ok lx_e7_u
noncomputable def lx_P9 : List (Nat × Nat × Nat) := [(1, 0, 4), (72, 264, 1)]
noncomputable def lx_T9_u : List (Nat × us_C) := [(142, cn_x_fault), (204, cn_m_fault)]
theorem lx_T9_u_ok : lt_all 60 lx_T9_u := ⟨cp_x_fault.mono (by decide), cp_m_fault.mono (by decide), trivial⟩
theorem lx_e9_u : lx_ckU lx_T9_u bx_0 [] lx_P9 0 0 9 = true := by decide +kernel
theorem lx_u9 : lx_KU 9 := lx_KU0 (by decide +kernel) lx_T9_u_ok lx_e9_u
noncomputable def lx_P10 : List (Nat × Nat × Nat) := [(1, 0, 4), (12, 46, 4), (20, 52, 4), (28, 58, 4), (36, 64, 4), (46, 87, 2), (47, 87, 3), (72, 264, 1)]
noncomputable def lx_T10_u : List (Nat × us_C) := [(143, cn_x_asked), (209, cn_m_asked)]
theorem lx_T10_u_ok : lt_all 60 lx_T10_u := ⟨cp_x_asked.mono (by decide), cp_m_asked.mono (by decide), trivial⟩
theorem lx_e10_u : lx_ckU lx_T10_u bx_0 [] lx_P10 0 0 10 = true := by decide +kernel
theorem lx_u10 : lx_KU 10 := lx_KU0 (by decide +kernel) lx_T10_u_ok lx_e10_u
noncomputable def lx_P11 : List (Nat × Nat × Nat) := [(1, 0, 4), (72, 264, 1), (89, 17, 3), (90, 17, 4), (91, 17, 5)]
noncomputable def lx_T11_u : List (Nat × us_C) := []
theorem lx_T11_u_ok : lt_all 60 lx_T11_u := trivial
theorem lx_e11_u : lx_ckU lx_T11_u bx_0 [] lx_P11 0 0 11 = true := by decide +kernel
theorem lx_u11 : lx_KU 11 := lx_KU0 (by decide +kernel) lx_T11_u_ok lx_e11_u
noncomputable def lx_P12 : List (Nat × Nat × Nat) := [(1, 0, 4), (72, 264, 1)]
noncomputable def lx_T12_u : List (Nat × us_C) := [(145, cn_x_flow), (215, cn_m_flow)]
theorem lx_T12_u_ok : lt_all 60 lx_T12_u := ⟨cp_x_flow.mono (by decide), cp_m_flow.mono (by decide), trivial⟩
theorem lx_e12_u : lx_ckU lx_T12_u bx_0 [] lx_P12 0 0 12 = true := by decide +kernel
theorem lx_u12 : lx_KU 12 := lx_KU0 (by decide +kernel) lx_T12_u_ok lx_e12_u
noncomputable def lx_P13 : List (Nat × Nat × Nat) := [(1, 0, 4), (2, 16, 10), (12, 46, 4), (20, 52, 4), (28, 58, 4), (36, 64, 4), (46, 87, 2), (47, 87, 3), (48, 87, 4), (72, 264, 1), (92, 264, 59), (93, 264, 60), (95, 264, 62), (96, 264, 63)]
noncomputable def lx_T13_0 : List (Nat × us_C) := [(146, cn_x_least), (222, cn_m_least0)]
theorem lx_T13_0_ok : lt_all 60 lx_T13_0 := ⟨cp_x_least.mono (by decide), cp_m_least0.mono (by decide), trivial⟩
theorem lx_e13_0 : lx_ckB lx_T13_0 bx_0 [] lx_P13 0 0 13 0 = true := by decide +kernel
noncomputable def lx_T13_1 : List (Nat × us_C) := [(146, cn_x_least), (222, cn_m_least1)]
theorem lx_T13_1_ok : lt_all 60 lx_T13_1 := ⟨cp_x_least.mono (by decide), cp_m_least1.mono (by decide), trivial⟩
theorem lx_e13_1 : lx_ckB lx_T13_1 bx_0 [] lx_P13 0 0 13 1 = true := by decide +kernel
noncomputable def lx_T13_2 : List (Nat × us_C) := [(146, cn_x_least), (222, cn_m_least2)]
theorem lx_T13_2_ok : lt_all 60 lx_T13_2 := ⟨cp_x_least.mono (by decide), cp_m_least2.mono (by decide), trivial⟩
theorem lx_e13_2 : lx_ckB lx_T13_2 bx_0 [] lx_P13 0 0 13 2 = true := by decide +kernel
noncomputable def lx_T13_3 : List (Nat × us_C) := [(146, cn_x_least), (222, cn_m_least3)]
theorem lx_T13_3_ok : lt_all 60 lx_T13_3 := ⟨cp_x_least.mono (by decide), cp_m_least3.mono (by decide), trivial⟩
theorem lx_e13_3 : lx_ckB lx_T13_3 bx_0 [] lx_P13 0 0 13 3 = true := by decide +kernel
noncomputable def lx_T13_4 : List (Nat × us_C) := [(146, cn_x_least), (222, cn_m_least4)]
theorem lx_T13_4_ok : lt_all 60 lx_T13_4 := ⟨cp_x_least.mono (by decide), cp_m_least4.mono (by decide), trivial⟩
theorem lx_e13_4 : lx_ckB lx_T13_4 bx_0 [] lx_P13 0 0 13 4 = true := by decide +kernel
theorem lx_k13 : ∀ v, v < 5 → lx_KS 13 v := fun v hv => match v, hv with
  | 0, _ => lx_KS0 lx_T13_0_ok lx_e13_0
  | 1, _ => lx_KS0 lx_T13_1_ok lx_e13_1
  | 2, _ => lx_KS0 lx_T13_2_ok lx_e13_2
  | 3, _ => lx_KS0 lx_T13_3_ok lx_e13_3
  | 4, _ => lx_KS0 lx_T13_4_ok lx_e13_4
  | n + 5, h => absurd h (by omega)
noncomputable def lx_P14 : List (Nat × Nat × Nat) := [(1, 0, 4), (72, 264, 1)]
noncomputable def lx_T14_u : List (Nat × us_C) := [(147, cn_x_units), (223, cn_m_units)]
theorem lx_T14_u_ok : lt_all 60 lx_T14_u := ⟨cp_x_units.mono (by decide), cp_m_units.mono (by decide), trivial⟩
theorem lx_e14_u : lx_ckU lx_T14_u bx_0 [] lx_P14 0 0 14 = true := by decide +kernel
theorem lx_u14 : lx_KU 14 := lx_KU0 (by decide +kernel) lx_T14_u_ok lx_e14_u
noncomputable def lx_P15 : List (Nat × Nat × Nat) := [(1, 0, 4), (12, 46, 4), (20, 52, 4), (28, 58, 4), (36, 64, 4), (46, 87, 2), (47, 87, 3), (48, 87, 4), (49, 100, 0), (50, 100, 1), (51, 100, 2), (52, 122, 5), (53, 122, 6), (54, 122, 7), (55, 122, 8), (56, 122, 9), (57, 122, 10), (72, 264, 1), (92, 264, 59), (93, 264, 60), (97, 264, 69), (98, 264, 70), (99, 264, 71), (100, 264, 72)]
noncomputable def lx_T15_0 : List (Nat × us_C) := [(148, cn_x_plan), (228, cn_m_plan0)]
theorem lx_T15_0_ok : lt_all 60 lx_T15_0 := ⟨cp_x_plan.mono (by decide), cp_m_plan0.mono (by decide), trivial⟩
theorem lx_e15_0 : lx_ckB lx_T15_0 bx_0 [] lx_P15 0 0 15 0 = true := by decide +kernel
noncomputable def lx_T15_1 : List (Nat × us_C) := [(148, cn_x_plan), (228, cn_m_plan1)]
theorem lx_T15_1_ok : lt_all 60 lx_T15_1 := ⟨cp_x_plan.mono (by decide), cp_m_plan1.mono (by decide), trivial⟩
theorem lx_e15_1 : lx_ckB lx_T15_1 bx_0 [] lx_P15 0 0 15 1 = true := by decide +kernel
noncomputable def lx_T15_2 : List (Nat × us_C) := [(148, cn_x_plan), (228, cn_m_plan2)]
theorem lx_T15_2_ok : lt_all 60 lx_T15_2 := ⟨cp_x_plan.mono (by decide), cp_m_plan2.mono (by decide), trivial⟩
theorem lx_e15_2 : lx_ckB lx_T15_2 bx_0 [] lx_P15 0 0 15 2 = true := by decide +kernel
noncomputable def lx_T15_3 : List (Nat × us_C) := [(148, cn_x_plan), (228, cn_m_plan3)]
theorem lx_T15_3_ok : lt_all 60 lx_T15_3 := ⟨cp_x_plan.mono (by decide), cp_m_plan3.mono (by decide), trivial⟩
theorem lx_e15_3 : lx_ckB lx_T15_3 bx_0 [] lx_P15 0 0 15 3 = true := by decide +kernel
noncomputable def lx_T15_4 : List (Nat × us_C) := [(148, cn_x_plan), (228, cn_m_plan4)]
theorem lx_T15_4_ok : lt_all 60 lx_T15_4 := ⟨cp_x_plan.mono (by decide), cp_m_plan4.mono (by decide), trivial⟩
theorem lx_e15_4 : lx_ckB lx_T15_4 bx_0 [] lx_P15 0 0 15 4 = true := by decide +kernel
theorem lx_k15 : ∀ v, v < 5 → lx_KS 15 v := fun v hv => match v, hv with
  | 0, _ => lx_KS0 lx_T15_0_ok lx_e15_0
  | 1, _ => lx_KS0 lx_T15_1_ok lx_e15_1
  | 2, _ => lx_KS0 lx_T15_2_ok lx_e15_2
  | 3, _ => lx_KS0 lx_T15_3_ok lx_e15_3
  | 4, _ => lx_KS0 lx_T15_4_ok lx_e15_4
  | n + 5, h => absurd h (by omega)
