/-! THE LAW: what each kind of call comes to (printed by lawq.py) 0 -/
noncomputable def lx_P0 : List (Nat × Nat × Nat) := [(1, 0, 4), (100, 264, 1), (101, 17, 0)]
noncomputable def lx_T0_u : List (Nat × us_C) := [(38, cn_rework)]
theorem lx_T0_u_ok : lt_all 60 lx_T0_u := ⟨cp_rework.mono (by decide), trivial⟩
theorem lx_e0_u : lx_ckU lx_T0_u bx_0 [] lx_P0 0 0 0 = true := by decide +kernel
theorem lx_u0 : lx_KU 0 := lx_KU0 (by decide +kernel) lx_T0_u_ok lx_e0_u
noncomputable def lx_P1 : List (Nat × Nat × Nat) := [(1, 0, 4), (5, 17, 1), (100, 264, 1), (102, 264, 3)]
noncomputable def lx_T1_u : List (Nat × us_C) := [(134, cn_x_line), (175, cn_m_line)]
theorem lx_T1_u_ok : lt_all 60 lx_T1_u := ⟨cp_x_line.mono (by decide), cp_m_line.mono (by decide), trivial⟩
theorem lx_e1_u : lx_ckU lx_T1_u bx_0 [] lx_P1 0 0 1 = true := by decide +kernel
theorem lx_u1 : lx_KU 1 := lx_KU0 (by decide +kernel) lx_T1_u_ok lx_e1_u
noncomputable def lx_P7 : List (Nat × Nat × Nat) := [(1, 0, 4), (66, 84, 2), (100, 264, 1), (105, 264, 26)]
noncomputable def lx_T7_u : List (Nat × us_C) := [(140, cn_x_feed), (184, cn_m_feed)]
theorem lx_T7_u_ok : lt_all 60 lx_T7_u := ⟨cp_x_feed.mono (by decide), cp_m_feed.mono (by decide), trivial⟩
theorem lx_e7_u : lx_ckU lx_T7_u bx_0 [] lx_P7 0 0 7 = true := by decide +kernel
theorem lx_u7 : lx_KU 7 := lx_KU0 (by decide +kernel) lx_T7_u_ok lx_e7_u
noncomputable def lx_P9 : List (Nat × Nat × Nat) := [(1, 0, 4), (100, 264, 1)]
noncomputable def lx_T9_u : List (Nat × us_C) := [(142, cn_x_fault), (204, cn_m_fault)]
theorem lx_T9_u_ok : lt_all 60 lx_T9_u := ⟨cp_x_fault.mono (by decide), cp_m_fault.mono (by decide), trivial⟩
theorem lx_e9_u : lx_ckU lx_T9_u bx_0 [] lx_P9 0 0 9 = true := by decide +kernel
theorem lx_u9 : lx_KU 9 := lx_KU0 (by decide +kernel) lx_T9_u_ok lx_e9_u
noncomputable def lx_P10 : List (Nat × Nat × Nat) := [(1, 0, 4), (22, 46, 4), (36, 52, 4), (50, 58, 4), (64, 64, 4), (74, 87, 2), (75, 87, 3), (100, 264, 1)]
noncomputable def lx_T10_u : List (Nat × us_C) := [(143, cn_x_asked), (209, cn_m_asked)]
theorem lx_T10_u_ok : lt_all 60 lx_T10_u := ⟨cp_x_asked.mono (by decide), cp_m_asked.mono (by decide), trivial⟩
theorem lx_e10_u : lx_ckU lx_T10_u bx_0 [] lx_P10 0 0 10 = true := by decide +kernel
theorem lx_u10 : lx_KU 10 := lx_KU0 (by decide +kernel) lx_T10_u_ok lx_e10_u
noncomputable def lx_P11 : List (Nat × Nat × Nat) := [(1, 0, 4), (6, 17, 3), (7, 17, 4), (8, 17, 5), (100, 264, 1), (117, 264, 46), (118, 264, 47), (119, 264, 48)]
noncomputable def lx_T11_u : List (Nat × us_C) := [(144, cn_x_rules), (210, cn_m_rules)]
theorem lx_T11_u_ok : lt_all 60 lx_T11_u := ⟨cp_x_rules.mono (by decide), cp_m_rules.mono (by decide), trivial⟩
theorem lx_e11_u : lx_ckU lx_T11_u bx_0 [] lx_P11 0 0 11 = true := by decide +kernel
theorem lx_u11 : lx_KU 11 := lx_KU0 (by decide +kernel) lx_T11_u_ok lx_e11_u
noncomputable def lx_P12 : List (Nat × Nat × Nat) := [(1, 0, 4), (100, 264, 1)]
noncomputable def lx_T12_u : List (Nat × us_C) := [(145, cn_x_flow), (215, cn_m_flow)]
theorem lx_T12_u_ok : lt_all 60 lx_T12_u := ⟨cp_x_flow.mono (by decide), cp_m_flow.mono (by decide), trivial⟩
theorem lx_e12_u : lx_ckU lx_T12_u bx_0 [] lx_P12 0 0 12 = true := by decide +kernel
theorem lx_u12 : lx_KU 12 := lx_KU0 (by decide +kernel) lx_T12_u_ok lx_e12_u
noncomputable def lx_P13 : List (Nat × Nat × Nat) := [(1, 0, 4), (2, 16, 10), (22, 46, 4), (36, 52, 4), (50, 58, 4), (64, 64, 4), (74, 87, 2), (75, 87, 3), (76, 87, 4), (100, 264, 1), (120, 264, 59), (121, 264, 60), (123, 264, 62), (124, 264, 63)]
noncomputable def lx_T13_0 : List (Nat × us_C) := [(146, cn_x_least), (222, cn_m_least0)]
theorem lx_T13_0_ok : lt_all 60 lx_T13_0 := ⟨cp_x_least.mono (by decide), cp_m_least0.mono (by decide), trivial⟩
theorem lx_e13_0 : lx_ckB lx_T13_0 bx_0 [] lx_P13 0 0 13 0 = true := by decide +kernel
noncomputable def lx_T13_1 : List (Nat × us_C) := [(146, cn_x_least), (222, cn_m_least1)]
theorem lx_T13_1_ok : lt_all 60 lx_T13_1 := ⟨cp_x_least.mono (by decide), cp_m_least1.mono (by decide), trivial⟩
theorem lx_e13_1 : lx_ckB lx_T13_1 bx_0 [] lx_P13 0 0 13 1 = true := by decide +kernel
noncomputable def lx_T13_2 : List (Nat × us_C) := [(146, cn_x_least), (222, cn_m_least2)]
theorem lx_T13_2_ok : lt_all 60 lx_T13_2 := ⟨cp_x_least.mono (by decide), cp_m_least2.mono (by decide), trivial⟩
theorem lx_e13_2 : lx_ckB lx_T13_2 bx_0 [] lx_P13 0 0 13 2 = true := by decide +kernel
noncomputable def lx_T13_3 : List (Nat × us_C) := [(146, cn_x_least), (222, cn_m_least3)]
theorem lx_T13_3_ok : lt_all 60 lx_T13_3 := ⟨cp_x_least.mono (by decide), cp_m_least3.mono (by decide), trivial⟩
theorem lx_e13_3 : lx_ckB lx_T13_3 bx_0 [] lx_P13 0 0 13 3 = true := by decide +kernel
noncomputable def lx_T13_4 : List (Nat × us_C) := [(146, cn_x_least), (222, cn_m_least4)]
theorem lx_T13_4_ok : lt_all 60 lx_T13_4 := ⟨cp_x_least.mono (by decide), cp_m_least4.mono (by decide), trivial⟩
theorem lx_e13_4 : lx_ckB lx_T13_4 bx_0 [] lx_P13 0 0 13 4 = true := by decide +kernel
theorem lx_k13 : ∀ v, v < 5 → lx_KS 13 v := fun v hv => match v, hv with
  | 0, _ => lx_KS0 lx_T13_0_ok lx_e13_0
  | 1, _ => lx_KS0 lx_T13_1_ok lx_e13_1
  | 2, _ => lx_KS0 lx_T13_2_ok lx_e13_2
  | 3, _ => lx_KS0 lx_T13_3_ok lx_e13_3
  | 4, _ => lx_KS0 lx_T13_4_ok lx_e13_4
  | n + 5, h => absurd h (by omega)
