/-! THE LAW: what each kind of call comes to (printed by lawq.py) 0 -/
noncomputable def lx_P0 : List (Nat × Nat × Nat) := [(1, 0, 4), (99, 264, 1), (100, 17, 0)]
noncomputable def lx_T0_u : List (Nat × us_C) := [(38, cn_rework)]
theorem lx_T0_u_ok : lt_all 60 lx_T0_u := ⟨cp_rework.mono (by decide), trivial⟩
theorem lx_e0_u : lx_ckU lx_T0_u bx_0 [] lx_P0 0 0 0 = true := by decide +kernel
theorem lx_u0 : lx_KU 0 := lx_KU0 (by decide +kernel) lx_T0_u_ok lx_e0_u
noncomputable def lx_P1 : List (Nat × Nat × Nat) := [(1, 0, 4), (5, 17, 1), (99, 264, 1), (101, 264, 3)]
noncomputable def lx_T1_u : List (Nat × us_C) := [(134, cn_x_line), (175, cn_m_line)]
theorem lx_T1_u_ok : lt_all 60 lx_T1_u := ⟨cp_x_line.mono (by decide), cp_m_line.mono (by decide), trivial⟩
theorem lx_e1_u : lx_ckU lx_T1_u bx_0 [] lx_P1 0 0 1 = true := by decide +kernel
theorem lx_u1 : lx_KU 1 := lx_KU0 (by decide +kernel) lx_T1_u_ok lx_e1_u
noncomputable def lx_P3 : List (Nat × Nat × Nat) := [(1, 0, 4), (65, 68, 0), (99, 264, 1), (103, 264, 5)]
noncomputable def lx_T3_u : List (Nat × us_C) := [(136, cn_x_sheet), (179, cn_m_sheet)]
theorem lx_T3_u_ok : lt_all 60 lx_T3_u := ⟨cp_x_sheet.mono (by decide), cp_m_sheet.mono (by decide), trivial⟩
theorem lx_e3_u : lx_ckU lx_T3_u bx_0 [] lx_P3 0 0 3 = true := by decide +kernel
theorem lx_u3 : lx_KU 3 := lx_KU0 (by decide +kernel) lx_T3_u_ok lx_e3_u
noncomputable def lx_P4 : List (Nat × Nat × Nat) := [(1, 0, 4), (99, 264, 1)]
noncomputable def lx_T4_u : List (Nat × us_C) := [(137, cn_x_write), (180, cn_m_write)]
theorem lx_T4_u_ok : lt_all 60 lx_T4_u := ⟨cp_x_write.mono (by decide), cp_m_write.mono (by decide), trivial⟩
theorem lx_e4_u : lx_ckU lx_T4_u bx_0 [] lx_P4 0 0 4 = true := by decide +kernel
theorem lx_u4 : lx_KU 4 := lx_KU0 (by decide +kernel) lx_T4_u_ok lx_e4_u
noncomputable def lx_P5 : List (Nat × Nat × Nat) := [(1, 0, 4), (99, 264, 1)]
noncomputable def lx_T5_u : List (Nat × us_C) := [(138, cn_x_copy), (182, cn_m_copy)]
theorem lx_T5_u_ok : lt_all 60 lx_T5_u := ⟨cp_x_copy.mono (by decide), cp_m_copy.mono (by decide), trivial⟩
theorem lx_e5_u : lx_ckU lx_T5_u bx_0 [] lx_P5 0 0 5 = true := by decide +kernel
theorem lx_u5 : lx_KU 5 := lx_KU0 (by decide +kernel) lx_T5_u_ok lx_e5_u
noncomputable def lx_P6 : List (Nat × Nat × Nat) := [(1, 0, 4), (99, 264, 1)]
noncomputable def lx_T6_u : List (Nat × us_C) := [(139, cn_x_day), (183, cn_m_day)]
theorem lx_T6_u_ok : lt_all 60 lx_T6_u := ⟨cp_x_day.mono (by decide), cp_m_day.mono (by decide), trivial⟩
theorem lx_e6_u : lx_ckU lx_T6_u bx_0 [] lx_P6 0 0 6 = true := by decide +kernel
theorem lx_u6 : lx_KU 6 := lx_KU0 (by decide +kernel) lx_T6_u_ok lx_e6_u
noncomputable def lx_P9 : List (Nat × Nat × Nat) := [(1, 0, 4), (99, 264, 1)]
noncomputable def lx_T9_u : List (Nat × us_C) := []
theorem lx_T9_u_ok : lt_all 60 lx_T9_u := trivial
theorem lx_e9_u : lx_ckU lx_T9_u bx_0 [] lx_P9 0 0 9 = true := by decide +kernel
theorem lx_u9 : lx_KU 9 := lx_KU0 (by decide +kernel) lx_T9_u_ok lx_e9_u
noncomputable def lx_P10 : List (Nat × Nat × Nat) := [(1, 0, 4), (22, 46, 4), (36, 52, 4), (50, 58, 4), (64, 64, 4), (73, 87, 2), (74, 87, 3), (99, 264, 1)]
noncomputable def lx_T10_u : List (Nat × us_C) := [(143, cn_x_asked), (209, cn_m_asked)]
theorem lx_T10_u_ok : lt_all 60 lx_T10_u := ⟨cp_x_asked.mono (by decide), cp_m_asked.mono (by decide), trivial⟩
theorem lx_e10_u : lx_ckU lx_T10_u bx_0 [] lx_P10 0 0 10 = true := by decide +kernel
theorem lx_u10 : lx_KU 10 := lx_KU0 (by decide +kernel) lx_T10_u_ok lx_e10_u
noncomputable def lx_P11 : List (Nat × Nat × Nat) := [(1, 0, 4), (6, 17, 3), (7, 17, 4), (8, 17, 5), (99, 264, 1), (116, 264, 46), (117, 264, 47), (118, 264, 48)]
noncomputable def lx_T11_u : List (Nat × us_C) := [(144, cn_x_rules), (210, cn_m_rules)]
theorem lx_T11_u_ok : lt_all 60 lx_T11_u := ⟨cp_x_rules.mono (by decide), cp_m_rules.mono (by decide), trivial⟩
theorem lx_e11_u : lx_ckU lx_T11_u bx_0 [] lx_P11 0 0 11 = true := by decide +kernel
theorem lx_u11 : lx_KU 11 := lx_KU0 (by decide +kernel) lx_T11_u_ok lx_e11_u
noncomputable def lx_P12 : List (Nat × Nat × Nat) := [(1, 0, 4), (99, 264, 1)]
noncomputable def lx_T12_u : List (Nat × us_C) := [(145, cn_x_flow), (215, cn_m_flow)]
theorem lx_T12_u_ok : lt_all 60 lx_T12_u := ⟨cp_x_flow.mono (by decide), cp_m_flow.mono (by decide), trivial⟩
theorem lx_e12_u : lx_ckU lx_T12_u bx_0 [] lx_P12 0 0 12 = true := by decide +kernel
theorem lx_u12 : lx_KU 12 := lx_KU0 (by decide +kernel) lx_T12_u_ok lx_e12_u
noncomputable def lx_P13 : List (Nat × Nat × Nat) := [(1, 0, 4), (2, 16, 10), (22, 46, 4), (36, 52, 4), (50, 58, 4), (64, 64, 4), (73, 87, 2), (74, 87, 3), (75, 87, 4), (99, 264, 1), (119, 264, 59), (120, 264, 60), (122, 264, 62), (123, 264, 63)]
noncomputable def lx_T13_0 : List (Nat × us_C) := [(146, cn_x_least), (222, cn_m_least0)]
theorem lx_T13_0_ok : lt_all 60 lx_T13_0 := ⟨cp_x_least.mono (by decide), cp_m_least0.mono (by decide), trivial⟩
theorem lx_e13_0 : lx_ckB lx_T13_0 bx_0 [] lx_P13 0 0 13 0 = true := by decide +kernel
noncomputable def lx_T13_1 : List (Nat × us_C) := [(146, cn_x_least), (222, cn_m_least1)]
theorem lx_T13_1_ok : lt_all 60 lx_T13_1 := ⟨cp_x_least.mono (by decide), cp_m_least1.mono (by decide), trivial⟩
theorem lx_e13_1 : lx_ckB lx_T13_1 bx_0 [] lx_P13 0 0 13 1 = true := by decide +kernel
noncomputable def lx_T13_2 : List (Nat × us_C) := [(146, cn_x_least), (222, cn_m_least2)]
theorem lx_T13_2_ok : lt_all 60 lx_T13_2 := ⟨cp_x_least.mono (by decide), cp_m_least2.mono (by decide), trivial⟩
theorem lx_e13_2 : lx_ckB lx_T13_2 bx_0 [] lx_P13 0 0 13 2 = true := by decide +kernel
noncomputable def lx_T13_3 : List (Nat × us_C) := [(146, cn_x_least), (222, cn_m_least3)]
theorem lx_T13_3_ok : lt_all 60 lx_T13_3 := ⟨cp_x_least.mono (by decide), cp_m_least3.mono (by decide), trivial⟩
theorem lx_e13_3 : lx_ckB lx_T13_3 bx_0 [] lx_P13 0 0 13 3 = true := by decide +kernel
noncomputable def lx_T13_4 : List (Nat × us_C) := [(146, cn_x_least), (222, cn_m_least4)]
theorem lx_T13_4_ok : lt_all 60 lx_T13_4 := ⟨cp_x_least.mono (by decide), cp_m_least4.mono (by decide), trivial⟩
theorem lx_e13_4 : lx_ckB lx_T13_4 bx_0 [] lx_P13 0 0 13 4 = true := by decide +kernel
theorem lx_k13 : ∀ v, v < 5 → lx_KS 13 v := fun v hv => match v, hv with
  | 0, _ => lx_KS0 lx_T13_0_ok lx_e13_0
  | 1, _ => lx_KS0 lx_T13_1_ok lx_e13_1
  | 2, _ => lx_KS0 lx_T13_2_ok lx_e13_2
  | 3, _ => lx_KS0 lx_T13_3_ok lx_e13_3
  | 4, _ => lx_KS0 lx_T13_4_ok lx_e13_4
  | n + 5, h => absurd h (by omega)
