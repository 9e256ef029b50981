/-! THE LAW: what each kind of call comes to (printed by lawq.py) 0 -/
noncomputable def lx_P3 : List (Nat × Nat × Nat) := [(1, 0, 4), (85, 68, 0), (121, 264, 1), (125, 264, 5)]
noncomputable def lx_T3_u : List (Nat × us_C) := [(136, cn_x_sheet), (179, cn_m_sheet)]
theorem lx_T3_u_ok : lt_all 60 lx_T3_u := ⟨cp_x_sheet.mono (by decide), cp_m_sheet.mono (by decide), trivial⟩
theorem lx_e3_u : lx_ckU lx_T3_u bx_0 [] lx_P3 0 0 3 = true := by decide +kernel
theorem lx_u3 : lx_KU 3 := lx_KU0 (by decide +kernel) lx_T3_u_ok lx_e3_u
noncomputable def lx_P4 : List (Nat × Nat × Nat) := [(1, 0, 4), (121, 264, 1)]
noncomputable def lx_T4_u : List (Nat × us_C) := [(137, cn_x_write), (180, cn_m_write)]
theorem lx_T4_u_ok : lt_all 60 lx_T4_u := ⟨cp_x_write.mono (by decide), cp_m_write.mono (by decide), trivial⟩
theorem lx_e4_u : lx_ckU lx_T4_u bx_0 [] lx_P4 0 0 4 = true := by decide +kernel
theorem lx_u4 : lx_KU 4 := lx_KU0 (by decide +kernel) lx_T4_u_ok lx_e4_u
noncomputable def lx_P5 : List (Nat × Nat × Nat) := [(1, 0, 4), (121, 264, 1)]
noncomputable def lx_T5_u : List (Nat × us_C) := [(138, cn_x_copy), (182, cn_m_copy)]
theorem lx_T5_u_ok : lt_all 60 lx_T5_u := ⟨cp_x_copy.mono (by decide), cp_m_copy.mono (by decide), trivial⟩
theorem lx_e5_u : lx_ckU lx_T5_u bx_0 [] lx_P5 0 0 5 = true := by decide +kernel
theorem lx_u5 : lx_KU 5 := lx_KU0 (by decide +kernel) lx_T5_u_ok lx_e5_u
noncomputable def lx_P6 : List (Nat × Nat × Nat) := [(1, 0, 4), (121, 264, 1)]
noncomputable def lx_T6_u : List (Nat × us_C) := [(139, cn_x_day), (183, cn_m_day)]
theorem lx_T6_u_ok : lt_all 60 lx_T6_u := ⟨cp_x_day.mono (by decide), cp_m_day.mono (by decide), trivial⟩
theorem lx_e6_u : lx_ckU lx_T6_u bx_0 [] lx_P6 0 0 6 = true := by decide +kernel
theorem lx_u6 : lx_KU 6 := lx_KU0 (by decide +kernel) lx_T6_u_ok lx_e6_u
noncomputable def lx_P7 : List (Nat × Nat × Nat) := [(1, 0, 4), (87, 84, 2), (121, 264, 1), (126, 264, 26)]
noncomputable def lx_T7_u : List (Nat × us_C) := [(140, cn_x_feed), (184, cn_m_feed)]
theorem lx_T7_u_ok : lt_all 60 lx_T7_u := ⟨cp_x_feed.mono (by decide), cp_m_feed.mono (by decide), trivial⟩
theorem lx_e7_u : lx_ckU lx_T7_u bx_0 [] lx_P7 0 0 7 = true := by decide +kernel
theorem lx_u7 : lx_KU 7 := lx_KU0 (by decide +kernel) lx_T7_u_ok lx_e7_u
noncomputable def lx_P9 : List (Nat × Nat × Nat) := [(1, 0, 4), (121, 264, 1)]
noncomputable def lx_T9_u : List (Nat × us_C) := [(142, cn_x_fault), (204, cn_m_fault)]
theorem lx_T9_u_ok : lt_all 60 lx_T9_u := ⟨cp_x_fault.mono (by decide), cp_m_fault.mono (by decide), trivial⟩
theorem lx_e9_u : lx_ckU lx_T9_u bx_0 [] lx_P9 0 0 9 = true := by decide +kernel
theorem lx_u9 : lx_KU 9 := lx_KU0 (by decide +kernel) lx_T9_u_ok lx_e9_u
noncomputable def lx_P10 : List (Nat × Nat × Nat) := [(1, 0, 4), (42, 46, 4), (56, 52, 4), (70, 58, 4), (84, 64, 4), (95, 87, 2), (96, 87, 3), (121, 264, 1)]
noncomputable def lx_T10_u : List (Nat × us_C) := [(143, cn_x_asked), (209, cn_m_asked)]
theorem lx_T10_u_ok : lt_all 60 lx_T10_u := ⟨cp_x_asked.mono (by decide), cp_m_asked.mono (by decide), trivial⟩
theorem lx_e10_u : lx_ckU lx_T10_u bx_0 [] lx_P10 0 0 10 = true := by decide +kernel
theorem lx_u10 : lx_KU 10 := lx_KU0 (by decide +kernel) lx_T10_u_ok lx_e10_u
noncomputable def lx_P11 : List (Nat × Nat × Nat) := [(1, 0, 4), (5, 17, 3), (6, 17, 4), (7, 17, 5), (121, 264, 1), (138, 264, 46), (139, 264, 47), (140, 264, 48)]
noncomputable def lx_T11_u : List (Nat × us_C) := [(144, cn_x_rules), (210, cn_m_rules)]
theorem lx_T11_u_ok : lt_all 60 lx_T11_u := ⟨cp_x_rules.mono (by decide), cp_m_rules.mono (by decide), trivial⟩
theorem lx_e11_u : lx_ckU lx_T11_u bx_0 [] lx_P11 0 0 11 = true := by decide +kernel
theorem lx_u11 : lx_KU 11 := lx_KU0 (by decide +kernel) lx_T11_u_ok lx_e11_u
noncomputable def lx_P13 : List (Nat × Nat × Nat) := [(1, 0, 4), (2, 16, 10), (42, 46, 4), (56, 52, 4), (70, 58, 4), (84, 64, 4), (95, 87, 2), (96, 87, 3), (97, 87, 4), (121, 264, 1), (141, 264, 59), (142, 264, 60), (144, 264, 62), (145, 264, 63)]
noncomputable def lx_T13_0 : List (Nat × us_C) := [(146, cn_x_least), (222, cn_m_least0)]
theorem lx_T13_0_ok : lt_all 60 lx_T13_0 := ⟨cp_x_least.mono (by decide), cp_m_least0.mono (by decide), trivial⟩
theorem lx_e13_0 : lx_ckB lx_T13_0 bx_0 [] lx_P13 0 0 13 0 = true := by decide +kernel
noncomputable def lx_T13_1 : List (Nat × us_C) := [(146, cn_x_least), (222, cn_m_least1)]
theorem lx_T13_1_ok : lt_all 60 lx_T13_1 := ⟨cp_x_least.mono (by decide), cp_m_least1.mono (by decide), trivial⟩
theorem lx_e13_1 : lx_ckB lx_T13_1 bx_0 [] lx_P13 0 0 13 1 = true := by decide +kernel
noncomputable def lx_T13_2 : List (Nat × us_C) := [(146, cn_x_least), (222, cn_m_least2)]
theorem lx_T13_2_ok : lt_all 60 lx_T13_2 := ⟨cp_x_least.mono (by decide), cp_m_least2.mono (by decide), trivial⟩
theorem lx_e13_2 : lx_ckB lx_T13_2 bx_0 [] lx_P13 0 0 13 2 = true := by decide +kernel
noncomputable def lx_T13_3 : List (Nat × us_C) := [(146, cn_x_least), (222, cn_m_least3)]
theorem lx_T13_3_ok : lt_all 60 lx_T13_3 := ⟨cp_x_least.mono (by decide), cp_m_least3.mono (by decide), trivial⟩
theorem lx_e13_3 : lx_ckB lx_T13_3 bx_0 [] lx_P13 0 0 13 3 = true := by decide +kernel
noncomputable def lx_T13_4 : List (Nat × us_C) := [(146, cn_x_least), (222, cn_m_least4)]
theorem lx_T13_4_ok : lt_all 60 lx_T13_4 := ⟨cp_x_least.mono (by decide), cp_m_least4.mono (by decide), trivial⟩
theorem lx_e13_4 : lx_ckB lx_T13_4 bx_0 [] lx_P13 0 0 13 4 = true := by decide +kernel
theorem lx_k13 : ∀ v, v < 5 → lx_KS 13 v := fun v hv => match v, hv with
  | 0, _ => lx_KS0 lx_T13_0_ok lx_e13_0
  | 1, _ => lx_KS0 lx_T13_1_ok lx_e13_1
  | 2, _ => lx_KS0 lx_T13_2_ok lx_e13_2
  | 3, _ => lx_KS0 lx_T13_3_ok lx_e13_3
  | 4, _ => lx_KS0 lx_T13_4_ok lx_e13_4
  | n + 5, h => absurd h (by omega)
