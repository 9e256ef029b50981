/-! THE LAW: what each kind of call comes to (printed by lawq.py) 0 -/
noncomputable def lx_P0 : List (Nat × Nat × Nat) := [(1, 0, 4), (5, 17, 0), (106, 264, 1), (107, 264, 2)]
noncomputable def lx_T0_u : List (Nat × us_C) := [(133, cn_x_place), (174, cn_m_place)]
theorem lx_T0_u_ok : lt_all 60 lx_T0_u := ⟨cp_x_place.mono (by decide), cp_m_place.mono (by decide), trivial⟩
theorem lx_e0_u : lx_ckU lx_T0_u bx_0 [] lx_P0 0 0 0 = true := by decide +kernel
theorem lx_u0 : lx_KU 0 := lx_KU0 (by decide +kernel) lx_T0_u_ok lx_e0_u
noncomputable def lx_P1 : List (Nat × Nat × Nat) := [(1, 0, 4), (6, 17, 1), (106, 264, 1), (108, 264, 3)]
noncomputable def lx_T1_u : List (Nat × us_C) := [(134, cn_x_line), (175, cn_m_line)]
theorem lx_T1_u_ok : lt_all 60 lx_T1_u := ⟨cp_x_line.mono (by decide), cp_m_line.mono (by decide), trivial⟩
theorem lx_e1_u : lx_ckU lx_T1_u bx_0 [] lx_P1 0 0 1 = true := by decide +kernel
theorem lx_u1 : lx_KU 1 := lx_KU0 (by decide +kernel) lx_T1_u_ok lx_e1_u
noncomputable def lx_P3 : List (Nat × Nat × Nat) := [(1, 0, 4), (106, 264, 1), (110, 68, 0), (157, 82, 0), (158, 82, 1), (159, 82, 2), (160, 82, 3), (161, 82, 4), (162, 82, 5), (163, 82, 6), (164, 82, 7), (165, 82, 8), (166, 82, 9), (167, 82, 10), (168, 82, 11), (169, 83, 0), (170, 83, 1), (171, 83, 2), (172, 83, 3), (173, 83, 4), (174, 83, 5), (175, 83, 6), (176, 83, 7), (177, 83, 8), (178, 83, 9), (179, 83, 10), (180, 83, 11)]
noncomputable def lx_B3 : Int → List (Int × Int) := fun k => [(ai_lo32, ai_hi32)]
noncomputable def lx_T3_u : List (Nat × us_C) := []
theorem lx_T3_u_ok : lt_all 60 lx_T3_u := trivial
theorem lx_e3_u0 : (List.range 3).all (fun j => lx_ckU lx_T3_u lx_B3 [82, 83, 281, 282] lx_P3 110 ((0) + Int.ofNat j) 3) = true := by decide +kernel
theorem lx_e3_u1 : (List.range 3).all (fun j => lx_ckU lx_T3_u lx_B3 [82, 83, 281, 282] lx_P3 110 ((3) + Int.ofNat j) 3) = true := by decide +kernel
theorem lx_e3_u2 : (List.range 3).all (fun j => lx_ckU lx_T3_u lx_B3 [82, 83, 281, 282] lx_P3 110 ((6) + Int.ofNat j) 3) = true := by decide +kernel
theorem lx_e3_u3 : (List.range 3).all (fun j => lx_ckU lx_T3_u lx_B3 [82, 83, 281, 282] lx_P3 110 ((9) + Int.ofNat j) 3) = true := by decide +kernel
theorem lx_e3_u4 : (List.range 1).all (fun j => lx_ckU lx_T3_u lx_B3 [82, 83, 281, 282] lx_P3 110 ((12) + Int.ofNat j) 3) = true := by decide +kernel
theorem lx_e3_u : ∀ k : Int, (0) ≤ k → k ≤ (12) → lx_ckU lx_T3_u lx_B3 [82, 83, 281, 282] lx_P3 110 k 3 = true := fun k h1 h2 => by
  by_cases q0 : k ≤ (2)
  · exact lx_each (lo := (0)) (n := 3) (f := fun k => lx_ckU lx_T3_u lx_B3 [82, 83, 281, 282] lx_P3 110 k 3) lx_e3_u0 k (by omega) (by omega)
  by_cases q1 : k ≤ (5)
  · exact lx_each (lo := (3)) (n := 3) (f := fun k => lx_ckU lx_T3_u lx_B3 [82, 83, 281, 282] lx_P3 110 k 3) lx_e3_u1 k (by omega) (by omega)
  by_cases q2 : k ≤ (8)
  · exact lx_each (lo := (6)) (n := 3) (f := fun k => lx_ckU lx_T3_u lx_B3 [82, 83, 281, 282] lx_P3 110 k 3) lx_e3_u2 k (by omega) (by omega)
  by_cases q3 : k ≤ (11)
  · exact lx_each (lo := (9)) (n := 3) (f := fun k => lx_ckU lx_T3_u lx_B3 [82, 83, 281, 282] lx_P3 110 k 3) lx_e3_u3 k (by omega) (by omega)
  exact lx_each (lo := (12)) (n := 1) (f := fun k => lx_ckU lx_T3_u lx_B3 [82, 83, 281, 282] lx_P3 110 k 3) lx_e3_u4 k (by omega) (by omega)
theorem lx_u3 : lx_KU 3 := ⟨lx_B3, [82, 83, 281, 282], lx_P3, 110, (0), (12), by decide +kernel, by decide +kernel, by decide +kernel, fun k h1 h2 => ⟨_, lx_T3_u_ok, lx_e3_u k h1 h2⟩⟩
noncomputable def lx_P4 : List (Nat × Nat × Nat) := [(1, 0, 4), (106, 264, 1)]
noncomputable def lx_T4_u : List (Nat × us_C) := []
theorem lx_T4_u_ok : lt_all 60 lx_T4_u := trivial
theorem lx_e4_u : lx_ckU lx_T4_u bx_0 [] lx_P4 0 0 4 = true := by decide +kernel
theorem lx_u4 : lx_KU 4 := lx_KU0 (by decide +kernel) lx_T4_u_ok lx_e4_u
noncomputable def lx_P6 : List (Nat × Nat × Nat) := [(1, 0, 4), (106, 264, 1)]
noncomputable def lx_T6_u : List (Nat × us_C) := [(139, cn_x_day), (183, cn_m_day)]
theorem lx_T6_u_ok : lt_all 60 lx_T6_u := ⟨cp_x_day.mono (by decide), cp_m_day.mono (by decide), trivial⟩
theorem lx_e6_u : lx_ckU lx_T6_u bx_0 [] lx_P6 0 0 6 = true := by decide +kernel
theorem lx_u6 : lx_KU 6 := lx_KU0 (by decide +kernel) lx_T6_u_ok lx_e6_u
noncomputable def lx_P7 : List (Nat × Nat × Nat) := [(1, 0, 4), (72, 84, 2), (106, 264, 1), (111, 264, 26)]
noncomputable def lx_T7_u : List (Nat × us_C) := [(140, cn_x_feed), (184, cn_m_feed)]
theorem lx_T7_u_ok : lt_all 60 lx_T7_u := ⟨cp_x_feed.mono (by decide), cp_m_feed.mono (by decide), trivial⟩
theorem lx_e7_u : lx_ckU lx_T7_u bx_0 [] lx_P7 0 0 7 = true := by decide +kernel
theorem lx_u7 : lx_KU 7 := lx_KU0 (by decide +kernel) lx_T7_u_ok lx_e7_u
noncomputable def lx_P9 : List (Nat × Nat × Nat) := [(1, 0, 4), (106, 264, 1)]
noncomputable def lx_T9_u : List (Nat × us_C) := [(142, cn_x_fault), (204, cn_m_fault)]
theorem lx_T9_u_ok : lt_all 60 lx_T9_u := ⟨cp_x_fault.mono (by decide), cp_m_fault.mono (by decide), trivial⟩
theorem lx_e9_u : lx_ckU lx_T9_u bx_0 [] lx_P9 0 0 9 = true := by decide +kernel
theorem lx_u9 : lx_KU 9 := lx_KU0 (by decide +kernel) lx_T9_u_ok lx_e9_u
noncomputable def lx_P10 : List (Nat × Nat × Nat) := [(1, 0, 4), (25, 46, 4), (40, 52, 4), (55, 58, 4), (70, 64, 4), (80, 87, 2), (81, 87, 3), (106, 264, 1)]
noncomputable def lx_T10_u : List (Nat × us_C) := [(143, cn_x_asked), (209, cn_m_asked)]
theorem lx_T10_u_ok : lt_all 60 lx_T10_u := ⟨cp_x_asked.mono (by decide), cp_m_asked.mono (by decide), trivial⟩
theorem lx_e10_u : lx_ckU lx_T10_u bx_0 [] lx_P10 0 0 10 = true := by decide +kernel
theorem lx_u10 : lx_KU 10 := lx_KU0 (by decide +kernel) lx_T10_u_ok lx_e10_u
noncomputable def lx_P11 : List (Nat × Nat × Nat) := [(1, 0, 4), (8, 17, 3), (9, 17, 4), (10, 17, 5), (106, 264, 1), (123, 264, 46), (124, 264, 47), (125, 264, 48)]
noncomputable def lx_T11_u : List (Nat × us_C) := [(144, cn_x_rules), (210, cn_m_rules)]
theorem lx_T11_u_ok : lt_all 60 lx_T11_u := ⟨cp_x_rules.mono (by decide), cp_m_rules.mono (by decide), trivial⟩
theorem lx_e11_u : lx_ckU lx_T11_u bx_0 [] lx_P11 0 0 11 = true := by decide +kernel
theorem lx_u11 : lx_KU 11 := lx_KU0 (by decide +kernel) lx_T11_u_ok lx_e11_u
noncomputable def lx_P12 : List (Nat × Nat × Nat) := [(1, 0, 4), (106, 264, 1)]
noncomputable def lx_T12_u : List (Nat × us_C) := [(145, cn_x_flow), (215, cn_m_flow)]
theorem lx_T12_u_ok : lt_all 60 lx_T12_u := ⟨cp_x_flow.mono (by decide), cp_m_flow.mono (by decide), trivial⟩
theorem lx_e12_u : lx_ckU lx_T12_u bx_0 [] lx_P12 0 0 12 = true := by decide +kernel
theorem lx_u12 : lx_KU 12 := lx_KU0 (by decide +kernel) lx_T12_u_ok lx_e12_u
noncomputable def lx_P13 : List (Nat × Nat × Nat) := [(1, 0, 4), (2, 16, 10), (25, 46, 4), (40, 52, 4), (55, 58, 4), (70, 64, 4), (80, 87, 2), (81, 87, 3), (82, 87, 4), (106, 264, 1), (126, 264, 59), (127, 264, 60), (129, 264, 62), (130, 264, 63)]
noncomputable def lx_T13_0 : List (Nat × us_C) := [(146, cn_x_least), (222, cn_m_least0)]
theorem lx_T13_0_ok : lt_all 60 lx_T13_0 := ⟨cp_x_least.mono (by decide), cp_m_least0.mono (by decide), trivial⟩
theorem lx_e13_0 : lx_ckB lx_T13_0 bx_0 [] lx_P13 0 0 13 0 = true := by decide +kernel
noncomputable def lx_T13_1 : List (Nat × us_C) := [(146, cn_x_least), (222, cn_m_least1)]
theorem lx_T13_1_ok : lt_all 60 lx_T13_1 := ⟨cp_x_least.mono (by decide), cp_m_least1.mono (by decide), trivial⟩
theorem lx_e13_1 : lx_ckB lx_T13_1 bx_0 [] lx_P13 0 0 13 1 = true := by decide +kernel
noncomputable def lx_T13_2 : List (Nat × us_C) := [(146, cn_x_least), (222, cn_m_least2)]
theorem lx_T13_2_ok : lt_all 60 lx_T13_2 := ⟨cp_x_least.mono (by decide), cp_m_least2.mono (by decide), trivial⟩
theorem lx_e13_2 : lx_ckB lx_T13_2 bx_0 [] lx_P13 0 0 13 2 = true := by decide +kernel
noncomputable def lx_T13_3 : List (Nat × us_C) := [(146, cn_x_least), (222, cn_m_least3)]
theorem lx_T13_3_ok : lt_all 60 lx_T13_3 := ⟨cp_x_least.mono (by decide), cp_m_least3.mono (by decide), trivial⟩
theorem lx_e13_3 : lx_ckB lx_T13_3 bx_0 [] lx_P13 0 0 13 3 = true := by decide +kernel
noncomputable def lx_T13_4 : List (Nat × us_C) := [(146, cn_x_least), (222, cn_m_least4)]
theorem lx_T13_4_ok : lt_all 60 lx_T13_4 := ⟨cp_x_least.mono (by decide), cp_m_least4.mono (by decide), trivial⟩
theorem lx_e13_4 : lx_ckB lx_T13_4 bx_0 [] lx_P13 0 0 13 4 = true := by decide +kernel
theorem lx_k13 : ∀ v, v < 5 → lx_KS 13 v := fun v hv => match v, hv with
  | 0, _ => lx_KS0 lx_T13_0_ok lx_e13_0
  | 1, _ => lx_KS0 lx_T13_1_ok lx_e13_1
  | 2, _ => lx_KS0 lx_T13_2_ok lx_e13_2
  | 3, _ => lx_KS0 lx_T13_3_ok lx_e13_3
  | 4, _ => lx_KS0 lx_T13_4_ok lx_e13_4
  | n + 5, h => absurd h (by omega)
