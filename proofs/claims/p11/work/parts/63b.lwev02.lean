/-! THE LAW: what each kind of call comes to (printed by lawq.py) 2 -/
noncomputable def lx_P20 : List (Nat × Nat × Nat) := [(1, 0, 4), (99, 264, 1)]
noncomputable def lx_T20_u : List (Nat × us_C) := [(153, cn_x_hides), (240, cn_m_hides)]
theorem lx_T20_u_ok : lt_all 60 lx_T20_u := ⟨cp_x_hides.mono (by decide), cp_m_hides.mono (by decide), trivial⟩
theorem lx_e20_u : lx_ckU lx_T20_u bx_0 [] lx_P20 0 0 20 = true := by decide +kernel
theorem lx_u20 : lx_KU 20 := lx_KU0 (by decide +kernel) lx_T20_u_ok lx_e20_u
noncomputable def lx_P21 : List (Nat × Nat × Nat) := [(1, 0, 4), (22, 46, 4), (36, 52, 4), (50, 58, 4), (64, 64, 4), (73, 87, 2), (74, 87, 3), (75, 87, 4), (99, 264, 1), (119, 264, 59), (120, 264, 60), (121, 264, 61)]
noncomputable def lx_T21_0 : List (Nat × us_C) := [(154, cn_x_alone), (241, cn_m_alone0)]
theorem lx_T21_0_ok : lt_all 60 lx_T21_0 := ⟨cp_x_alone.mono (by decide), cp_m_alone0.mono (by decide), trivial⟩
theorem lx_e21_0 : lx_ckB lx_T21_0 bx_0 [] lx_P21 0 0 21 0 = true := by decide +kernel
noncomputable def lx_T21_1 : List (Nat × us_C) := [(154, cn_x_alone), (241, cn_m_alone1)]
theorem lx_T21_1_ok : lt_all 60 lx_T21_1 := ⟨cp_x_alone.mono (by decide), cp_m_alone1.mono (by decide), trivial⟩
theorem lx_e21_1 : lx_ckB lx_T21_1 bx_0 [] lx_P21 0 0 21 1 = true := by decide +kernel
noncomputable def lx_T21_2 : List (Nat × us_C) := [(154, cn_x_alone), (241, cn_m_alone2)]
theorem lx_T21_2_ok : lt_all 60 lx_T21_2 := ⟨cp_x_alone.mono (by decide), cp_m_alone2.mono (by decide), trivial⟩
theorem lx_e21_2 : lx_ckB lx_T21_2 bx_0 [] lx_P21 0 0 21 2 = true := by decide +kernel
noncomputable def lx_T21_3 : List (Nat × us_C) := [(154, cn_x_alone), (241, cn_m_alone3)]
theorem lx_T21_3_ok : lt_all 60 lx_T21_3 := ⟨cp_x_alone.mono (by decide), cp_m_alone3.mono (by decide), trivial⟩
theorem lx_e21_3 : lx_ckB lx_T21_3 bx_0 [] lx_P21 0 0 21 3 = true := by decide +kernel
noncomputable def lx_T21_4 : List (Nat × us_C) := [(154, cn_x_alone), (241, cn_m_alone4)]
theorem lx_T21_4_ok : lt_all 60 lx_T21_4 := ⟨cp_x_alone.mono (by decide), cp_m_alone4.mono (by decide), trivial⟩
theorem lx_e21_4 : lx_ckB lx_T21_4 bx_0 [] lx_P21 0 0 21 4 = true := by decide +kernel
theorem lx_k21 : ∀ v, v < 5 → lx_KS 21 v := fun v hv => match v, hv with
  | 0, _ => lx_KS0 lx_T21_0_ok lx_e21_0
  | 1, _ => lx_KS0 lx_T21_1_ok lx_e21_1
  | 2, _ => lx_KS0 lx_T21_2_ok lx_e21_2
  | 3, _ => lx_KS0 lx_T21_3_ok lx_e21_3
  | 4, _ => lx_KS0 lx_T21_4_ok lx_e21_4
  | n + 5, h => absurd h (by omega)
noncomputable def lx_P22 : List (Nat × Nat × Nat) := [(1, 0, 4), (87, 193, 0), (88, 193, 1), (89, 193, 2), (90, 193, 3), (91, 193, 4), (92, 193, 6), (93, 193, 7), (94, 193, 8), (95, 193, 9), (99, 264, 1), (129, 264, 87), (130, 264, 88), (132, 264, 90), (133, 264, 91), (134, 264, 92), (135, 264, 93), (136, 264, 94), (137, 264, 100), (138, 264, 101)]
noncomputable def lx_T22_u : List (Nat × us_C) := [(155, cn_x_night), (242, cn_m_night)]
theorem lx_T22_u_ok : lt_all 60 lx_T22_u := ⟨cp_x_night.mono (by decide), cp_m_night.mono (by decide), trivial⟩
theorem lx_e22_u : lx_ckU lx_T22_u bx_0 [] lx_P22 0 0 22 = true := by decide +kernel
theorem lx_u22 : lx_KU 22 := lx_KU0 (by decide +kernel) lx_T22_u_ok lx_e22_u
noncomputable def lx_P23 : List (Nat × Nat × Nat) := [(1, 0, 4), (99, 264, 1)]
noncomputable def lx_T23_u : List (Nat × us_C) := [(156, cn_x_falls), (243, cn_m_falls)]
theorem lx_T23_u_ok : lt_all 60 lx_T23_u := ⟨cp_x_falls.mono (by decide), cp_m_falls.mono (by decide), trivial⟩
theorem lx_e23_u : lx_ckU lx_T23_u bx_0 [] lx_P23 0 0 23 = true := by decide +kernel
theorem lx_u23 : lx_KU 23 := lx_KU0 (by decide +kernel) lx_T23_u_ok lx_e23_u
noncomputable def lx_P24 : List (Nat × Nat × Nat) := [(1, 0, 4), (88, 193, 1), (89, 193, 2), (90, 193, 3), (91, 193, 4), (95, 193, 9), (99, 264, 1), (130, 264, 88), (133, 264, 91), (134, 264, 92), (135, 264, 93), (136, 264, 94)]
noncomputable def lx_T24_u : List (Nat × us_C) := [(157, cn_x_minutes), (246, cn_m_minutes)]
theorem lx_T24_u_ok : lt_all 60 lx_T24_u := ⟨cp_x_minutes.mono (by decide), cp_m_minutes.mono (by decide), trivial⟩
theorem lx_e24_u : lx_ckU lx_T24_u bx_0 [] lx_P24 0 0 24 = true := by decide +kernel
theorem lx_u24 : lx_KU 24 := lx_KU0 (by decide +kernel) lx_T24_u_ok lx_e24_u
noncomputable def lx_P25 : List (Nat × Nat × Nat) := [(1, 0, 4), (99, 264, 1)]
noncomputable def lx_T25_u : List (Nat × us_C) := [(158, cn_x_ofNight), (247, cn_m_ofNight)]
theorem lx_T25_u_ok : lt_all 60 lx_T25_u := ⟨cp_x_ofNight.mono (by decide), cp_m_ofNight.mono (by decide), trivial⟩
theorem lx_e25_u : lx_ckU lx_T25_u bx_0 [] lx_P25 0 0 25 = true := by decide +kernel
theorem lx_u25 : lx_KU 25 := lx_KU0 (by decide +kernel) lx_T25_u_ok lx_e25_u
noncomputable def lx_P26 : List (Nat × Nat × Nat) := [(1, 0, 4), (19, 44, 11), (20, 44, 12), (33, 50, 11), (34, 50, 12), (47, 56, 11), (48, 56, 12), (61, 62, 11), (62, 62, 12), (99, 264, 1)]
noncomputable def lx_T26_u : List (Nat × us_C) := [(159, cn_x_starts), (248, cn_m_starts)]
theorem lx_T26_u_ok : lt_all 60 lx_T26_u := ⟨cp_x_starts.mono (by decide), cp_m_starts.mono (by decide), trivial⟩
theorem lx_e26_u : lx_ckU lx_T26_u bx_0 [] lx_P26 0 0 26 = true := by decide +kernel
theorem lx_u26 : lx_KU 26 := lx_KU0 (by decide +kernel) lx_T26_u_ok lx_e26_u
noncomputable def lx_P27 : List (Nat × Nat × Nat) := [(1, 0, 4), (96, 198, 0), (97, 198, 3), (98, 198, 4), (99, 264, 1), (139, 264, 106)]
noncomputable def lx_T27_u : List (Nat × us_C) := [(160, cn_x_way), (252, cn_m_way)]
theorem lx_T27_u_ok : lt_all 60 lx_T27_u := ⟨cp_x_way.mono (by decide), cp_m_way.mono (by decide), trivial⟩
theorem lx_e27_u : lx_ckU lx_T27_u bx_0 [] lx_P27 0 0 27 = true := by decide +kernel
theorem lx_u27 : lx_KU 27 := lx_KU0 (by decide +kernel) lx_T27_u_ok lx_e27_u
