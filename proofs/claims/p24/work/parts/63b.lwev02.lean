/-! THE LAW: what each kind of call comes to (printed by lawq.py) 2 -/
noncomputable def lx_P20 : List (Nat × Nat × Nat) := [(1, 0, 4), (97, 264, 1)]
noncomputable def lx_T20_u : List (Nat × us_C) := [(153, cn_x_hides), (240, cn_m_hides)]
theorem lx_T20_u_ok : lt_all 60 lx_T20_u := ⟨cp_x_hides.mono (by decide), cp_m_hides.mono (by decide), trivial⟩
theorem lx_e20_u : lx_ckU lx_T20_u bx_0 [] lx_P20 0 0 20 = true := by decide +kernel
theorem lx_u20 : lx_KU 20 := lx_KU0 (by decide +kernel) lx_T20_u_ok lx_e20_u
noncomputable def lx_P21 : List (Nat × Nat × Nat) := [(1, 0, 4), (21, 46, 4), (34, 52, 4), (47, 58, 4), (60, 64, 4), (71, 87, 2), (72, 87, 3), (73, 87, 4), (97, 264, 1), (117, 264, 59), (118, 264, 60), (119, 264, 61)]
noncomputable def lx_T21_0 : List (Nat × us_C) := [(154, cn_x_alone), (241, cn_m_alone0)]
theorem lx_T21_0_ok : lt_all 60 lx_T21_0 := ⟨cp_x_alone.mono (by decide), cp_m_alone0.mono (by decide), trivial⟩
theorem lx_e21_0 : lx_ckB lx_T21_0 bx_0 [] lx_P21 0 0 21 0 = true := by decide +kernel
noncomputable def lx_T21_1 : List (Nat × us_C) := [(154, cn_x_alone), (241, cn_m_alone1)]
theorem lx_T21_1_ok : lt_all 60 lx_T21_1 := ⟨cp_x_alone.mono (by decide), cp_m_alone1.mono (by decide), trivial⟩
theorem lx_e21_1 : lx_ckB lx_T21_1 bx_0 [] lx_P21 0 0 21 1 = true := by decide +kernel
noncomputable def lx_T21_2 : List (Nat × us_C) := [(154, cn_x_alone), (241, cn_m_alone2)]
theorem lx_T21_2_ok : lt_all 60 lx_T21_2 := ⟨cp_x_alone.mono (by decide), cp_m_alone2.mono (by decide), trivial⟩
theorem lx_e21_2 : lx_ckB lx_T21_2 bx_0 [] lx_P21 0 0 21 2 = true := by decide +kernel
noncomputable def lx_T21_3 : List (Nat × us_C) := [(154, cn_x_alone), (241, cn_m_alone3)]
theorem lx_T21_3_ok : lt_all 60 lx_T21_3 := ⟨cp_x_alone.mono (by decide), cp_m_alone3.mono (by decide), trivial⟩
theorem lx_e21_3 : lx_ckB lx_T21_3 bx_0 [] lx_P21 0 0 21 3 = true := by decide +kernel
noncomputable def lx_T21_4 : List (Nat × us_C) := [(154, cn_x_alone), (241, cn_m_alone4)]
theorem lx_T21_4_ok : lt_all 60 lx_T21_4 := ⟨cp_x_alone.mono (by decide), cp_m_alone4.mono (by decide), trivial⟩
theorem lx_e21_4 : lx_ckB lx_T21_4 bx_0 [] lx_P21 0 0 21 4 = true := by decide +kernel
theorem lx_k21 : ∀ v, v < 5 → lx_KS 21 v := fun v hv => match v, hv with
  | 0, _ => lx_KS0 lx_T21_0_ok lx_e21_0
  | 1, _ => lx_KS0 lx_T21_1_ok lx_e21_1
  | 2, _ => lx_KS0 lx_T21_2_ok lx_e21_2
  | 3, _ => lx_KS0 lx_T21_3_ok lx_e21_3
  | 4, _ => lx_KS0 lx_T21_4_ok lx_e21_4
  | n + 5, h => absurd h (by omega)
noncomputable def lx_P22 : List (Nat × Nat × Nat) := [(1, 0, 4), (85, 193, 0), (86, 193, 1), (87, 193, 2), (88, 193, 3), (89, 193, 4), (90, 193, 6), (91, 193, 7), (92, 193, 8), (93, 193, 9), (97, 264, 1), (98, 17, 0), (100, 17, 2), (127, 264, 87), (128, 264, 88), (130, 264, 90), (131, 264, 91), (132, 264, 92), (133, 264, 93), (134, 264, 94), (135, 264, 100), (136, 264, 101)]
noncomputable def lx_B22 : Int → List (Int × Int) := fun k => [(ai_lo32, ai_hi32)]
noncomputable def lx_T22_u : List (Nat × us_C) := []
theorem lx_T22_u_ok : lt_all 60 lx_T22_u := trivial
theorem lx_e22_u_0_0 : lx_ckU2 lx_T22_u lx_B22 [] lx_P22 98 ((0) + Int.ofNat 0) ((0) + Int.ofNat 0) 22 = true := by decide +kernel
theorem lx_e22_u_0_1 : lx_ckU2 lx_T22_u lx_B22 [] lx_P22 98 ((0) + Int.ofNat 0) ((0) + Int.ofNat 1) 22 = true := by decide +kernel
theorem lx_e22_u_0_2 : lx_ckU2 lx_T22_u lx_B22 [] lx_P22 98 ((0) + Int.ofNat 0) ((0) + Int.ofNat 2) 22 = true := by decide +kernel
theorem lx_e22_u_0_3 : lx_ckU2 lx_T22_u lx_B22 [] lx_P22 98 ((0) + Int.ofNat 0) ((0) + Int.ofNat 3) 22 = true := by decide +kernel
theorem lx_e22_u_0_4 : lx_ckU2 lx_T22_u lx_B22 [] lx_P22 98 ((0) + Int.ofNat 0) ((0) + Int.ofNat 4) 22 = true := by decide +kernel
theorem lx_e22_u_1_0 : lx_ckU2 lx_T22_u lx_B22 [] lx_P22 98 ((0) + Int.ofNat 1) ((0) + Int.ofNat 0) 22 = true := by decide +kernel
theorem lx_e22_u_1_1 : lx_ckU2 lx_T22_u lx_B22 [] lx_P22 98 ((0) + Int.ofNat 1) ((0) + Int.ofNat 1) 22 = true := by decide +kernel
theorem lx_e22_u_1_2 : lx_ckU2 lx_T22_u lx_B22 [] lx_P22 98 ((0) + Int.ofNat 1) ((0) + Int.ofNat 2) 22 = true := by decide +kernel
theorem lx_e22_u_1_3 : lx_ckU2 lx_T22_u lx_B22 [] lx_P22 98 ((0) + Int.ofNat 1) ((0) + Int.ofNat 3) 22 = true := by decide +kernel
theorem lx_e22_u_1_4 : lx_ckU2 lx_T22_u lx_B22 [] lx_P22 98 ((0) + Int.ofNat 1) ((0) + Int.ofNat 4) 22 = true := by decide +kernel
theorem lx_e22_u_2_0 : lx_ckU2 lx_T22_u lx_B22 [] lx_P22 98 ((0) + Int.ofNat 2) ((0) + Int.ofNat 0) 22 = true := by decide +kernel
theorem lx_e22_u_2_1 : lx_ckU2 lx_T22_u lx_B22 [] lx_P22 98 ((0) + Int.ofNat 2) ((0) + Int.ofNat 1) 22 = true := by decide +kernel
theorem lx_e22_u_2_2 : lx_ckU2 lx_T22_u lx_B22 [] lx_P22 98 ((0) + Int.ofNat 2) ((0) + Int.ofNat 2) 22 = true := by decide +kernel
theorem lx_e22_u_2_3 : lx_ckU2 lx_T22_u lx_B22 [] lx_P22 98 ((0) + Int.ofNat 2) ((0) + Int.ofNat 3) 22 = true := by decide +kernel
theorem lx_e22_u_2_4 : lx_ckU2 lx_T22_u lx_B22 [] lx_P22 98 ((0) + Int.ofNat 2) ((0) + Int.ofNat 4) 22 = true := by decide +kernel
theorem lx_e22_u_3_0 : lx_ckU2 lx_T22_u lx_B22 [] lx_P22 98 ((0) + Int.ofNat 3) ((0) + Int.ofNat 0) 22 = true := by decide +kernel
theorem lx_e22_u_3_1 : lx_ckU2 lx_T22_u lx_B22 [] lx_P22 98 ((0) + Int.ofNat 3) ((0) + Int.ofNat 1) 22 = true := by decide +kernel
theorem lx_e22_u_3_2 : lx_ckU2 lx_T22_u lx_B22 [] lx_P22 98 ((0) + Int.ofNat 3) ((0) + Int.ofNat 2) 22 = true := by decide +kernel
theorem lx_e22_u_3_3 : lx_ckU2 lx_T22_u lx_B22 [] lx_P22 98 ((0) + Int.ofNat 3) ((0) + Int.ofNat 3) 22 = true := by decide +kernel
theorem lx_e22_u_3_4 : lx_ckU2 lx_T22_u lx_B22 [] lx_P22 98 ((0) + Int.ofNat 3) ((0) + Int.ofNat 4) 22 = true := by decide +kernel
theorem lx_e22_u_4_0 : lx_ckU2 lx_T22_u lx_B22 [] lx_P22 98 ((0) + Int.ofNat 4) ((0) + Int.ofNat 0) 22 = true := by decide +kernel
theorem lx_e22_u_4_1 : lx_ckU2 lx_T22_u lx_B22 [] lx_P22 98 ((0) + Int.ofNat 4) ((0) + Int.ofNat 1) 22 = true := by decide +kernel
theorem lx_e22_u_4_2 : lx_ckU2 lx_T22_u lx_B22 [] lx_P22 98 ((0) + Int.ofNat 4) ((0) + Int.ofNat 2) 22 = true := by decide +kernel
theorem lx_e22_u_4_3 : lx_ckU2 lx_T22_u lx_B22 [] lx_P22 98 ((0) + Int.ofNat 4) ((0) + Int.ofNat 3) 22 = true := by decide +kernel
theorem lx_e22_u_4_4 : lx_ckU2 lx_T22_u lx_B22 [] lx_P22 98 ((0) + Int.ofNat 4) ((0) + Int.ofNat 4) 22 = true := by decide +kernel
theorem lx_e22_u : ∀ i, i < 5 → ∀ j, j < 5 → lx_ckU2 lx_T22_u lx_B22 [] lx_P22 98 ((0) + Int.ofNat i) ((0) + Int.ofNat j) 22 = true := fun i hi j hj => match i, hi, j, hj with
  | 0, _, 0, _ => lx_e22_u_0_0
  | 0, _, 1, _ => lx_e22_u_0_1
  | 0, _, 2, _ => lx_e22_u_0_2
  | 0, _, 3, _ => lx_e22_u_0_3
  | 0, _, 4, _ => lx_e22_u_0_4
  | 1, _, 0, _ => lx_e22_u_1_0
  | 1, _, 1, _ => lx_e22_u_1_1
  | 1, _, 2, _ => lx_e22_u_1_2
  | 1, _, 3, _ => lx_e22_u_1_3
  | 1, _, 4, _ => lx_e22_u_1_4
  | 2, _, 0, _ => lx_e22_u_2_0
  | 2, _, 1, _ => lx_e22_u_2_1
  | 2, _, 2, _ => lx_e22_u_2_2
  | 2, _, 3, _ => lx_e22_u_2_3
  | 2, _, 4, _ => lx_e22_u_2_4
  | 3, _, 0, _ => lx_e22_u_3_0
  | 3, _, 1, _ => lx_e22_u_3_1
  | 3, _, 2, _ => lx_e22_u_3_2
  | 3, _, 3, _ => lx_e22_u_3_3
  | 3, _, 4, _ => lx_e22_u_3_4
  | 4, _, 0, _ => lx_e22_u_4_0
  | 4, _, 1, _ => lx_e22_u_4_1
  | 4, _, 2, _ => lx_e22_u_4_2
  | 4, _, 3, _ => lx_e22_u_4_3
  | 4, _, 4, _ => lx_e22_u_4_4
  | 0, _, n + 5, h => absurd h (by omega)
  | 1, _, n + 5, h => absurd h (by omega)
  | 2, _, n + 5, h => absurd h (by omega)
  | 3, _, n + 5, h => absurd h (by omega)
  | 4, _, n + 5, h => absurd h (by omega)
  | n + 5, h, _, _ => absurd h (by omega)
theorem lx_u22 : lx_KU2 22 := ⟨lx_B22, [], lx_P22, 98, (0), (4), (0), (4), by decide +kernel, by decide +kernel, by decide +kernel, by decide +kernel, by decide +kernel, fun k h1 h2 k2 h3 h4 => ⟨_, lx_T22_u_ok, lx_each2 (f := fun k k2 => lx_ckU2 lx_T22_u lx_B22 [] lx_P22 98 k k2 22) lx_e22_u k h1 (by omega) k2 h3 (by omega)⟩⟩
noncomputable def lx_P23 : List (Nat × Nat × Nat) := [(1, 0, 4), (97, 264, 1)]
noncomputable def lx_T23_u : List (Nat × us_C) := [(156, cn_x_falls), (243, cn_m_falls)]
theorem lx_T23_u_ok : lt_all 60 lx_T23_u := ⟨cp_x_falls.mono (by decide), cp_m_falls.mono (by decide), trivial⟩
theorem lx_e23_u : lx_ckU lx_T23_u bx_0 [] lx_P23 0 0 23 = true := by decide +kernel
theorem lx_u23 : lx_KU 23 := lx_KU0 (by decide +kernel) lx_T23_u_ok lx_e23_u
noncomputable def lx_P24 : List (Nat × Nat × Nat) := [(1, 0, 4), (86, 193, 1), (87, 193, 2), (88, 193, 3), (89, 193, 4), (93, 193, 9), (97, 264, 1), (128, 264, 88), (131, 264, 91), (132, 264, 92), (133, 264, 93), (134, 264, 94)]
noncomputable def lx_T24_u : List (Nat × us_C) := [(157, cn_x_minutes), (246, cn_m_minutes)]
theorem lx_T24_u_ok : lt_all 60 lx_T24_u := ⟨cp_x_minutes.mono (by decide), cp_m_minutes.mono (by decide), trivial⟩
theorem lx_e24_u : lx_ckU lx_T24_u bx_0 [] lx_P24 0 0 24 = true := by decide +kernel
theorem lx_u24 : lx_KU 24 := lx_KU0 (by decide +kernel) lx_T24_u_ok lx_e24_u
noncomputable def lx_P25 : List (Nat × Nat × Nat) := [(1, 0, 4), (97, 264, 1)]
noncomputable def lx_T25_u : List (Nat × us_C) := [(158, cn_x_ofNight), (247, cn_m_ofNight)]
theorem lx_T25_u_ok : lt_all 60 lx_T25_u := ⟨cp_x_ofNight.mono (by decide), cp_m_ofNight.mono (by decide), trivial⟩
theorem lx_e25_u : lx_ckU lx_T25_u bx_0 [] lx_P25 0 0 25 = true := by decide +kernel
theorem lx_u25 : lx_KU 25 := lx_KU0 (by decide +kernel) lx_T25_u_ok lx_e25_u
noncomputable def lx_P26 : List (Nat × Nat × Nat) := [(1, 0, 4), (18, 44, 11), (19, 44, 12), (31, 50, 11), (32, 50, 12), (44, 56, 11), (45, 56, 12), (57, 62, 11), (58, 62, 12), (97, 264, 1)]
noncomputable def lx_T26_u : List (Nat × us_C) := [(159, cn_x_starts), (248, cn_m_starts)]
theorem lx_T26_u_ok : lt_all 60 lx_T26_u := ⟨cp_x_starts.mono (by decide), cp_m_starts.mono (by decide), trivial⟩
theorem lx_e26_u : lx_ckU lx_T26_u bx_0 [] lx_P26 0 0 26 = true := by decide +kernel
theorem lx_u26 : lx_KU 26 := lx_KU0 (by decide +kernel) lx_T26_u_ok lx_e26_u
noncomputable def lx_P27 : List (Nat × Nat × Nat) := [(1, 0, 4), (94, 198, 0), (95, 198, 3), (96, 198, 4), (97, 264, 1), (137, 264, 106)]
noncomputable def lx_T27_u : List (Nat × us_C) := [(160, cn_x_way), (252, cn_m_way)]
theorem lx_T27_u_ok : lt_all 60 lx_T27_u := ⟨cp_x_way.mono (by decide), cp_m_way.mono (by decide), trivial⟩
theorem lx_e27_u : lx_ckU lx_T27_u bx_0 [] lx_P27 0 0 27 = true := by decide +kernel
theorem lx_u27 : lx_KU 27 := lx_KU0 (by decide +kernel) lx_T27_u_ok lx_e27_u
