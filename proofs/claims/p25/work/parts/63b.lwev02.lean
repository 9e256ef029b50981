/-! THE LAW: what each kind of call comes to (printed by lawq.py) 2 -/
noncomputable def lx_P20 : List (Nat × Nat × Nat) := [(1, 0, 4), (94, 264, 1)]
noncomputable def lx_T20_u : List (Nat × us_C) := [(153, cn_x_hides), (240, cn_m_hides)]
theorem lx_T20_u_ok : lt_all 60 lx_T20_u := ⟨cp_x_hides.mono (by decide), cp_m_hides.mono (by decide), trivial⟩
theorem lx_e20_u : lx_ckU lx_T20_u bx_0 [] lx_P20 0 0 20 = true := by decide +kernel
theorem lx_u20 : lx_KU 20 := lx_KU0 (by decide +kernel) lx_T20_u_ok lx_e20_u
noncomputable def lx_P21 : List (Nat × Nat × Nat) := [(1, 0, 4), (21, 46, 4), (34, 52, 4), (47, 58, 4), (60, 64, 4), (71, 87, 2), (72, 87, 3), (73, 87, 4), (94, 264, 1), (114, 264, 59), (115, 264, 60), (116, 264, 61)]
noncomputable def lx_T21_0 : List (Nat × us_C) := [(154, cn_x_alone), (241, cn_m_alone0)]
theorem lx_T21_0_ok : lt_all 60 lx_T21_0 := ⟨cp_x_alone.mono (by decide), cp_m_alone0.mono (by decide), trivial⟩
theorem lx_e21_0 : lx_ckB lx_T21_0 bx_0 [] lx_P21 0 0 21 0 = true := by decide +kernel
noncomputable def lx_T21_1 : List (Nat × us_C) := [(154, cn_x_alone), (241, cn_m_alone1)]
theorem lx_T21_1_ok : lt_all 60 lx_T21_1 := ⟨cp_x_alone.mono (by decide), cp_m_alone1.mono (by decide), trivial⟩
theorem lx_e21_1 : lx_ckB lx_T21_1 bx_0 [] lx_P21 0 0 21 1 = true := by decide +kernel
noncomputable def lx_T21_2 : List (Nat × us_C) := [(154, cn_x_alone), (241, cn_m_alone2)]
theorem lx_T21_2_ok : lt_all 60 lx_T21_2 := ⟨cp_x_alone.mono (by decide), cp_m_alone2.mono (by decide), trivial⟩
theorem lx_e21_2 : lx_ckB lx_T21_2 bx_0 [] lx_P21 0 0 21 2 = true := by decide +kernel
noncomputable def lx_T21_3 : List (Nat × us_C) := [(154, cn_x_alone), (241, cn_m_alone3)]
theorem lx_T21_3_ok : lt_all 60 lx_T21_3 := ⟨cp_x_alone.mono (by decide), cp_m_alone3.mono (by decide), trivial⟩
theorem lx_e21_3 : lx_ckB lx_T21_3 bx_0 [] lx_P21 0 0 21 3 = true := by decide +kernel
noncomputable def lx_T21_4 : List (Nat × us_C) := [(154, cn_x_alone), (241, cn_m_alone4)]
theorem lx_T21_4_ok : lt_all 60 lx_T21_4 := ⟨cp_x_alone.mono (by decide), cp_m_alone4.mono (by decide), trivial⟩
theorem lx_e21_4 : lx_ckB lx_T21_4 bx_0 [] lx_P21 0 0 21 4 = true := by decide +kernel
theorem lx_k21 : ∀ v, v < 5 → lx_KS 21 v := fun v hv => match v, hv with
  | 0, _ => lx_KS0 lx_T21_0_ok lx_e21_0
  | 1, _ => lx_KS0 lx_T21_1_ok lx_e21_1
  | 2, _ => lx_KS0 lx_T21_2_ok lx_e21_2
  | 3, _ => lx_KS0 lx_T21_3_ok lx_e21_3
  | 4, _ => lx_KS0 lx_T21_4_ok lx_e21_4
  | n + 5, h => absurd h (by omega)
noncomputable def lx_P22 : List (Nat × Nat × Nat) := [(1, 0, 4), (85, 193, 1), (86, 193, 2), (87, 193, 4), (88, 193, 6), (89, 193, 8), (90, 193, 9), (94, 264, 1), (95, 17, 0), (97, 17, 2), (124, 193, 0), (125, 264, 88), (127, 264, 90), (128, 193, 3), (129, 264, 92), (130, 264, 93), (131, 264, 94), (132, 264, 100), (133, 193, 7), (149, 197, 0), (150, 197, 1), (151, 197, 2), (152, 197, 3)]
noncomputable def lx_B22 : Int → List (Int × Int) := fun k => [(ai_lo32, ai_hi32)]
noncomputable def lx_T22_u : List (Nat × us_C) := []
theorem lx_T22_u_ok : lt_all 60 lx_T22_u := trivial
theorem lx_e22_u_0_0 : lx_ckU2 lx_T22_u lx_B22 [197, 323] lx_P22 95 ((0) + Int.ofNat 0) ((0) + Int.ofNat 0) 22 = true := by decide +kernel
theorem lx_e22_u_0_1 : lx_ckU2 lx_T22_u lx_B22 [197, 323] lx_P22 95 ((0) + Int.ofNat 0) ((0) + Int.ofNat 1) 22 = true := by decide +kernel
theorem lx_e22_u_0_2 : lx_ckU2 lx_T22_u lx_B22 [197, 323] lx_P22 95 ((0) + Int.ofNat 0) ((0) + Int.ofNat 2) 22 = true := by decide +kernel
theorem lx_e22_u_0_3 : lx_ckU2 lx_T22_u lx_B22 [197, 323] lx_P22 95 ((0) + Int.ofNat 0) ((0) + Int.ofNat 3) 22 = true := by decide +kernel
theorem lx_e22_u_0_4 : lx_ckU2 lx_T22_u lx_B22 [197, 323] lx_P22 95 ((0) + Int.ofNat 0) ((0) + Int.ofNat 4) 22 = true := by decide +kernel
theorem lx_e22_u_1_0 : lx_ckU2 lx_T22_u lx_B22 [197, 323] lx_P22 95 ((0) + Int.ofNat 1) ((0) + Int.ofNat 0) 22 = true := by decide +kernel
theorem lx_e22_u_1_1 : lx_ckU2 lx_T22_u lx_B22 [197, 323] lx_P22 95 ((0) + Int.ofNat 1) ((0) + Int.ofNat 1) 22 = true := by decide +kernel
theorem lx_e22_u_1_2 : lx_ckU2 lx_T22_u lx_B22 [197, 323] lx_P22 95 ((0) + Int.ofNat 1) ((0) + Int.ofNat 2) 22 = true := by decide +kernel
theorem lx_e22_u_1_3 : lx_ckU2 lx_T22_u lx_B22 [197, 323] lx_P22 95 ((0) + Int.ofNat 1) ((0) + Int.ofNat 3) 22 = true := by decide +kernel
theorem lx_e22_u_1_4 : lx_ckU2 lx_T22_u lx_B22 [197, 323] lx_P22 95 ((0) + Int.ofNat 1) ((0) + Int.ofNat 4) 22 = true := by decide +kernel
theorem lx_e22_u_2_0 : lx_ckU2 lx_T22_u lx_B22 [197, 323] lx_P22 95 ((0) + Int.ofNat 2) ((0) + Int.ofNat 0) 22 = true := by decide +kernel
theorem lx_e22_u_2_1 : lx_ckU2 lx_T22_u lx_B22 [197, 323] lx_P22 95 ((0) + Int.ofNat 2) ((0) + Int.ofNat 1) 22 = true := by decide +kernel
theorem lx_e22_u_2_2 : lx_ckU2 lx_T22_u lx_B22 [197, 323] lx_P22 95 ((0) + Int.ofNat 2) ((0) + Int.ofNat 2) 22 = true := by decide +kernel
theorem lx_e22_u_2_3 : lx_ckU2 lx_T22_u lx_B22 [197, 323] lx_P22 95 ((0) + Int.ofNat 2) ((0) + Int.ofNat 3) 22 = true := by decide +kernel
theorem lx_e22_u_2_4 : lx_ckU2 lx_T22_u lx_B22 [197, 323] lx_P22 95 ((0) + Int.ofNat 2) ((0) + Int.ofNat 4) 22 = true := by decide +kernel
theorem lx_e22_u_3_0 : lx_ckU2 lx_T22_u lx_B22 [197, 323] lx_P22 95 ((0) + Int.ofNat 3) ((0) + Int.ofNat 0) 22 = true := by decide +kernel
theorem lx_e22_u_3_1 : lx_ckU2 lx_T22_u lx_B22 [197, 323] lx_P22 95 ((0) + Int.ofNat 3) ((0) + Int.ofNat 1) 22 = true := by decide +kernel
theorem lx_e22_u_3_2 : lx_ckU2 lx_T22_u lx_B22 [197, 323] lx_P22 95 ((0) + Int.ofNat 3) ((0) + Int.ofNat 2) 22 = true := by decide +kernel
theorem lx_e22_u_3_3 : lx_ckU2 lx_T22_u lx_B22 [197, 323] lx_P22 95 ((0) + Int.ofNat 3) ((0) + Int.ofNat 3) 22 = true := by decide +kernel
theorem lx_e22_u_3_4 : lx_ckU2 lx_T22_u lx_B22 [197, 323] lx_P22 95 ((0) + Int.ofNat 3) ((0) + Int.ofNat 4) 22 = true := by decide +kernel
theorem lx_e22_u_4_0 : lx_ckU2 lx_T22_u lx_B22 [197, 323] lx_P22 95 ((0) + Int.ofNat 4) ((0) + Int.ofNat 0) 22 = true := by decide +kernel
theorem lx_e22_u_4_1 : lx_ckU2 lx_T22_u lx_B22 [197, 323] lx_P22 95 ((0) + Int.ofNat 4) ((0) + Int.ofNat 1) 22 = true := by decide +kernel
theorem lx_e22_u_4_2 : lx_ckU2 lx_T22_u lx_B22 [197, 323] lx_P22 95 ((0) + Int.ofNat 4) ((0) + Int.ofNat 2) 22 = true := by decide +kernel
theorem lx_e22_u_4_3 : lx_ckU2 lx_T22_u lx_B22 [197, 323] lx_P22 95 ((0) + Int.ofNat 4) ((0) + Int.ofNat 3) 22 = true := by decide +kernel
theorem lx_e22_u_4_4 : lx_ckU2 lx_T22_u lx_B22 [197, 323] lx_P22 95 ((0) + Int.ofNat 4) ((0) + Int.ofNat 4) 22 = true := by decide +kernel
theorem lx_e22_u : ∀ i, i < 5 → ∀ j, j < 5 → lx_ckU2 lx_T22_u lx_B22 [197, 323] lx_P22 95 ((0) + Int.ofNat i) ((0) + Int.ofNat j) 22 = true := fun i hi j hj => match i, hi, j, hj with
  | 0, _, 0, _ => lx_e22_u_0_0
  | 0, _, 1, _ => lx_e22_u_0_1
  | 0, _, 2, _ => lx_e22_u_0_2
  | 0, _, 3, _ => lx_e22_u_0_3
  | 0, _, 4, _ => lx_e22_u_0_4
  | 1, _, 0, _ => lx_e22_u_1_0
  | 1, _, 1, _ => lx_e22_u_1_1
  | 1, _, 2, _ => lx_e22_u_1_2
  | 1, _, 3, _ => lx_e22_u_1_3
  | 1, _, 4, _ => lx_e22_u_1_4
  | 2, _, 0, _ => lx_e22_u_2_0
  | 2, _, 1, _ => lx_e22_u_2_1
  | 2, _, 2, _ => lx_e22_u_2_2
  | 2, _, 3, _ => lx_e22_u_2_3
  | 2, _, 4, _ => lx_e22_u_2_4
  | 3, _, 0, _ => lx_e22_u_3_0
  | 3, _, 1, _ => lx_e22_u_3_1
  | 3, _, 2, _ => lx_e22_u_3_2
  | 3, _, 3, _ => lx_e22_u_3_3
  | 3, _, 4, _ => lx_e22_u_3_4
  | 4, _, 0, _ => lx_e22_u_4_0
  | 4, _, 1, _ => lx_e22_u_4_1
  | 4, _, 2, _ => lx_e22_u_4_2
  | 4, _, 3, _ => lx_e22_u_4_3
  | 4, _, 4, _ => lx_e22_u_4_4
  | 0, _, n + 5, h => absurd h (by omega)
  | 1, _, n + 5, h => absurd h (by omega)
  | 2, _, n + 5, h => absurd h (by omega)
  | 3, _, n + 5, h => absurd h (by omega)
  | 4, _, n + 5, h => absurd h (by omega)
  | n + 5, h, _, _ => absurd h (by omega)
theorem lx_u22 : lx_KU2 22 := ⟨lx_B22, [197, 323], lx_P22, 95, (0), (4), (0), (4), by decide +kernel, by decide +kernel, by decide +kernel, by decide +kernel, by decide +kernel, fun k h1 h2 k2 h3 h4 => ⟨_, lx_T22_u_ok, lx_each2 (f := fun k k2 => lx_ckU2 lx_T22_u lx_B22 [197, 323] lx_P22 95 k k2 22) lx_e22_u k h1 (by omega) k2 h3 (by omega)⟩⟩
noncomputable def lx_P23 : List (Nat × Nat × Nat) := [(1, 0, 4), (94, 264, 1), (149, 197, 0), (150, 197, 1), (151, 197, 2), (152, 197, 3)]
noncomputable def lx_B23 : Int → List (Int × Int) := fun k => if k = 1 then [(.negSucc 2147483647, .negSucc 0), (.ofNat 0, .ofNat 0), (.ofNat 1, .ofNat 1), (.ofNat 2, .ofNat 2), (.ofNat 3, .ofNat 3), (.ofNat 4, .ofNat 2147483647)] else [(ai_lo32, ai_hi32)]
noncomputable def lx_T23_u : List (Nat × us_C) := []
theorem lx_T23_u_ok : lt_all 60 lx_T23_u := trivial
theorem lx_e23_u0 : (List.range 1).all (fun j => lx_ckU lx_T23_u lx_B23 [197, 323] lx_P23 0 ((0) + Int.ofNat j) 23) = true := by decide +kernel
theorem lx_e23_u : ∀ k : Int, (0) ≤ k → k ≤ (0) → lx_ckU lx_T23_u lx_B23 [197, 323] lx_P23 0 k 23 = true := fun k h1 h2 => by
  exact lx_each (lo := (0)) (n := 1) (f := fun k => lx_ckU lx_T23_u lx_B23 [197, 323] lx_P23 0 k 23) lx_e23_u0 k (by omega) (by omega)
theorem lx_u23 : lx_KU 23 := ⟨lx_B23, [197, 323], lx_P23, 0, (0), (0), by decide +kernel, by decide +kernel, by decide +kernel, fun k h1 h2 => ⟨_, lx_T23_u_ok, lx_e23_u k h1 h2⟩⟩
noncomputable def lx_P25 : List (Nat × Nat × Nat) := [(1, 0, 4), (94, 264, 1)]
noncomputable def lx_T25_u : List (Nat × us_C) := [(158, cn_x_ofNight), (247, cn_m_ofNight)]
theorem lx_T25_u_ok : lt_all 60 lx_T25_u := ⟨cp_x_ofNight.mono (by decide), cp_m_ofNight.mono (by decide), trivial⟩
theorem lx_e25_u : lx_ckU lx_T25_u bx_0 [] lx_P25 0 0 25 = true := by decide +kernel
theorem lx_u25 : lx_KU 25 := lx_KU0 (by decide +kernel) lx_T25_u_ok lx_e25_u
noncomputable def lx_P26 : List (Nat × Nat × Nat) := [(1, 0, 4), (18, 44, 11), (19, 44, 12), (31, 50, 11), (32, 50, 12), (44, 56, 11), (45, 56, 12), (57, 62, 11), (58, 62, 12), (94, 264, 1)]
noncomputable def lx_T26_u : List (Nat × us_C) := [(159, cn_x_starts), (248, cn_m_starts)]
theorem lx_T26_u_ok : lt_all 60 lx_T26_u := ⟨cp_x_starts.mono (by decide), cp_m_starts.mono (by decide), trivial⟩
theorem lx_e26_u : lx_ckU lx_T26_u bx_0 [] lx_P26 0 0 26 = true := by decide +kernel
theorem lx_u26 : lx_KU 26 := lx_KU0 (by decide +kernel) lx_T26_u_ok lx_e26_u
noncomputable def lx_P27 : List (Nat × Nat × Nat) := [(1, 0, 4), (91, 198, 0), (92, 198, 3), (93, 198, 4), (94, 264, 1), (134, 264, 106)]
noncomputable def lx_T27_u : List (Nat × us_C) := [(160, cn_x_way), (252, cn_m_way)]
theorem lx_T27_u_ok : lt_all 60 lx_T27_u := ⟨cp_x_way.mono (by decide), cp_m_way.mono (by decide), trivial⟩
theorem lx_e27_u : lx_ckU lx_T27_u bx_0 [] lx_P27 0 0 27 = true := by decide +kernel
theorem lx_u27 : lx_KU 27 := lx_KU0 (by decide +kernel) lx_T27_u_ok lx_e27_u
noncomputable def lx_P28 : List (Nat × Nat × Nat) := [(1, 0, 4), (94, 264, 1)]
noncomputable def lx_T28_u : List (Nat × us_C) := [(161, cn_x_act), (253, cn_m_act)]
theorem lx_T28_u_ok : lt_all 60 lx_T28_u := ⟨cp_x_act.mono (by decide), cp_m_act.mono (by decide), trivial⟩
theorem lx_e28_u : lx_ckU lx_T28_u bx_0 [] lx_P28 0 0 28 = true := by decide +kernel
theorem lx_u28 : lx_KU 28 := lx_KU0 (by decide +kernel) lx_T28_u_ok lx_e28_u
