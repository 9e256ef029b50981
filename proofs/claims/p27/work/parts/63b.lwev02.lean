/-! THE LAW: what each kind of call comes to (printed by lawq.py) 2 -/
noncomputable def lx_P20 : List (Nat × Nat × Nat) := [(1, 0, 4), (71, 264, 1)]
noncomputable def lx_T20_u : List (Nat × us_C) := [(153, cn_x_hides), (240, cn_m_hides)]
theorem lx_T20_u_ok : lt_all 60 lx_T20_u := ⟨cp_x_hides.mono (by decide), cp_m_hides.mono (by decide), trivial⟩
theorem lx_e20_u : lx_ckU lx_T20_u bx_0 [] lx_P20 0 0 20 = true := by decide +kernel
theorem lx_u20 : lx_KU 20 := lx_KU0 (by decide +kernel) lx_T20_u_ok lx_e20_u
noncomputable def lx_P21 : List (Nat × Nat × Nat) := [(1, 0, 4), (12, 46, 4), (20, 52, 4), (28, 58, 4), (36, 64, 4), (46, 87, 2), (47, 87, 3), (48, 87, 4), (71, 264, 1), (91, 264, 59), (92, 264, 60), (93, 264, 61)]
noncomputable def lx_T21_0 : List (Nat × us_C) := [(154, cn_x_alone), (241, cn_m_alone0)]
theorem lx_T21_0_ok : lt_all 60 lx_T21_0 := ⟨cp_x_alone.mono (by decide), cp_m_alone0.mono (by decide), trivial⟩
theorem lx_e21_0 : lx_ckB lx_T21_0 bx_0 [] lx_P21 0 0 21 0 = true := by decide +kernel
noncomputable def lx_T21_1 : List (Nat × us_C) := [(154, cn_x_alone), (241, cn_m_alone1)]
theorem lx_T21_1_ok : lt_all 60 lx_T21_1 := ⟨cp_x_alone.mono (by decide), cp_m_alone1.mono (by decide), trivial⟩
theorem lx_e21_1 : lx_ckB lx_T21_1 bx_0 [] lx_P21 0 0 21 1 = true := by decide +kernel
noncomputable def lx_T21_2 : List (Nat × us_C) := [(154, cn_x_alone), (241, cn_m_alone2)]
theorem lx_T21_2_ok : lt_all 60 lx_T21_2 := ⟨cp_x_alone.mono (by decide), cp_m_alone2.mono (by decide), trivial⟩
theorem lx_e21_2 : lx_ckB lx_T21_2 bx_0 [] lx_P21 0 0 21 2 = true := by decide +kernel
noncomputable def lx_T21_3 : List (Nat × us_C) := [(154, cn_x_alone), (241, cn_m_alone3)]
theorem lx_T21_3_ok : lt_all 60 lx_T21_3 := ⟨cp_x_alone.mono (by decide), cp_m_alone3.mono (by decide), trivial⟩
theorem lx_e21_3 : lx_ckB lx_T21_3 bx_0 [] lx_P21 0 0 21 3 = true := by decide +kernel
noncomputable def lx_T21_4 : List (Nat × us_C) := [(154, cn_x_alone), (241, cn_m_alone4)]
theorem lx_T21_4_ok : lt_all 60 lx_T21_4 := ⟨cp_x_alone.mono (by decide), cp_m_alone4.mono (by decide), trivial⟩
theorem lx_e21_4 : lx_ckB lx_T21_4 bx_0 [] lx_P21 0 0 21 4 = true := by decide +kernel
theorem lx_k21 : ∀ v, v < 5 → lx_KS 21 v := fun v hv => match v, hv with
  | 0, _ => lx_KS0 lx_T21_0_ok lx_e21_0
  | 1, _ => lx_KS0 lx_T21_1_ok lx_e21_1
  | 2, _ => lx_KS0 lx_T21_2_ok lx_e21_2
  | 3, _ => lx_KS0 lx_T21_3_ok lx_e21_3
  | 4, _ => lx_KS0 lx_T21_4_ok lx_e21_4
  | n + 5, h => absurd h (by omega)
noncomputable def lx_P23 : List (Nat × Nat × Nat) := [(1, 0, 4), (71, 264, 1), (374, 197, 0), (375, 197, 1), (376, 197, 2), (377, 197, 3)]
noncomputable def lx_B23 : Int → List (Int × Int) := fun k => if k = 1 then [(.negSucc 2147483647, .negSucc 0), (.ofNat 0, .ofNat 0), (.ofNat 1, .ofNat 1), (.ofNat 2, .ofNat 2), (.ofNat 3, .ofNat 3), (.ofNat 4, .ofNat 2147483647)] else [(ai_lo32, ai_hi32)]
noncomputable def lx_T23_u : List (Nat × us_C) := []
theorem lx_T23_u_ok : lt_all 60 lx_T23_u := trivial
theorem lx_e23_u0 : (List.range 1).all (fun j => lx_ckU lx_T23_u lx_B23 [197, 323] lx_P23 0 ((0) + Int.ofNat j) 23) = true := by decide +kernel
theorem lx_e23_u : ∀ k : Int, (0) ≤ k → k ≤ (0) → lx_ckU lx_T23_u lx_B23 [197, 323] lx_P23 0 k 23 = true := fun k h1 h2 => by
  exact lx_each (lo := (0)) (n := 1) (f := fun k => lx_ckU lx_T23_u lx_B23 [197, 323] lx_P23 0 k 23) lx_e23_u0 k (by omega) (by omega)
theorem lx_u23 : lx_KU 23 := ⟨lx_B23, [197, 323], lx_P23, 0, (0), (0), by decide +kernel, by decide +kernel, by decide +kernel, fun k h1 h2 => ⟨_, lx_T23_u_ok, lx_e23_u k h1 h2⟩⟩
noncomputable def lx_P25 : List (Nat × Nat × Nat) := [(1, 0, 4), (71, 264, 1)]
noncomputable def lx_T25_u : List (Nat × us_C) := []
theorem lx_T25_u_ok : lt_all 60 lx_T25_u := trivial
theorem lx_e25_u : lx_ckU lx_T25_u bx_0 [] lx_P25 0 0 25 = true := by decide +kernel
theorem lx_u25 : lx_KU 25 := lx_KU0 (by decide +kernel) lx_T25_u_ok lx_e25_u
noncomputable def lx_P26 : List (Nat × Nat × Nat) := [(1, 0, 4), (71, 264, 1), (390, 44, 11), (391, 50, 11), (392, 56, 11), (393, 62, 11), (394, 44, 12), (395, 50, 12), (396, 56, 12), (397, 62, 12)]
noncomputable def lx_B26 : Int → List (Int × Int) := fun k => if k = 1 then [(.negSucc 2147483647, .negSucc 0), (.ofNat 0, .ofNat 0), (.ofNat 1, .ofNat 1), (.ofNat 2, .ofNat 2), (.ofNat 3, .ofNat 3), (.ofNat 4, .ofNat 2147483647)] else [(ai_lo32, ai_hi32)]
noncomputable def lx_T26_u : List (Nat × us_C) := []
theorem lx_T26_u_ok : lt_all 60 lx_T26_u := trivial
theorem lx_e26_u0 : (List.range 1).all (fun j => lx_ckU lx_T26_u lx_B26 [327, 328] lx_P26 0 ((0) + Int.ofNat j) 26) = true := by decide +kernel
theorem lx_e26_u : ∀ k : Int, (0) ≤ k → k ≤ (0) → lx_ckU lx_T26_u lx_B26 [327, 328] lx_P26 0 k 26 = true := fun k h1 h2 => by
  exact lx_each (lo := (0)) (n := 1) (f := fun k => lx_ckU lx_T26_u lx_B26 [327, 328] lx_P26 0 k 26) lx_e26_u0 k (by omega) (by omega)
theorem lx_u26 : lx_KU 26 := ⟨lx_B26, [327, 328], lx_P26, 0, (0), (0), by decide +kernel, by decide +kernel, by decide +kernel, fun k h1 h2 => ⟨_, lx_T26_u_ok, lx_e26_u k h1 h2⟩⟩
noncomputable def lx_P27 : List (Nat × Nat × Nat) := [(1, 0, 4), (68, 198, 0), (69, 198, 3), (70, 198, 4), (71, 264, 1), (111, 264, 106)]
noncomputable def lx_T27_u : List (Nat × us_C) := [(160, cn_x_way), (252, cn_m_way)]
theorem lx_T27_u_ok : lt_all 60 lx_T27_u := ⟨cp_x_way.mono (by decide), cp_m_way.mono (by decide), trivial⟩
theorem lx_e27_u : lx_ckU lx_T27_u bx_0 [] lx_P27 0 0 27 = true := by decide +kernel
theorem lx_u27 : lx_KU 27 := lx_KU0 (by decide +kernel) lx_T27_u_ok lx_e27_u
noncomputable def lx_P28 : List (Nat × Nat × Nat) := [(1, 0, 4), (71, 264, 1)]
noncomputable def lx_T28_u : List (Nat × us_C) := [(161, cn_x_act), (253, cn_m_act)]
theorem lx_T28_u_ok : lt_all 60 lx_T28_u := ⟨cp_x_act.mono (by decide), cp_m_act.mono (by decide), trivial⟩
theorem lx_e28_u : lx_ckU lx_T28_u bx_0 [] lx_P28 0 0 28 = true := by decide +kernel
theorem lx_u28 : lx_KU 28 := lx_KU0 (by decide +kernel) lx_T28_u_ok lx_e28_u
noncomputable def lx_P29 : List (Nat × Nat × Nat) := [(1, 0, 4), (4, 16, 13), (71, 264, 1), (112, 264, 107)]
noncomputable def lx_T29_u : List (Nat × us_C) := [(162, cn_x_evenings), (254, cn_m_evenings)]
theorem lx_T29_u_ok : lt_all 60 lx_T29_u := ⟨cp_x_evenings.mono (by decide), cp_m_evenings.mono (by decide), trivial⟩
theorem lx_e29_u : lx_ckU lx_T29_u bx_0 [] lx_P29 0 0 29 = true := by decide +kernel
theorem lx_u29 : lx_KU 29 := lx_KU0 (by decide +kernel) lx_T29_u_ok lx_e29_u
