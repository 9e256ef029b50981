/-! THE LAW: what each kind of call comes to (printed by lawq.py) 1 -/
noncomputable def lx_P16 : List (Nat × Nat × Nat) := [(1, 0, 4), (70, 264, 1)]
noncomputable def lx_T16_u : List (Nat × us_C) := [(149, cn_x_planned), (231, cn_m_planned)]
theorem lx_T16_u_ok : lt_all 60 lx_T16_u := ⟨cp_x_planned.mono (by decide), cp_m_planned.mono (by decide), trivial⟩
theorem lx_e16_u : lx_ckU lx_T16_u bx_0 [] lx_P16 0 0 16 = true := by decide +kernel
theorem lx_u16 : lx_KU 16 := lx_KU0 (by decide +kernel) lx_T16_u_ok lx_e16_u
noncomputable def lx_P17 : List (Nat × Nat × Nat) := [(1, 0, 4), (70, 264, 1)]
noncomputable def lx_T17_u : List (Nat × us_C) := [(150, cn_x_price), (232, cn_m_price)]
theorem lx_T17_u_ok : lt_all 60 lx_T17_u := ⟨cp_x_price.mono (by decide), cp_m_price.mono (by decide), trivial⟩
theorem lx_e17_u : lx_ckU lx_T17_u bx_0 [] lx_P17 0 0 17 = true := by decide +kernel
theorem lx_u17 : lx_KU 17 := lx_KU0 (by decide +kernel) lx_T17_u_ok lx_e17_u
noncomputable def lx_P18 : List (Nat × Nat × Nat) := [(1, 0, 4), (70, 264, 1)]
noncomputable def lx_T18_u : List (Nat × us_C) := [(151, cn_x_pays), (235, cn_m_pays)]
theorem lx_T18_u_ok : lt_all 60 lx_T18_u := ⟨cp_x_pays.mono (by decide), cp_m_pays.mono (by decide), trivial⟩
theorem lx_e18_u : lx_ckU lx_T18_u bx_0 [] lx_P18 0 0 18 = true := by decide +kernel
theorem lx_u18 : lx_KU 18 := lx_KU0 (by decide +kernel) lx_T18_u_ok lx_e18_u
noncomputable def lx_P19 : List (Nat × Nat × Nat) := [(1, 0, 4), (12, 46, 4), (20, 52, 4), (28, 58, 4), (36, 64, 4), (44, 87, 2), (45, 87, 3), (46, 87, 4), (56, 134, 0), (57, 134, 1), (70, 264, 1), (90, 264, 59), (91, 264, 60), (99, 264, 83)]
noncomputable def lx_T19_0 : List (Nat × us_C) := [(152, cn_x_game), (239, cn_m_game0)]
theorem lx_T19_0_ok : lt_all 60 lx_T19_0 := ⟨cp_x_game.mono (by decide), cp_m_game0.mono (by decide), trivial⟩
theorem lx_e19_0 : lx_ckB lx_T19_0 bx_0 [] lx_P19 0 0 19 0 = true := by decide +kernel
noncomputable def lx_T19_1 : List (Nat × us_C) := [(152, cn_x_game), (239, cn_m_game1)]
theorem lx_T19_1_ok : lt_all 60 lx_T19_1 := ⟨cp_x_game.mono (by decide), cp_m_game1.mono (by decide), trivial⟩
theorem lx_e19_1 : lx_ckB lx_T19_1 bx_0 [] lx_P19 0 0 19 1 = true := by decide +kernel
noncomputable def lx_T19_2 : List (Nat × us_C) := [(152, cn_x_game), (239, cn_m_game2)]
theorem lx_T19_2_ok : lt_all 60 lx_T19_2 := ⟨cp_x_game.mono (by decide), cp_m_game2.mono (by decide), trivial⟩
theorem lx_e19_2 : lx_ckB lx_T19_2 bx_0 [] lx_P19 0 0 19 2 = true := by decide +kernel
noncomputable def lx_T19_3 : List (Nat × us_C) := [(152, cn_x_game), (239, cn_m_game3)]
theorem lx_T19_3_ok : lt_all 60 lx_T19_3 := ⟨cp_x_game.mono (by decide), cp_m_game3.mono (by decide), trivial⟩
theorem lx_e19_3 : lx_ckB lx_T19_3 bx_0 [] lx_P19 0 0 19 3 = true := by decide +kernel
noncomputable def lx_T19_4 : List (Nat × us_C) := [(152, cn_x_game), (239, cn_m_game4)]
theorem lx_T19_4_ok : lt_all 60 lx_T19_4 := ⟨cp_x_game.mono (by decide), cp_m_game4.mono (by decide), trivial⟩
theorem lx_e19_4 : lx_ckB lx_T19_4 bx_0 [] lx_P19 0 0 19 4 = true := by decide +kernel
theorem lx_k19 : ∀ v, v < 5 → lx_KS 19 v := fun v hv => match v, hv with
  | 0, _ => lx_KS0 lx_T19_0_ok lx_e19_0
  | 1, _ => lx_KS0 lx_T19_1_ok lx_e19_1
  | 2, _ => lx_KS0 lx_T19_2_ok lx_e19_2
  | 3, _ => lx_KS0 lx_T19_3_ok lx_e19_3
  | 4, _ => lx_KS0 lx_T19_4_ok lx_e19_4
  | n + 5, h => absurd h (by omega)
noncomputable def lx_P20 : List (Nat × Nat × Nat) := [(1, 0, 4), (70, 264, 1)]
noncomputable def lx_T20_u : List (Nat × us_C) := [(153, cn_x_hides), (240, cn_m_hides)]
theorem lx_T20_u_ok : lt_all 60 lx_T20_u := ⟨cp_x_hides.mono (by decide), cp_m_hides.mono (by decide), trivial⟩
theorem lx_e20_u : lx_ckU lx_T20_u bx_0 [] lx_P20 0 0 20 = true := by decide +kernel
theorem lx_u20 : lx_KU 20 := lx_KU0 (by decide +kernel) lx_T20_u_ok lx_e20_u
noncomputable def lx_P21 : List (Nat × Nat × Nat) := [(1, 0, 4), (12, 46, 4), (20, 52, 4), (28, 58, 4), (36, 64, 4), (44, 87, 2), (45, 87, 3), (46, 87, 4), (70, 264, 1), (90, 264, 59), (91, 264, 60), (92, 264, 61)]
noncomputable def lx_T21_0 : List (Nat × us_C) := [(154, cn_x_alone), (241, cn_m_alone0)]
theorem lx_T21_0_ok : lt_all 60 lx_T21_0 := ⟨cp_x_alone.mono (by decide), cp_m_alone0.mono (by decide), trivial⟩
theorem lx_e21_0 : lx_ckB lx_T21_0 bx_0 [] lx_P21 0 0 21 0 = true := by decide +kernel
noncomputable def lx_T21_1 : List (Nat × us_C) := [(154, cn_x_alone), (241, cn_m_alone1)]
theorem lx_T21_1_ok : lt_all 60 lx_T21_1 := ⟨cp_x_alone.mono (by decide), cp_m_alone1.mono (by decide), trivial⟩
theorem lx_e21_1 : lx_ckB lx_T21_1 bx_0 [] lx_P21 0 0 21 1 = true := by decide +kernel
noncomputable def lx_T21_2 : List (Nat × us_C) := [(154, cn_x_alone), (241, cn_m_alone2)]
theorem lx_T21_2_ok : lt_all 60 lx_T21_2 := ⟨cp_x_alone.mono (by decide), cp_m_alone2.mono (by decide), trivial⟩
theorem lx_e21_2 : lx_ckB lx_T21_2 bx_0 [] lx_P21 0 0 21 2 = true := by decide +kernel
noncomputable def lx_T21_3 : List (Nat × us_C) := [(154, cn_x_alone), (241, cn_m_alone3)]
theorem lx_T21_3_ok : lt_all 60 lx_T21_3 := ⟨cp_x_alone.mono (by decide), cp_m_alone3.mono (by decide), trivial⟩
theorem lx_e21_3 : lx_ckB lx_T21_3 bx_0 [] lx_P21 0 0 21 3 = true := by decide +kernel
noncomputable def lx_T21_4 : List (Nat × us_C) := [(154, cn_x_alone), (241, cn_m_alone4)]
theorem lx_T21_4_ok : lt_all 60 lx_T21_4 := ⟨cp_x_alone.mono (by decide), cp_m_alone4.mono (by decide), trivial⟩
theorem lx_e21_4 : lx_ckB lx_T21_4 bx_0 [] lx_P21 0 0 21 4 = true := by decide +kernel
theorem lx_k21 : ∀ v, v < 5 → lx_KS 21 v := fun v hv => match v, hv with
  | 0, _ => lx_KS0 lx_T21_0_ok lx_e21_0
  | 1, _ => lx_KS0 lx_T21_1_ok lx_e21_1
  | 2, _ => lx_KS0 lx_T21_2_ok lx_e21_2
  | 3, _ => lx_KS0 lx_T21_3_ok lx_e21_3
  | 4, _ => lx_KS0 lx_T21_4_ok lx_e21_4
  | n + 5, h => absurd h (by omega)
