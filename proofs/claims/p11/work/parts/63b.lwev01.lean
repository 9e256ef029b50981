/-! THE LAW: what each kind of call comes to (printed by lawq.py) 1 -/
noncomputable def lx_P14 : List (Nat × Nat × Nat) := [(1, 0, 4), (99, 264, 1)]
noncomputable def lx_T14_u : List (Nat × us_C) := [(147, cn_x_units), (223, cn_m_units)]
theorem lx_T14_u_ok : lt_all 60 lx_T14_u := ⟨cp_x_units.mono (by decide), cp_m_units.mono (by decide), trivial⟩
theorem lx_e14_u : lx_ckU lx_T14_u bx_0 [] lx_P14 0 0 14 = true := by decide +kernel
theorem lx_u14 : lx_KU 14 := lx_KU0 (by decide +kernel) lx_T14_u_ok lx_e14_u
noncomputable def lx_P15 : List (Nat × Nat × Nat) := [(1, 0, 4), (22, 46, 4), (36, 52, 4), (50, 58, 4), (64, 64, 4), (73, 87, 2), (74, 87, 3), (75, 87, 4), (76, 100, 0), (77, 100, 1), (78, 100, 2), (79, 122, 5), (80, 122, 6), (81, 122, 7), (82, 122, 8), (83, 122, 9), (84, 122, 10), (99, 264, 1), (119, 264, 59), (120, 264, 60), (124, 264, 69), (125, 264, 70), (126, 264, 71), (127, 264, 72)]
noncomputable def lx_T15_0 : List (Nat × us_C) := [(148, cn_x_plan), (228, cn_m_plan0)]
theorem lx_T15_0_ok : lt_all 60 lx_T15_0 := ⟨cp_x_plan.mono (by decide), cp_m_plan0.mono (by decide), trivial⟩
theorem lx_e15_0 : lx_ckB lx_T15_0 bx_0 [] lx_P15 0 0 15 0 = true := by decide +kernel
noncomputable def lx_T15_1 : List (Nat × us_C) := [(148, cn_x_plan), (228, cn_m_plan1)]
theorem lx_T15_1_ok : lt_all 60 lx_T15_1 := ⟨cp_x_plan.mono (by decide), cp_m_plan1.mono (by decide), trivial⟩
theorem lx_e15_1 : lx_ckB lx_T15_1 bx_0 [] lx_P15 0 0 15 1 = true := by decide +kernel
noncomputable def lx_T15_2 : List (Nat × us_C) := [(148, cn_x_plan), (228, cn_m_plan2)]
theorem lx_T15_2_ok : lt_all 60 lx_T15_2 := ⟨cp_x_plan.mono (by decide), cp_m_plan2.mono (by decide), trivial⟩
theorem lx_e15_2 : lx_ckB lx_T15_2 bx_0 [] lx_P15 0 0 15 2 = true := by decide +kernel
noncomputable def lx_T15_3 : List (Nat × us_C) := [(148, cn_x_plan), (228, cn_m_plan3)]
theorem lx_T15_3_ok : lt_all 60 lx_T15_3 := ⟨cp_x_plan.mono (by decide), cp_m_plan3.mono (by decide), trivial⟩
theorem lx_e15_3 : lx_ckB lx_T15_3 bx_0 [] lx_P15 0 0 15 3 = true := by decide +kernel
noncomputable def lx_T15_4 : List (Nat × us_C) := [(148, cn_x_plan), (228, cn_m_plan4)]
theorem lx_T15_4_ok : lt_all 60 lx_T15_4 := ⟨cp_x_plan.mono (by decide), cp_m_plan4.mono (by decide), trivial⟩
theorem lx_e15_4 : lx_ckB lx_T15_4 bx_0 [] lx_P15 0 0 15 4 = true := by decide +kernel
theorem lx_k15 : ∀ v, v < 5 → lx_KS 15 v := fun v hv => match v, hv with
  | 0, _ => lx_KS0 lx_T15_0_ok lx_e15_0
  | 1, _ => lx_KS0 lx_T15_1_ok lx_e15_1
  | 2, _ => lx_KS0 lx_T15_2_ok lx_e15_2
  | 3, _ => lx_KS0 lx_T15_3_ok lx_e15_3
  | 4, _ => lx_KS0 lx_T15_4_ok lx_e15_4
  | n + 5, h => absurd h (by omega)
noncomputable def lx_P16 : List (Nat × Nat × Nat) := [(1, 0, 4), (99, 264, 1)]
noncomputable def lx_T16_u : List (Nat × us_C) := [(149, cn_x_planned), (231, cn_m_planned)]
theorem lx_T16_u_ok : lt_all 60 lx_T16_u := ⟨cp_x_planned.mono (by decide), cp_m_planned.mono (by decide), trivial⟩
theorem lx_e16_u : lx_ckU lx_T16_u bx_0 [] lx_P16 0 0 16 = true := by decide +kernel
theorem lx_u16 : lx_KU 16 := lx_KU0 (by decide +kernel) lx_T16_u_ok lx_e16_u
noncomputable def lx_P17 : List (Nat × Nat × Nat) := [(1, 0, 4), (99, 264, 1)]
noncomputable def lx_T17_u : List (Nat × us_C) := [(150, cn_x_price), (232, cn_m_price)]
theorem lx_T17_u_ok : lt_all 60 lx_T17_u := ⟨cp_x_price.mono (by decide), cp_m_price.mono (by decide), trivial⟩
theorem lx_e17_u : lx_ckU lx_T17_u bx_0 [] lx_P17 0 0 17 = true := by decide +kernel
theorem lx_u17 : lx_KU 17 := lx_KU0 (by decide +kernel) lx_T17_u_ok lx_e17_u
noncomputable def lx_P18 : List (Nat × Nat × Nat) := [(1, 0, 4), (99, 264, 1)]
noncomputable def lx_T18_u : List (Nat × us_C) := [(151, cn_x_pays), (235, cn_m_pays)]
theorem lx_T18_u_ok : lt_all 60 lx_T18_u := ⟨cp_x_pays.mono (by decide), cp_m_pays.mono (by decide), trivial⟩
theorem lx_e18_u : lx_ckU lx_T18_u bx_0 [] lx_P18 0 0 18 = true := by decide +kernel
theorem lx_u18 : lx_KU 18 := lx_KU0 (by decide +kernel) lx_T18_u_ok lx_e18_u
noncomputable def lx_P19 : List (Nat × Nat × Nat) := [(1, 0, 4), (22, 46, 4), (36, 52, 4), (50, 58, 4), (64, 64, 4), (73, 87, 2), (74, 87, 3), (75, 87, 4), (85, 134, 0), (86, 134, 1), (99, 264, 1), (119, 264, 59), (120, 264, 60), (128, 264, 83)]
noncomputable def lx_T19_0 : List (Nat × us_C) := [(152, cn_x_game), (239, cn_m_game0)]
theorem lx_T19_0_ok : lt_all 60 lx_T19_0 := ⟨cp_x_game.mono (by decide), cp_m_game0.mono (by decide), trivial⟩
theorem lx_e19_0 : lx_ckB lx_T19_0 bx_0 [] lx_P19 0 0 19 0 = true := by decide +kernel
noncomputable def lx_T19_1 : List (Nat × us_C) := [(152, cn_x_game), (239, cn_m_game1)]
theorem lx_T19_1_ok : lt_all 60 lx_T19_1 := ⟨cp_x_game.mono (by decide), cp_m_game1.mono (by decide), trivial⟩
theorem lx_e19_1 : lx_ckB lx_T19_1 bx_0 [] lx_P19 0 0 19 1 = true := by decide +kernel
noncomputable def lx_T19_2 : List (Nat × us_C) := [(152, cn_x_game), (239, cn_m_game2)]
theorem lx_T19_2_ok : lt_all 60 lx_T19_2 := ⟨cp_x_game.mono (by decide), cp_m_game2.mono (by decide), trivial⟩
theorem lx_e19_2 : lx_ckB lx_T19_2 bx_0 [] lx_P19 0 0 19 2 = true := by decide +kernel
noncomputable def lx_T19_3 : List (Nat × us_C) := [(152, cn_x_game), (239, cn_m_game3)]
theorem lx_T19_3_ok : lt_all 60 lx_T19_3 := ⟨cp_x_game.mono (by decide), cp_m_game3.mono (by decide), trivial⟩
theorem lx_e19_3 : lx_ckB lx_T19_3 bx_0 [] lx_P19 0 0 19 3 = true := by decide +kernel
noncomputable def lx_T19_4 : List (Nat × us_C) := [(152, cn_x_game), (239, cn_m_game4)]
theorem lx_T19_4_ok : lt_all 60 lx_T19_4 := ⟨cp_x_game.mono (by decide), cp_m_game4.mono (by decide), trivial⟩
theorem lx_e19_4 : lx_ckB lx_T19_4 bx_0 [] lx_P19 0 0 19 4 = true := by decide +kernel
theorem lx_k19 : ∀ v, v < 5 → lx_KS 19 v := fun v hv => match v, hv with
  | 0, _ => lx_KS0 lx_T19_0_ok lx_e19_0
  | 1, _ => lx_KS0 lx_T19_1_ok lx_e19_1
  | 2, _ => lx_KS0 lx_T19_2_ok lx_e19_2
  | 3, _ => lx_KS0 lx_T19_3_ok lx_e19_3
  | 4, _ => lx_KS0 lx_T19_4_ok lx_e19_4
  | n + 5, h => absurd h (by omega)
