/-! THE LAW: what each kind of call comes to (printed by lawq.py) 6 -/
noncomputable def lx_P26 : List (Nat × Nat × Nat) := [(1, 0, 4), (21, 44, 11), (22, 44, 12), (36, 50, 11), (37, 50, 12), (51, 56, 11), (52, 56, 12), (66, 62, 11), (67, 62, 12), (106, 264, 1)]
noncomputable def lx_T26_0 : List (Nat × us_C) := [(159, cn_x_starts), (248, cn_m_starts)]
theorem lx_T26_0_ok : lt_all 60 lx_T26_0 := ⟨cp_x_starts.mono (by decide), cp_m_starts.mono (by decide), trivial⟩
theorem lx_e26_0 : lx_ckB lx_T26_0 bx_0 [] lx_P26 0 0 26 0 = true := by decide +kernel
theorem lx_e26_1 : lx_ckB lx_T26_0 bx_0 [] lx_P26 0 0 26 1 = true := by decide +kernel
theorem lx_e26_2 : lx_ckB lx_T26_0 bx_0 [] lx_P26 0 0 26 2 = true := by decide +kernel
theorem lx_e26_3 : lx_ckB lx_T26_0 bx_0 [] lx_P26 0 0 26 3 = true := by decide +kernel
theorem lx_e26_4 : lx_ckB lx_T26_0 bx_0 [] lx_P26 0 0 26 4 = true := by decide +kernel
theorem lx_k26 : ∀ v, v < 5 → lx_KS 26 v := fun v hv => match v, hv with
  | 0, _ => lx_KS0 lx_T26_0_ok lx_e26_0
  | 1, _ => lx_KS0 lx_T26_0_ok lx_e26_1
  | 2, _ => lx_KS0 lx_T26_0_ok lx_e26_2
  | 3, _ => lx_KS0 lx_T26_0_ok lx_e26_3
  | 4, _ => lx_KS0 lx_T26_0_ok lx_e26_4
  | n + 5, h => absurd h (by omega)
noncomputable def lx_P27 : List (Nat × Nat × Nat) := [(1, 0, 4), (103, 198, 0), (104, 198, 3), (105, 198, 4), (106, 264, 1), (146, 264, 106)]
noncomputable def lx_T27_0 : List (Nat × us_C) := [(160, cn_x_way), (252, cn_m_way)]
theorem lx_T27_0_ok : lt_all 60 lx_T27_0 := ⟨cp_x_way.mono (by decide), cp_m_way.mono (by decide), trivial⟩
theorem lx_e27_0 : lx_ckB lx_T27_0 bx_0 [] lx_P27 0 0 27 0 = true := by decide +kernel
theorem lx_e27_1 : lx_ckB lx_T27_0 bx_0 [] lx_P27 0 0 27 1 = true := by decide +kernel
theorem lx_e27_2 : lx_ckB lx_T27_0 bx_0 [] lx_P27 0 0 27 2 = true := by decide +kernel
theorem lx_e27_3 : lx_ckB lx_T27_0 bx_0 [] lx_P27 0 0 27 3 = true := by decide +kernel
theorem lx_e27_4 : lx_ckB lx_T27_0 bx_0 [] lx_P27 0 0 27 4 = true := by decide +kernel
theorem lx_k27 : ∀ v, v < 5 → lx_KS 27 v := fun v hv => match v, hv with
  | 0, _ => lx_KS0 lx_T27_0_ok lx_e27_0
  | 1, _ => lx_KS0 lx_T27_0_ok lx_e27_1
  | 2, _ => lx_KS0 lx_T27_0_ok lx_e27_2
  | 3, _ => lx_KS0 lx_T27_0_ok lx_e27_3
  | 4, _ => lx_KS0 lx_T27_0_ok lx_e27_4
  | n + 5, h => absurd h (by omega)
noncomputable def lx_P28 : List (Nat × Nat × Nat) := [(1, 0, 4), (106, 264, 1)]
noncomputable def lx_T28_0 : List (Nat × us_C) := [(161, cn_x_act), (253, cn_m_act)]
theorem lx_T28_0_ok : lt_all 60 lx_T28_0 := ⟨cp_x_act.mono (by decide), cp_m_act.mono (by decide), trivial⟩
theorem lx_e28_0 : lx_ckB lx_T28_0 bx_0 [] lx_P28 0 0 28 0 = true := by decide +kernel
theorem lx_e28_1 : lx_ckB lx_T28_0 bx_0 [] lx_P28 0 0 28 1 = true := by decide +kernel
theorem lx_e28_2 : lx_ckB lx_T28_0 bx_0 [] lx_P28 0 0 28 2 = true := by decide +kernel
theorem lx_e28_3 : lx_ckB lx_T28_0 bx_0 [] lx_P28 0 0 28 3 = true := by decide +kernel
theorem lx_e28_4 : lx_ckB lx_T28_0 bx_0 [] lx_P28 0 0 28 4 = true := by decide +kernel
theorem lx_k28 : ∀ v, v < 5 → lx_KS 28 v := fun v hv => match v, hv with
  | 0, _ => lx_KS0 lx_T28_0_ok lx_e28_0
  | 1, _ => lx_KS0 lx_T28_0_ok lx_e28_1
  | 2, _ => lx_KS0 lx_T28_0_ok lx_e28_2
  | 3, _ => lx_KS0 lx_T28_0_ok lx_e28_3
  | 4, _ => lx_KS0 lx_T28_0_ok lx_e28_4
  | n + 5, h => absurd h (by omega)
noncomputable def lx_P29 : List (Nat × Nat × Nat) := [(1, 0, 4), (4, 16, 13), (106, 264, 1), (147, 264, 107)]
noncomputable def lx_T29_0 : List (Nat × us_C) := [(162, cn_x_evenings), (254, cn_m_evenings)]
theorem lx_T29_0_ok : lt_all 60 lx_T29_0 := ⟨cp_x_evenings.mono (by decide), cp_m_evenings.mono (by decide), trivial⟩
theorem lx_e29_0 : lx_ckB lx_T29_0 bx_0 [] lx_P29 0 0 29 0 = true := by decide +kernel
theorem lx_e29_1 : lx_ckB lx_T29_0 bx_0 [] lx_P29 0 0 29 1 = true := by decide +kernel
theorem lx_e29_2 : lx_ckB lx_T29_0 bx_0 [] lx_P29 0 0 29 2 = true := by decide +kernel
theorem lx_e29_3 : lx_ckB lx_T29_0 bx_0 [] lx_P29 0 0 29 3 = true := by decide +kernel
theorem lx_e29_4 : lx_ckB lx_T29_0 bx_0 [] lx_P29 0 0 29 4 = true := by decide +kernel
theorem lx_k29 : ∀ v, v < 5 → lx_KS 29 v := fun v hv => match v, hv with
  | 0, _ => lx_KS0 lx_T29_0_ok lx_e29_0
  | 1, _ => lx_KS0 lx_T29_0_ok lx_e29_1
  | 2, _ => lx_KS0 lx_T29_0_ok lx_e29_2
  | 3, _ => lx_KS0 lx_T29_0_ok lx_e29_3
  | 4, _ => lx_KS0 lx_T29_0_ok lx_e29_4
  | n + 5, h => absurd h (by omega)
