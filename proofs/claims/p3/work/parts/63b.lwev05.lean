/-! THE LAW: what each kind of call comes to (printed by lawq.py) 5 -/
noncomputable def lx_P22 : List (Nat × Nat × Nat) := [(1, 0, 4), (93, 193, 0), (94, 193, 1), (95, 193, 2), (96, 193, 3), (97, 193, 4), (98, 193, 6), (99, 193, 7), (100, 193, 8), (101, 193, 9), (105, 264, 1), (135, 264, 87), (136, 264, 88), (138, 264, 90), (139, 264, 91), (140, 264, 92), (141, 264, 93), (142, 264, 94), (143, 264, 100), (144, 264, 101)]
noncomputable def lx_T22_0 : List (Nat × us_C) := [(155, cn_x_night), (242, cn_m_night)]
theorem lx_T22_0_ok : lt_all 60 lx_T22_0 := ⟨cp_x_night.mono (by decide), cp_m_night.mono (by decide), trivial⟩
theorem lx_e22_0 : lx_ckB lx_T22_0 bx_0 [] lx_P22 0 0 22 0 = true := by decide +kernel
theorem lx_e22_1 : lx_ckB lx_T22_0 bx_0 [] lx_P22 0 0 22 1 = true := by decide +kernel
theorem lx_e22_2 : lx_ckB lx_T22_0 bx_0 [] lx_P22 0 0 22 2 = true := by decide +kernel
theorem lx_e22_3 : lx_ckB lx_T22_0 bx_0 [] lx_P22 0 0 22 3 = true := by decide +kernel
theorem lx_e22_4 : lx_ckB lx_T22_0 bx_0 [] lx_P22 0 0 22 4 = true := by decide +kernel
theorem lx_k22 : ∀ v, v < 5 → lx_KS 22 v := fun v hv => match v, hv with
  | 0, _ => lx_KS0 lx_T22_0_ok lx_e22_0
  | 1, _ => lx_KS0 lx_T22_0_ok lx_e22_1
  | 2, _ => lx_KS0 lx_T22_0_ok lx_e22_2
  | 3, _ => lx_KS0 lx_T22_0_ok lx_e22_3
  | 4, _ => lx_KS0 lx_T22_0_ok lx_e22_4
  | n + 5, h => absurd h (by omega)
noncomputable def lx_P23 : List (Nat × Nat × Nat) := [(1, 0, 4), (105, 264, 1)]
noncomputable def lx_T23_0 : List (Nat × us_C) := [(156, cn_x_falls), (243, cn_m_falls)]
theorem lx_T23_0_ok : lt_all 60 lx_T23_0 := ⟨cp_x_falls.mono (by decide), cp_m_falls.mono (by decide), trivial⟩
theorem lx_e23_0 : lx_ckB lx_T23_0 bx_0 [] lx_P23 0 0 23 0 = true := by decide +kernel
theorem lx_e23_1 : lx_ckB lx_T23_0 bx_0 [] lx_P23 0 0 23 1 = true := by decide +kernel
theorem lx_e23_2 : lx_ckB lx_T23_0 bx_0 [] lx_P23 0 0 23 2 = true := by decide +kernel
theorem lx_e23_3 : lx_ckB lx_T23_0 bx_0 [] lx_P23 0 0 23 3 = true := by decide +kernel
theorem lx_e23_4 : lx_ckB lx_T23_0 bx_0 [] lx_P23 0 0 23 4 = true := by decide +kernel
theorem lx_k23 : ∀ v, v < 5 → lx_KS 23 v := fun v hv => match v, hv with
  | 0, _ => lx_KS0 lx_T23_0_ok lx_e23_0
  | 1, _ => lx_KS0 lx_T23_0_ok lx_e23_1
  | 2, _ => lx_KS0 lx_T23_0_ok lx_e23_2
  | 3, _ => lx_KS0 lx_T23_0_ok lx_e23_3
  | 4, _ => lx_KS0 lx_T23_0_ok lx_e23_4
  | n + 5, h => absurd h (by omega)
noncomputable def lx_P24 : List (Nat × Nat × Nat) := [(1, 0, 4), (94, 193, 1), (95, 193, 2), (96, 193, 3), (97, 193, 4), (101, 193, 9), (105, 264, 1), (136, 264, 88), (139, 264, 91), (140, 264, 92), (141, 264, 93), (142, 264, 94)]
noncomputable def lx_T24_0 : List (Nat × us_C) := [(157, cn_x_minutes), (246, cn_m_minutes)]
theorem lx_T24_0_ok : lt_all 60 lx_T24_0 := ⟨cp_x_minutes.mono (by decide), cp_m_minutes.mono (by decide), trivial⟩
theorem lx_e24_0 : lx_ckB lx_T24_0 bx_0 [] lx_P24 0 0 24 0 = true := by decide +kernel
theorem lx_e24_1 : lx_ckB lx_T24_0 bx_0 [] lx_P24 0 0 24 1 = true := by decide +kernel
theorem lx_e24_2 : lx_ckB lx_T24_0 bx_0 [] lx_P24 0 0 24 2 = true := by decide +kernel
theorem lx_e24_3 : lx_ckB lx_T24_0 bx_0 [] lx_P24 0 0 24 3 = true := by decide +kernel
theorem lx_e24_4 : lx_ckB lx_T24_0 bx_0 [] lx_P24 0 0 24 4 = true := by decide +kernel
theorem lx_k24 : ∀ v, v < 5 → lx_KS 24 v := fun v hv => match v, hv with
  | 0, _ => lx_KS0 lx_T24_0_ok lx_e24_0
  | 1, _ => lx_KS0 lx_T24_0_ok lx_e24_1
  | 2, _ => lx_KS0 lx_T24_0_ok lx_e24_2
  | 3, _ => lx_KS0 lx_T24_0_ok lx_e24_3
  | 4, _ => lx_KS0 lx_T24_0_ok lx_e24_4
  | n + 5, h => absurd h (by omega)
noncomputable def lx_P25 : List (Nat × Nat × Nat) := [(1, 0, 4), (105, 264, 1)]
noncomputable def lx_T25_0 : List (Nat × us_C) := [(158, cn_x_ofNight), (247, cn_m_ofNight)]
theorem lx_T25_0_ok : lt_all 60 lx_T25_0 := ⟨cp_x_ofNight.mono (by decide), cp_m_ofNight.mono (by decide), trivial⟩
theorem lx_e25_0 : lx_ckB lx_T25_0 bx_0 [] lx_P25 0 0 25 0 = true := by decide +kernel
theorem lx_e25_1 : lx_ckB lx_T25_0 bx_0 [] lx_P25 0 0 25 1 = true := by decide +kernel
theorem lx_e25_2 : lx_ckB lx_T25_0 bx_0 [] lx_P25 0 0 25 2 = true := by decide +kernel
theorem lx_e25_3 : lx_ckB lx_T25_0 bx_0 [] lx_P25 0 0 25 3 = true := by decide +kernel
theorem lx_e25_4 : lx_ckB lx_T25_0 bx_0 [] lx_P25 0 0 25 4 = true := by decide +kernel
theorem lx_k25 : ∀ v, v < 5 → lx_KS 25 v := fun v hv => match v, hv with
  | 0, _ => lx_KS0 lx_T25_0_ok lx_e25_0
  | 1, _ => lx_KS0 lx_T25_0_ok lx_e25_1
  | 2, _ => lx_KS0 lx_T25_0_ok lx_e25_2
  | 3, _ => lx_KS0 lx_T25_0_ok lx_e25_3
  | 4, _ => lx_KS0 lx_T25_0_ok lx_e25_4
  | n + 5, h => absurd h (by omega)
