/-! THE LAW: what each kind of call comes to (printed by lawq.py) 0 -/
noncomputable def lx_P0 : List (Nat × Nat × Nat) := [(1, 0, 4), (106, 264, 1), (107, 17, 0)]
noncomputable def lx_T0_0 : List (Nat × us_C) := [(38, cn_rework)]
theorem lx_T0_0_ok : lt_all 60 lx_T0_0 := ⟨cp_rework.mono (by decide), trivial⟩
theorem lx_e0_0 : lx_ckB lx_T0_0 bx_0 [] lx_P0 0 0 0 0 = true := by decide +kernel
theorem lx_e0_1 : lx_ckB lx_T0_0 bx_0 [] lx_P0 0 0 0 1 = true := by decide +kernel
theorem lx_e0_2 : lx_ckB lx_T0_0 bx_0 [] lx_P0 0 0 0 2 = true := by decide +kernel
theorem lx_e0_3 : lx_ckB lx_T0_0 bx_0 [] lx_P0 0 0 0 3 = true := by decide +kernel
theorem lx_e0_4 : lx_ckB lx_T0_0 bx_0 [] lx_P0 0 0 0 4 = true := by decide +kernel
theorem lx_k0 : ∀ v, v < 5 → lx_KS 0 v := fun v hv => match v, hv with
  | 0, _ => lx_KS0 lx_T0_0_ok lx_e0_0
  | 1, _ => lx_KS0 lx_T0_0_ok lx_e0_1
  | 2, _ => lx_KS0 lx_T0_0_ok lx_e0_2
  | 3, _ => lx_KS0 lx_T0_0_ok lx_e0_3
  | 4, _ => lx_KS0 lx_T0_0_ok lx_e0_4
  | n + 5, h => absurd h (by omega)
noncomputable def lx_P1 : List (Nat × Nat × Nat) := [(1, 0, 4), (5, 17, 1), (106, 264, 1), (108, 264, 3)]
noncomputable def lx_T1_0 : List (Nat × us_C) := [(134, cn_x_line), (175, cn_m_line)]
theorem lx_T1_0_ok : lt_all 60 lx_T1_0 := ⟨cp_x_line.mono (by decide), cp_m_line.mono (by decide), trivial⟩
theorem lx_e1_0 : lx_ckB lx_T1_0 bx_0 [] lx_P1 0 0 1 0 = true := by decide +kernel
theorem lx_e1_1 : lx_ckB lx_T1_0 bx_0 [] lx_P1 0 0 1 1 = true := by decide +kernel
theorem lx_e1_2 : lx_ckB lx_T1_0 bx_0 [] lx_P1 0 0 1 2 = true := by decide +kernel
theorem lx_e1_3 : lx_ckB lx_T1_0 bx_0 [] lx_P1 0 0 1 3 = true := by decide +kernel
theorem lx_e1_4 : lx_ckB lx_T1_0 bx_0 [] lx_P1 0 0 1 4 = true := by decide +kernel
theorem lx_k1 : ∀ v, v < 5 → lx_KS 1 v := fun v hv => match v, hv with
  | 0, _ => lx_KS0 lx_T1_0_ok lx_e1_0
  | 1, _ => lx_KS0 lx_T1_0_ok lx_e1_1
  | 2, _ => lx_KS0 lx_T1_0_ok lx_e1_2
  | 3, _ => lx_KS0 lx_T1_0_ok lx_e1_3
  | 4, _ => lx_KS0 lx_T1_0_ok lx_e1_4
  | n + 5, h => absurd h (by omega)
noncomputable def lx_P3 : List (Nat × Nat × Nat) := [(1, 0, 4), (70, 68, 0), (106, 264, 1), (110, 264, 5)]
noncomputable def lx_T3_0 : List (Nat × us_C) := [(136, cn_x_sheet), (179, cn_m_sheet)]
theorem lx_T3_0_ok : lt_all 60 lx_T3_0 := ⟨cp_x_sheet.mono (by decide), cp_m_sheet.mono (by decide), trivial⟩
theorem lx_e3_0 : lx_ckB lx_T3_0 bx_0 [] lx_P3 0 0 3 0 = true := by decide +kernel
theorem lx_e3_1 : lx_ckB lx_T3_0 bx_0 [] lx_P3 0 0 3 1 = true := by decide +kernel
theorem lx_e3_2 : lx_ckB lx_T3_0 bx_0 [] lx_P3 0 0 3 2 = true := by decide +kernel
theorem lx_e3_3 : lx_ckB lx_T3_0 bx_0 [] lx_P3 0 0 3 3 = true := by decide +kernel
theorem lx_e3_4 : lx_ckB lx_T3_0 bx_0 [] lx_P3 0 0 3 4 = true := by decide +kernel
theorem lx_k3 : ∀ v, v < 5 → lx_KS 3 v := fun v hv => match v, hv with
  | 0, _ => lx_KS0 lx_T3_0_ok lx_e3_0
  | 1, _ => lx_KS0 lx_T3_0_ok lx_e3_1
  | 2, _ => lx_KS0 lx_T3_0_ok lx_e3_2
  | 3, _ => lx_KS0 lx_T3_0_ok lx_e3_3
  | 4, _ => lx_KS0 lx_T3_0_ok lx_e3_4
  | n + 5, h => absurd h (by omega)
noncomputable def lx_P4 : List (Nat × Nat × Nat) := [(1, 0, 4), (106, 264, 1)]
noncomputable def lx_T4_0 : List (Nat × us_C) := [(137, cn_x_write), (180, cn_m_write)]
theorem lx_T4_0_ok : lt_all 60 lx_T4_0 := ⟨cp_x_write.mono (by decide), cp_m_write.mono (by decide), trivial⟩
theorem lx_e4_0 : lx_ckB lx_T4_0 bx_0 [] lx_P4 0 0 4 0 = true := by decide +kernel
theorem lx_e4_1 : lx_ckB lx_T4_0 bx_0 [] lx_P4 0 0 4 1 = true := by decide +kernel
theorem lx_e4_2 : lx_ckB lx_T4_0 bx_0 [] lx_P4 0 0 4 2 = true := by decide +kernel
theorem lx_e4_3 : lx_ckB lx_T4_0 bx_0 [] lx_P4 0 0 4 3 = true := by decide +kernel
theorem lx_e4_4 : lx_ckB lx_T4_0 bx_0 [] lx_P4 0 0 4 4 = true := by decide +kernel
theorem lx_k4 : ∀ v, v < 5 → lx_KS 4 v := fun v hv => match v, hv with
  | 0, _ => lx_KS0 lx_T4_0_ok lx_e4_0
  | 1, _ => lx_KS0 lx_T4_0_ok lx_e4_1
  | 2, _ => lx_KS0 lx_T4_0_ok lx_e4_2
  | 3, _ => lx_KS0 lx_T4_0_ok lx_e4_3
  | 4, _ => lx_KS0 lx_T4_0_ok lx_e4_4
  | n + 5, h => absurd h (by omega)
