/-! THE LAW: what each kind of call comes to (printed by lawq.py) 2 -/
noncomputable def lx_P10 : List (Nat × Nat × Nat) := [(1, 0, 4), (24, 46, 4), (39, 52, 4), (54, 58, 4), (69, 64, 4), (80, 87, 2), (81, 87, 3), (106, 264, 1)]
noncomputable def lx_T10_0 : List (Nat × us_C) := [(143, cn_x_asked), (209, cn_m_asked)]
theorem lx_T10_0_ok : lt_all 60 lx_T10_0 := ⟨cp_x_asked.mono (by decide), cp_m_asked.mono (by decide), trivial⟩
theorem lx_e10_0 : lx_ckB lx_T10_0 bx_0 [] lx_P10 0 0 10 0 = true := by decide +kernel
theorem lx_e10_1 : lx_ckB lx_T10_0 bx_0 [] lx_P10 0 0 10 1 = true := by decide +kernel
theorem lx_e10_2 : lx_ckB lx_T10_0 bx_0 [] lx_P10 0 0 10 2 = true := by decide +kernel
theorem lx_e10_3 : lx_ckB lx_T10_0 bx_0 [] lx_P10 0 0 10 3 = true := by decide +kernel
theorem lx_e10_4 : lx_ckB lx_T10_0 bx_0 [] lx_P10 0 0 10 4 = true := by decide +kernel
theorem lx_k10 : ∀ v, v < 5 → lx_KS 10 v := fun v hv => match v, hv with
  | 0, _ => lx_KS0 lx_T10_0_ok lx_e10_0
  | 1, _ => lx_KS0 lx_T10_0_ok lx_e10_1
  | 2, _ => lx_KS0 lx_T10_0_ok lx_e10_2
  | 3, _ => lx_KS0 lx_T10_0_ok lx_e10_3
  | 4, _ => lx_KS0 lx_T10_0_ok lx_e10_4
  | n + 5, h => absurd h (by omega)
noncomputable def lx_P11 : List (Nat × Nat × Nat) := [(1, 0, 4), (7, 17, 3), (8, 17, 4), (9, 17, 5), (106, 264, 1), (123, 264, 46), (124, 264, 47), (125, 264, 48)]
noncomputable def lx_T11_0 : List (Nat × us_C) := [(144, cn_x_rules), (210, cn_m_rules)]
theorem lx_T11_0_ok : lt_all 60 lx_T11_0 := ⟨cp_x_rules.mono (by decide), cp_m_rules.mono (by decide), trivial⟩
theorem lx_e11_0 : lx_ckB lx_T11_0 bx_0 [] lx_P11 0 0 11 0 = true := by decide +kernel
theorem lx_e11_1 : lx_ckB lx_T11_0 bx_0 [] lx_P11 0 0 11 1 = true := by decide +kernel
theorem lx_e11_2 : lx_ckB lx_T11_0 bx_0 [] lx_P11 0 0 11 2 = true := by decide +kernel
theorem lx_e11_3 : lx_ckB lx_T11_0 bx_0 [] lx_P11 0 0 11 3 = true := by decide +kernel
theorem lx_e11_4 : lx_ckB lx_T11_0 bx_0 [] lx_P11 0 0 11 4 = true := by decide +kernel
theorem lx_k11 : ∀ v, v < 5 → lx_KS 11 v := fun v hv => match v, hv with
  | 0, _ => lx_KS0 lx_T11_0_ok lx_e11_0
  | 1, _ => lx_KS0 lx_T11_0_ok lx_e11_1
  | 2, _ => lx_KS0 lx_T11_0_ok lx_e11_2
  | 3, _ => lx_KS0 lx_T11_0_ok lx_e11_3
  | 4, _ => lx_KS0 lx_T11_0_ok lx_e11_4
  | n + 5, h => absurd h (by omega)
noncomputable def lx_P12 : List (Nat × Nat × Nat) := [(1, 0, 4), (106, 264, 1)]
noncomputable def lx_T12_0 : List (Nat × us_C) := [(145, cn_x_flow), (215, cn_m_flow)]
theorem lx_T12_0_ok : lt_all 60 lx_T12_0 := ⟨cp_x_flow.mono (by decide), cp_m_flow.mono (by decide), trivial⟩
theorem lx_e12_0 : lx_ckB lx_T12_0 bx_0 [] lx_P12 0 0 12 0 = true := by decide +kernel
theorem lx_e12_1 : lx_ckB lx_T12_0 bx_0 [] lx_P12 0 0 12 1 = true := by decide +kernel
theorem lx_e12_2 : lx_ckB lx_T12_0 bx_0 [] lx_P12 0 0 12 2 = true := by decide +kernel
theorem lx_e12_3 : lx_ckB lx_T12_0 bx_0 [] lx_P12 0 0 12 3 = true := by decide +kernel
theorem lx_e12_4 : lx_ckB lx_T12_0 bx_0 [] lx_P12 0 0 12 4 = true := by decide +kernel
theorem lx_k12 : ∀ v, v < 5 → lx_KS 12 v := fun v hv => match v, hv with
  | 0, _ => lx_KS0 lx_T12_0_ok lx_e12_0
  | 1, _ => lx_KS0 lx_T12_0_ok lx_e12_1
  | 2, _ => lx_KS0 lx_T12_0_ok lx_e12_2
  | 3, _ => lx_KS0 lx_T12_0_ok lx_e12_3
  | 4, _ => lx_KS0 lx_T12_0_ok lx_e12_4
  | n + 5, h => absurd h (by omega)
noncomputable def lx_P13 : List (Nat × Nat × Nat) := [(1, 0, 4), (2, 16, 10), (24, 46, 4), (39, 52, 4), (54, 58, 4), (69, 64, 4), (80, 87, 2), (81, 87, 3), (82, 87, 4), (106, 264, 1), (126, 264, 59), (127, 264, 60), (129, 264, 62), (130, 264, 63)]
noncomputable def lx_T13_0 : List (Nat × us_C) := [(146, cn_x_least), (222, cn_m_least0)]
theorem lx_T13_0_ok : lt_all 60 lx_T13_0 := ⟨cp_x_least.mono (by decide), cp_m_least0.mono (by decide), trivial⟩
theorem lx_e13_0 : lx_ckB lx_T13_0 bx_0 [] lx_P13 0 0 13 0 = true := by decide +kernel
noncomputable def lx_T13_1 : List (Nat × us_C) := [(146, cn_x_least), (222, cn_m_least1)]
theorem lx_T13_1_ok : lt_all 60 lx_T13_1 := ⟨cp_x_least.mono (by decide), cp_m_least1.mono (by decide), trivial⟩
theorem lx_e13_1 : lx_ckB lx_T13_1 bx_0 [] lx_P13 0 0 13 1 = true := by decide +kernel
noncomputable def lx_T13_2 : List (Nat × us_C) := [(146, cn_x_least), (222, cn_m_least2)]
theorem lx_T13_2_ok : lt_all 60 lx_T13_2 := ⟨cp_x_least.mono (by decide), cp_m_least2.mono (by decide), trivial⟩
theorem lx_e13_2 : lx_ckB lx_T13_2 bx_0 [] lx_P13 0 0 13 2 = true := by decide +kernel
noncomputable def lx_T13_3 : List (Nat × us_C) := [(146, cn_x_least), (222, cn_m_least3)]
theorem lx_T13_3_ok : lt_all 60 lx_T13_3 := ⟨cp_x_least.mono (by decide), cp_m_least3.mono (by decide), trivial⟩
theorem lx_e13_3 : lx_ckB lx_T13_3 bx_0 [] lx_P13 0 0 13 3 = true := by decide +kernel
noncomputable def lx_T13_4 : List (Nat × us_C) := [(146, cn_x_least), (222, cn_m_least4)]
theorem lx_T13_4_ok : lt_all 60 lx_T13_4 := ⟨cp_x_least.mono (by decide), cp_m_least4.mono (by decide), trivial⟩
theorem lx_e13_4 : lx_ckB lx_T13_4 bx_0 [] lx_P13 0 0 13 4 = true := by decide +kernel
theorem lx_k13 : ∀ v, v < 5 → lx_KS 13 v := fun v hv => match v, hv with
  | 0, _ => lx_KS0 lx_T13_0_ok lx_e13_0
  | 1, _ => lx_KS0 lx_T13_1_ok lx_e13_1
  | 2, _ => lx_KS0 lx_T13_2_ok lx_e13_2
  | 3, _ => lx_KS0 lx_T13_3_ok lx_e13_3
  | 4, _ => lx_KS0 lx_T13_4_ok lx_e13_4
  | n + 5, h => absurd h (by omega)
