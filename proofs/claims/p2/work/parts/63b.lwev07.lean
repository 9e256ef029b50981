/-! THE LAW: what each kind of call comes to (printed by lawgen.py) 7 -/
noncomputable def lx_T30_0 : List (Nat × us_C) := [(163, cn_x_meter), (255, cn_m_meter)]
theorem lx_T30_0_ok : lt_all 60 lx_T30_0 := ⟨cp_x_meter.mono (by decide), cp_m_meter.mono (by decide), trivial⟩
theorem lx_e30_0 : lx_ck lx_T30_0 30 0 = true := by decide +kernel
theorem lx_e30_1 : lx_ck lx_T30_0 30 1 = true := by decide +kernel
theorem lx_e30_2 : lx_ck lx_T30_0 30 2 = true := by decide +kernel
theorem lx_e30_3 : lx_ck lx_T30_0 30 3 = true := by decide +kernel
theorem lx_e30_4 : lx_ck lx_T30_0 30 4 = true := by decide +kernel
theorem lx_k30 : ∀ v, v < 5 → lx_K 30 v := fun v hv => match v, hv with
  | 0, _ => ⟨_, lx_T30_0_ok, lx_e30_0⟩
  | 1, _ => ⟨_, lx_T30_0_ok, lx_e30_1⟩
  | 2, _ => ⟨_, lx_T30_0_ok, lx_e30_2⟩
  | 3, _ => ⟨_, lx_T30_0_ok, lx_e30_3⟩
  | 4, _ => ⟨_, lx_T30_0_ok, lx_e30_4⟩
  | n + 5, h => absurd h (by omega)
noncomputable def lx_T31_0 : List (Nat × us_C) := [(164, cn_x_bill), (256, cn_m_bill)]
theorem lx_T31_0_ok : lt_all 60 lx_T31_0 := ⟨cp_x_bill.mono (by decide), cp_m_bill.mono (by decide), trivial⟩
theorem lx_e31_0 : lx_ck lx_T31_0 31 0 = true := by decide +kernel
theorem lx_e31_1 : lx_ck lx_T31_0 31 1 = true := by decide +kernel
theorem lx_e31_2 : lx_ck lx_T31_0 31 2 = true := by decide +kernel
theorem lx_e31_3 : lx_ck lx_T31_0 31 3 = true := by decide +kernel
theorem lx_e31_4 : lx_ck lx_T31_0 31 4 = true := by decide +kernel
theorem lx_k31 : ∀ v, v < 5 → lx_K 31 v := fun v hv => match v, hv with
  | 0, _ => ⟨_, lx_T31_0_ok, lx_e31_0⟩
  | 1, _ => ⟨_, lx_T31_0_ok, lx_e31_1⟩
  | 2, _ => ⟨_, lx_T31_0_ok, lx_e31_2⟩
  | 3, _ => ⟨_, lx_T31_0_ok, lx_e31_3⟩
  | 4, _ => ⟨_, lx_T31_0_ok, lx_e31_4⟩
  | n + 5, h => absurd h (by omega)
noncomputable def lx_T32_0 : List (Nat × us_C) := [(166, cn_x_count), (257, cn_m_count)]
theorem lx_T32_0_ok : lt_all 60 lx_T32_0 := ⟨cp_x_count.mono (by decide), cp_m_count.mono (by decide), trivial⟩
theorem lx_e32_0 : lx_ck lx_T32_0 32 0 = true := by decide +kernel
theorem lx_e32_1 : lx_ck lx_T32_0 32 1 = true := by decide +kernel
theorem lx_e32_2 : lx_ck lx_T32_0 32 2 = true := by decide +kernel
theorem lx_e32_3 : lx_ck lx_T32_0 32 3 = true := by decide +kernel
theorem lx_e32_4 : lx_ck lx_T32_0 32 4 = true := by decide +kernel
theorem lx_k32 : ∀ v, v < 5 → lx_K 32 v := fun v hv => match v, hv with
  | 0, _ => ⟨_, lx_T32_0_ok, lx_e32_0⟩
  | 1, _ => ⟨_, lx_T32_0_ok, lx_e32_1⟩
  | 2, _ => ⟨_, lx_T32_0_ok, lx_e32_2⟩
  | 3, _ => ⟨_, lx_T32_0_ok, lx_e32_3⟩
  | 4, _ => ⟨_, lx_T32_0_ok, lx_e32_4⟩
  | n + 5, h => absurd h (by omega)
