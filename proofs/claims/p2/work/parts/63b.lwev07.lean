/-! THE LAW: what each kind of call comes to (printed by lawq.py) 7 -/
noncomputable def lx_P30 : List (Nat × Nat × Nat) := [(1, 0, 4), (3, 16, 12), (106, 264, 1), (148, 264, 108)]
noncomputable def lx_T30_0 : List (Nat × us_C) := [(163, cn_x_meter), (255, cn_m_meter)]
theorem lx_T30_0_ok : lt_all 60 lx_T30_0 := ⟨cp_x_meter.mono (by decide), cp_m_meter.mono (by decide), trivial⟩
theorem lx_e30_0 : lx_ckB lx_T30_0 bx_0 [] lx_P30 0 0 30 0 = true := by decide +kernel
theorem lx_e30_1 : lx_ckB lx_T30_0 bx_0 [] lx_P30 0 0 30 1 = true := by decide +kernel
theorem lx_e30_2 : lx_ckB lx_T30_0 bx_0 [] lx_P30 0 0 30 2 = true := by decide +kernel
theorem lx_e30_3 : lx_ckB lx_T30_0 bx_0 [] lx_P30 0 0 30 3 = true := by decide +kernel
theorem lx_e30_4 : lx_ckB lx_T30_0 bx_0 [] lx_P30 0 0 30 4 = true := by decide +kernel
theorem lx_k30 : ∀ v, v < 5 → lx_KS 30 v := fun v hv => match v, hv with
  | 0, _ => lx_KS0 lx_T30_0_ok lx_e30_0
  | 1, _ => lx_KS0 lx_T30_0_ok lx_e30_1
  | 2, _ => lx_KS0 lx_T30_0_ok lx_e30_2
  | 3, _ => lx_KS0 lx_T30_0_ok lx_e30_3
  | 4, _ => lx_KS0 lx_T30_0_ok lx_e30_4
  | n + 5, h => absurd h (by omega)
noncomputable def lx_P31 : List (Nat × Nat × Nat) := [(1, 0, 4), (106, 264, 1)]
noncomputable def lx_T31_0 : List (Nat × us_C) := [(164, cn_x_bill), (256, cn_m_bill)]
theorem lx_T31_0_ok : lt_all 60 lx_T31_0 := ⟨cp_x_bill.mono (by decide), cp_m_bill.mono (by decide), trivial⟩
theorem lx_e31_0 : lx_ckB lx_T31_0 bx_0 [] lx_P31 0 0 31 0 = true := by decide +kernel
theorem lx_e31_1 : lx_ckB lx_T31_0 bx_0 [] lx_P31 0 0 31 1 = true := by decide +kernel
theorem lx_e31_2 : lx_ckB lx_T31_0 bx_0 [] lx_P31 0 0 31 2 = true := by decide +kernel
theorem lx_e31_3 : lx_ckB lx_T31_0 bx_0 [] lx_P31 0 0 31 3 = true := by decide +kernel
theorem lx_e31_4 : lx_ckB lx_T31_0 bx_0 [] lx_P31 0 0 31 4 = true := by decide +kernel
theorem lx_k31 : ∀ v, v < 5 → lx_KS 31 v := fun v hv => match v, hv with
  | 0, _ => lx_KS0 lx_T31_0_ok lx_e31_0
  | 1, _ => lx_KS0 lx_T31_0_ok lx_e31_1
  | 2, _ => lx_KS0 lx_T31_0_ok lx_e31_2
  | 3, _ => lx_KS0 lx_T31_0_ok lx_e31_3
  | 4, _ => lx_KS0 lx_T31_0_ok lx_e31_4
  | n + 5, h => absurd h (by omega)
noncomputable def lx_P32 : List (Nat × Nat × Nat) := [(1, 0, 4), (106, 264, 1)]
noncomputable def lx_T32_0 : List (Nat × us_C) := [(166, cn_x_count), (257, cn_m_count)]
theorem lx_T32_0_ok : lt_all 60 lx_T32_0 := ⟨cp_x_count.mono (by decide), cp_m_count.mono (by decide), trivial⟩
theorem lx_e32_0 : lx_ckB lx_T32_0 bx_0 [] lx_P32 0 0 32 0 = true := by decide +kernel
theorem lx_e32_1 : lx_ckB lx_T32_0 bx_0 [] lx_P32 0 0 32 1 = true := by decide +kernel
theorem lx_e32_2 : lx_ckB lx_T32_0 bx_0 [] lx_P32 0 0 32 2 = true := by decide +kernel
theorem lx_e32_3 : lx_ckB lx_T32_0 bx_0 [] lx_P32 0 0 32 3 = true := by decide +kernel
theorem lx_e32_4 : lx_ckB lx_T32_0 bx_0 [] lx_P32 0 0 32 4 = true := by decide +kernel
theorem lx_k32 : ∀ v, v < 5 → lx_KS 32 v := fun v hv => match v, hv with
  | 0, _ => lx_KS0 lx_T32_0_ok lx_e32_0
  | 1, _ => lx_KS0 lx_T32_0_ok lx_e32_1
  | 2, _ => lx_KS0 lx_T32_0_ok lx_e32_2
  | 3, _ => lx_KS0 lx_T32_0_ok lx_e32_3
  | 4, _ => lx_KS0 lx_T32_0_ok lx_e32_4
  | n + 5, h => absurd h (by omega)
