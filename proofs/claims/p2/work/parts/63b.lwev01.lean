/-! THE LAW: what each kind of call comes to (printed by lawq.py) 1 -/
noncomputable def lx_P5 : List (Nat × Nat × Nat) := [(1, 0, 4), (106, 264, 1)]
noncomputable def lx_T5_0 : List (Nat × us_C) := [(138, cn_x_copy), (182, cn_m_copy)]
theorem lx_T5_0_ok : lt_all 60 lx_T5_0 := ⟨cp_x_copy.mono (by decide), cp_m_copy.mono (by decide), trivial⟩
theorem lx_e5_0 : lx_ckB lx_T5_0 bx_0 [] lx_P5 0 0 5 0 = true := by decide +kernel
theorem lx_e5_1 : lx_ckB lx_T5_0 bx_0 [] lx_P5 0 0 5 1 = true := by decide +kernel
theorem lx_e5_2 : lx_ckB lx_T5_0 bx_0 [] lx_P5 0 0 5 2 = true := by decide +kernel
theorem lx_e5_3 : lx_ckB lx_T5_0 bx_0 [] lx_P5 0 0 5 3 = true := by decide +kernel
theorem lx_e5_4 : lx_ckB lx_T5_0 bx_0 [] lx_P5 0 0 5 4 = true := by decide +kernel
theorem lx_k5 : ∀ v, v < 5 → lx_KS 5 v := fun v hv => match v, hv with
  | 0, _ => lx_KS0 lx_T5_0_ok lx_e5_0
  | 1, _ => lx_KS0 lx_T5_0_ok lx_e5_1
  | 2, _ => lx_KS0 lx_T5_0_ok lx_e5_2
  | 3, _ => lx_KS0 lx_T5_0_ok lx_e5_3
  | 4, _ => lx_KS0 lx_T5_0_ok lx_e5_4
  | n + 5, h => absurd h (by omega)
noncomputable def lx_P6 : List (Nat × Nat × Nat) := [(1, 0, 4), (106, 264, 1)]
noncomputable def lx_T6_0 : List (Nat × us_C) := [(139, cn_x_day), (183, cn_m_day)]
theorem lx_T6_0_ok : lt_all 60 lx_T6_0 := ⟨cp_x_day.mono (by decide), cp_m_day.mono (by decide), trivial⟩
theorem lx_e6_0 : lx_ckB lx_T6_0 bx_0 [] lx_P6 0 0 6 0 = true := by decide +kernel
theorem lx_e6_1 : lx_ckB lx_T6_0 bx_0 [] lx_P6 0 0 6 1 = true := by decide +kernel
theorem lx_e6_2 : lx_ckB lx_T6_0 bx_0 [] lx_P6 0 0 6 2 = true := by decide +kernel
theorem lx_e6_3 : lx_ckB lx_T6_0 bx_0 [] lx_P6 0 0 6 3 = true := by decide +kernel
theorem lx_e6_4 : lx_ckB lx_T6_0 bx_0 [] lx_P6 0 0 6 4 = true := by decide +kernel
theorem lx_k6 : ∀ v, v < 5 → lx_KS 6 v := fun v hv => match v, hv with
  | 0, _ => lx_KS0 lx_T6_0_ok lx_e6_0
  | 1, _ => lx_KS0 lx_T6_0_ok lx_e6_1
  | 2, _ => lx_KS0 lx_T6_0_ok lx_e6_2
  | 3, _ => lx_KS0 lx_T6_0_ok lx_e6_3
  | 4, _ => lx_KS0 lx_T6_0_ok lx_e6_4
  | n + 5, h => absurd h (by omega)
noncomputable def lx_P7 : List (Nat × Nat × Nat) := [(1, 0, 4), (72, 84, 2), (106, 264, 1), (111, 264, 26)]
noncomputable def lx_T7_0 : List (Nat × us_C) := [(140, cn_x_feed), (184, cn_m_feed)]
theorem lx_T7_0_ok : lt_all 60 lx_T7_0 := ⟨cp_x_feed.mono (by decide), cp_m_feed.mono (by decide), trivial⟩
theorem lx_e7_0 : lx_ckB lx_T7_0 bx_0 [] lx_P7 0 0 7 0 = true := by decide +kernel
theorem lx_e7_1 : lx_ckB lx_T7_0 bx_0 [] lx_P7 0 0 7 1 = true := by decide +kernel
theorem lx_e7_2 : lx_ckB lx_T7_0 bx_0 [] lx_P7 0 0 7 2 = true := by decide +kernel
theorem lx_e7_3 : lx_ckB lx_T7_0 bx_0 [] lx_P7 0 0 7 3 = true := by decide +kernel
theorem lx_e7_4 : lx_ckB lx_T7_0 bx_0 [] lx_P7 0 0 7 4 = true := by decide +kernel
theorem lx_k7 : ∀ v, v < 5 → lx_KS 7 v := fun v hv => match v, hv with
  | 0, _ => lx_KS0 lx_T7_0_ok lx_e7_0
  | 1, _ => lx_KS0 lx_T7_0_ok lx_e7_1
  | 2, _ => lx_KS0 lx_T7_0_ok lx_e7_2
  | 3, _ => lx_KS0 lx_T7_0_ok lx_e7_3
  | 4, _ => lx_KS0 lx_T7_0_ok lx_e7_4
  | n + 5, h => absurd h (by omega)
noncomputable def lx_P9 : List (Nat × Nat × Nat) := [(1, 0, 4), (106, 264, 1)]
noncomputable def lx_T9_0 : List (Nat × us_C) := [(142, cn_x_fault), (204, cn_m_fault)]
theorem lx_T9_0_ok : lt_all 60 lx_T9_0 := ⟨cp_x_fault.mono (by decide), cp_m_fault.mono (by decide), trivial⟩
theorem lx_e9_0 : lx_ckB lx_T9_0 bx_0 [] lx_P9 0 0 9 0 = true := by decide +kernel
theorem lx_e9_1 : lx_ckB lx_T9_0 bx_0 [] lx_P9 0 0 9 1 = true := by decide +kernel
theorem lx_e9_2 : lx_ckB lx_T9_0 bx_0 [] lx_P9 0 0 9 2 = true := by decide +kernel
theorem lx_e9_3 : lx_ckB lx_T9_0 bx_0 [] lx_P9 0 0 9 3 = true := by decide +kernel
theorem lx_e9_4 : lx_ckB lx_T9_0 bx_0 [] lx_P9 0 0 9 4 = true := by decide +kernel
theorem lx_k9 : ∀ v, v < 5 → lx_KS 9 v := fun v hv => match v, hv with
  | 0, _ => lx_KS0 lx_T9_0_ok lx_e9_0
  | 1, _ => lx_KS0 lx_T9_0_ok lx_e9_1
  | 2, _ => lx_KS0 lx_T9_0_ok lx_e9_2
  | 3, _ => lx_KS0 lx_T9_0_ok lx_e9_3
  | 4, _ => lx_KS0 lx_T9_0_ok lx_e9_4
  | n + 5, h => absurd h (by omega)
