/-! THE LAW: what each kind of call comes to (printed by lawq.py) 3 -/
noncomputable def lx_P28 : List (Nat × Nat × Nat) := [(1, 0, 4), (99, 264, 1)]
noncomputable def lx_T28_u : List (Nat × us_C) := [(161, cn_x_act), (253, cn_m_act)]
theorem lx_T28_u_ok : lt_all 60 lx_T28_u := ⟨cp_x_act.mono (by decide), cp_m_act.mono (by decide), trivial⟩
theorem lx_e28_u : lx_ckU lx_T28_u bx_0 [] lx_P28 0 0 28 = true := by decide +kernel
theorem lx_u28 : lx_KU 28 := lx_KU0 (by decide +kernel) lx_T28_u_ok lx_e28_u
noncomputable def lx_P29 : List (Nat × Nat × Nat) := [(1, 0, 4), (4, 16, 13), (99, 264, 1), (140, 264, 107)]
noncomputable def lx_T29_u : List (Nat × us_C) := [(162, cn_x_evenings), (254, cn_m_evenings)]
theorem lx_T29_u_ok : lt_all 60 lx_T29_u := ⟨cp_x_evenings.mono (by decide), cp_m_evenings.mono (by decide), trivial⟩
theorem lx_e29_u : lx_ckU lx_T29_u bx_0 [] lx_P29 0 0 29 = true := by decide +kernel
theorem lx_u29 : lx_KU 29 := lx_KU0 (by decide +kernel) lx_T29_u_ok lx_e29_u
noncomputable def lx_P30 : List (Nat × Nat × Nat) := [(1, 0, 4), (3, 16, 12), (99, 264, 1), (141, 264, 108)]
noncomputable def lx_T30_u : List (Nat × us_C) := [(163, cn_x_meter), (255, cn_m_meter)]
theorem lx_T30_u_ok : lt_all 60 lx_T30_u := ⟨cp_x_meter.mono (by decide), cp_m_meter.mono (by decide), trivial⟩
theorem lx_e30_u : lx_ckU lx_T30_u bx_0 [] lx_P30 0 0 30 = true := by decide +kernel
theorem lx_u30 : lx_KU 30 := lx_KU0 (by decide +kernel) lx_T30_u_ok lx_e30_u
noncomputable def lx_P31 : List (Nat × Nat × Nat) := [(1, 0, 4), (99, 264, 1)]
noncomputable def lx_T31_u : List (Nat × us_C) := [(164, cn_x_bill), (256, cn_m_bill)]
theorem lx_T31_u_ok : lt_all 60 lx_T31_u := ⟨cp_x_bill.mono (by decide), cp_m_bill.mono (by decide), trivial⟩
theorem lx_e31_u : lx_ckU lx_T31_u bx_0 [] lx_P31 0 0 31 = true := by decide +kernel
theorem lx_u31 : lx_KU 31 := lx_KU0 (by decide +kernel) lx_T31_u_ok lx_e31_u
noncomputable def lx_P32 : List (Nat × Nat × Nat) := [(1, 0, 4), (99, 264, 1)]
noncomputable def lx_T32_u : List (Nat × us_C) := [(166, cn_x_count), (257, cn_m_count)]
theorem lx_T32_u_ok : lt_all 60 lx_T32_u := ⟨cp_x_count.mono (by decide), cp_m_count.mono (by decide), trivial⟩
theorem lx_e32_u : lx_ckU lx_T32_u bx_0 [] lx_P32 0 0 32 = true := by decide +kernel
theorem lx_u32 : lx_KU 32 := lx_KU0 (by decide +kernel) lx_T32_u_ok lx_e32_u
