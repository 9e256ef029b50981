noncomputable def lx_T0_0 : List (Nat × us_C) := [(133, cn_x_place), (174, cn_m_place)]
theorem lx_T0_0_ok : lt_all 60 lx_T0_0 := ⟨cp_x_place.mono (by decide), cp_m_place.mono (by decide), trivial⟩
theorem lx_e0_0 : lx_ck lx_T0_0 0 0 = true := by decide +kernel
