/-! THE LAW: what each kind of call comes to (printed by lawgen.py) 3 -/
noncomputable def lx_T14_0 : List (Nat × us_C) := [(147, cn_x_units), (223, cn_m_units)]
theorem lx_T14_0_ok : lt_all 60 lx_T14_0 := ⟨cp_x_units.mono (by decide), cp_m_units.mono (by decide), trivial⟩
theorem lx_e14_0 : lx_ck lx_T14_0 14 0 = true := by decide +kernel
theorem lx_e14_1 : lx_ck lx_T14_0 14 1 = true := by decide +kernel
theorem lx_e14_2 : lx_ck lx_T14_0 14 2 = true := by decide +kernel
theorem lx_e14_3 : lx_ck lx_T14_0 14 3 = true := by decide +kernel
theorem lx_e14_4 : lx_ck lx_T14_0 14 4 = true := by decide +kernel
theorem lx_k14 : ∀ v, v < 5 → lx_K 14 v := fun v hv => match v, hv with
  | 0, _ => ⟨_, lx_T14_0_ok, lx_e14_0⟩
  | 1, _ => ⟨_, lx_T14_0_ok, lx_e14_1⟩
  | 2, _ => ⟨_, lx_T14_0_ok, lx_e14_2⟩
  | 3, _ => ⟨_, lx_T14_0_ok, lx_e14_3⟩
  | 4, _ => ⟨_, lx_T14_0_ok, lx_e14_4⟩
  | n + 5, h => absurd h (by omega)
noncomputable def lx_T15_0 : List (Nat × us_C) := [(148, cn_x_plan), (228, cn_m_plan0)]
theorem lx_T15_0_ok : lt_all 60 lx_T15_0 := ⟨cp_x_plan.mono (by decide), cp_m_plan0.mono (by decide), trivial⟩
theorem lx_e15_0 : lx_ck lx_T15_0 15 0 = true := by decide +kernel
noncomputable def lx_T15_1 : List (Nat × us_C) := [(148, cn_x_plan), (228, cn_m_plan1)]
theorem lx_T15_1_ok : lt_all 60 lx_T15_1 := ⟨cp_x_plan.mono (by decide), cp_m_plan1.mono (by decide), trivial⟩
theorem lx_e15_1 : lx_ck lx_T15_1 15 1 = true := by decide +kernel
noncomputable def lx_T15_2 : List (Nat × us_C) := [(148, cn_x_plan), (228, cn_m_plan2)]
theorem lx_T15_2_ok : lt_all 60 lx_T15_2 := ⟨cp_x_plan.mono (by decide), cp_m_plan2.mono (by decide), trivial⟩
theorem lx_e15_2 : lx_ck lx_T15_2 15 2 = true := by decide +kernel
noncomputable def lx_T15_3 : List (Nat × us_C) := [(148, cn_x_plan), (228, cn_m_plan3)]
theorem lx_T15_3_ok : lt_all 60 lx_T15_3 := ⟨cp_x_plan.mono (by decide), cp_m_plan3.mono (by decide), trivial⟩
theorem lx_e15_3 : lx_ck lx_T15_3 15 3 = true := by decide +kernel
noncomputable def lx_T15_4 : List (Nat × us_C) := [(148, cn_x_plan), (228, cn_m_plan4)]
theorem lx_T15_4_ok : lt_all 60 lx_T15_4 := ⟨cp_x_plan.mono (by decide), cp_m_plan4.mono (by decide), trivial⟩
theorem lx_e15_4 : lx_ck lx_T15_4 15 4 = true := by decide +kernel
theorem lx_k15 : ∀ v, v < 5 → lx_K 15 v := fun v hv => match v, hv with
  | 0, _ => ⟨_, lx_T15_0_ok, lx_e15_0⟩
  | 1, _ => ⟨_, lx_T15_1_ok, lx_e15_1⟩
  | 2, _ => ⟨_, lx_T15_2_ok, lx_e15_2⟩
  | 3, _ => ⟨_, lx_T15_3_ok, lx_e15_3⟩
  | 4, _ => ⟨_, lx_T15_4_ok, lx_e15_4⟩
  | n + 5, h => absurd h (by omega)
noncomputable def lx_T16_0 : List (Nat × us_C) := [(149, cn_x_planned), (231, cn_m_planned)]
theorem lx_T16_0_ok : lt_all 60 lx_T16_0 := ⟨cp_x_planned.mono (by decide), cp_m_planned.mono (by decide), trivial⟩
theorem lx_e16_0 : lx_ck lx_T16_0 16 0 = true := by decide +kernel
theorem lx_e16_1 : lx_ck lx_T16_0 16 1 = true := by decide +kernel
theorem lx_e16_2 : lx_ck lx_T16_0 16 2 = true := by decide +kernel
theorem lx_e16_3 : lx_ck lx_T16_0 16 3 = true := by decide +kernel
theorem lx_e16_4 : lx_ck lx_T16_0 16 4 = true := by decide +kernel
theorem lx_k16 : ∀ v, v < 5 → lx_K 16 v := fun v hv => match v, hv with
  | 0, _ => ⟨_, lx_T16_0_ok, lx_e16_0⟩
  | 1, _ => ⟨_, lx_T16_0_ok, lx_e16_1⟩
  | 2, _ => ⟨_, lx_T16_0_ok, lx_e16_2⟩
  | 3, _ => ⟨_, lx_T16_0_ok, lx_e16_3⟩
  | 4, _ => ⟨_, lx_T16_0_ok, lx_e16_4⟩
  | n + 5, h => absurd h (by omega)
noncomputable def lx_T17_0 : List (Nat × us_C) := [(150, cn_x_price), (232, cn_m_price)]
theorem lx_T17_0_ok : lt_all 60 lx_T17_0 := ⟨cp_x_price.mono (by decide), cp_m_price.mono (by decide), trivial⟩
theorem lx_e17_0 : lx_ck lx_T17_0 17 0 = true := by decide +kernel
theorem lx_e17_1 : lx_ck lx_T17_0 17 1 = true := by decide +kernel
theorem lx_e17_2 : lx_ck lx_T17_0 17 2 = true := by decide +kernel
theorem lx_e17_3 : lx_ck lx_T17_0 17 3 = true := by decide +kernel
theorem lx_e17_4 : lx_ck lx_T17_0 17 4 = true := by decide +kernel
theorem lx_k17 : ∀ v, v < 5 → lx_K 17 v := fun v hv => match v, hv with
  | 0, _ => ⟨_, lx_T17_0_ok, lx_e17_0⟩
  | 1, _ => ⟨_, lx_T17_0_ok, lx_e17_1⟩
  | 2, _ => ⟨_, lx_T17_0_ok, lx_e17_2⟩
  | 3, _ => ⟨_, lx_T17_0_ok, lx_e17_3⟩
  | 4, _ => ⟨_, lx_T17_0_ok, lx_e17_4⟩
  | n + 5, h => absurd h (by omega)
