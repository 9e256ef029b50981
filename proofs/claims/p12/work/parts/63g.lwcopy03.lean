/-! THE LAW: copy, row by row 2 -/
theorem lx_y4_0 : lx_ck5 4 0 = true := by decide +kernel
theorem lx_y4_1 : lx_ck5 4 1 = true := by decide +kernel
theorem lx_y4_2 : lx_ck5 4 2 = true := by decide +kernel
theorem lx_y4_3 : lx_ck5 4 3 = true := by decide +kernel
theorem lx_y4_4 : lx_ck5 4 4 = true := by decide +kernel
theorem lx_y4_5 : lx_ck5 4 5 = true := by decide +kernel
theorem lx_y4_6 : lx_ck5 4 6 = true := by decide +kernel
theorem lx_y4_7 : lx_ck5 4 7 = true := by decide +kernel
theorem lx_y4_8 : lx_ck5 4 8 = true := by decide +kernel
theorem lx_y4_9 : lx_ck5 4 9 = true := by decide +kernel
theorem lx_y4_10 : lx_ck5 4 10 = true := by decide +kernel
theorem lx_y4_11 : lx_ck5 4 11 = true := by decide +kernel
theorem lx_yr4_ : ∀ t, t < 12 → lx_ck5 4 t = true := fun t h => match t, h with
  | 0, _ => lx_y4_0
  | 1, _ => lx_y4_1
  | 2, _ => lx_y4_2
  | 3, _ => lx_y4_3
  | 4, _ => lx_y4_4
  | 5, _ => lx_y4_5
  | 6, _ => lx_y4_6
  | 7, _ => lx_y4_7
  | 8, _ => lx_y4_8
  | 9, _ => lx_y4_9
  | 10, _ => lx_y4_10
  | 11, _ => lx_y4_11
  | n + 12, h => absurd h (by omega)
theorem lx_y5_0 : lx_ck5 5 0 = true := by decide +kernel
theorem lx_y5_1 : lx_ck5 5 1 = true := by decide +kernel
theorem lx_y5_2 : lx_ck5 5 2 = true := by decide +kernel
theorem lx_y5_3 : lx_ck5 5 3 = true := by decide +kernel
theorem lx_y5_4 : lx_ck5 5 4 = true := by decide +kernel
theorem lx_y5_5 : lx_ck5 5 5 = true := by decide +kernel
theorem lx_y5_6 : lx_ck5 5 6 = true := by decide +kernel
theorem lx_y5_7 : lx_ck5 5 7 = true := by decide +kernel
theorem lx_y5_8 : lx_ck5 5 8 = true := by decide +kernel
theorem lx_y5_9 : lx_ck5 5 9 = true := by decide +kernel
theorem lx_y5_10 : lx_ck5 5 10 = true := by decide +kernel
theorem lx_y5_11 : lx_ck5 5 11 = true := by decide +kernel
theorem lx_yr5_ : ∀ t, t < 12 → lx_ck5 5 t = true := fun t h => match t, h with
  | 0, _ => lx_y5_0
  | 1, _ => lx_y5_1
  | 2, _ => lx_y5_2
  | 3, _ => lx_y5_3
  | 4, _ => lx_y5_4
  | 5, _ => lx_y5_5
  | 6, _ => lx_y5_6
  | 7, _ => lx_y5_7
  | 8, _ => lx_y5_8
  | 9, _ => lx_y5_9
  | 10, _ => lx_y5_10
  | 11, _ => lx_y5_11
  | n + 12, h => absurd h (by omega)
