/-! THE LAW: copy, row by row 0 -/
theorem lx_y0_0 : lx_ck5 0 0 = true := by decide +kernel
theorem lx_y0_1 : lx_ck5 0 1 = true := by decide +kernel
theorem lx_y0_2 : lx_ck5 0 2 = true := by decide +kernel
theorem lx_y0_3 : lx_ck5 0 3 = true := by decide +kernel
theorem lx_y0_4 : lx_ck5 0 4 = true := by decide +kernel
theorem lx_y0_5 : lx_ck5 0 5 = true := by decide +kernel
theorem lx_y0_6 : lx_ck5 0 6 = true := by decide +kernel
theorem lx_y0_7 : lx_ck5 0 7 = true := by decide +kernel
theorem lx_y0_8 : lx_ck5 0 8 = true := by decide +kernel
theorem lx_y0_9 : lx_ck5 0 9 = true := by decide +kernel
theorem lx_y0_10 : lx_ck5 0 10 = true := by decide +kernel
theorem lx_y0_11 : lx_ck5 0 11 = true := by decide +kernel
theorem lx_yr0_ : ∀ t, t < 12 → lx_ck5 0 t = true := fun t h => match t, h with
  | 0, _ => lx_y0_0
  | 1, _ => lx_y0_1
  | 2, _ => lx_y0_2
  | 3, _ => lx_y0_3
  | 4, _ => lx_y0_4
  | 5, _ => lx_y0_5
  | 6, _ => lx_y0_6
  | 7, _ => lx_y0_7
  | 8, _ => lx_y0_8
  | 9, _ => lx_y0_9
  | 10, _ => lx_y0_10
  | 11, _ => lx_y0_11
  | n + 12, h => absurd h (by omega)
theorem lx_y1_0 : lx_ck5 1 0 = true := by decide +kernel
theorem lx_y1_1 : lx_ck5 1 1 = true := by decide +kernel
theorem lx_y1_2 : lx_ck5 1 2 = true := by decide +kernel
theorem lx_y1_3 : lx_ck5 1 3 = true := by decide +kernel
theorem lx_y1_4 : lx_ck5 1 4 = true := by decide +kernel
theorem lx_y1_5 : lx_ck5 1 5 = true := by decide +kernel
theorem lx_y1_6 : lx_ck5 1 6 = true := by decide +kernel
theorem lx_y1_7 : lx_ck5 1 7 = true := by decide +kernel
theorem lx_y1_8 : lx_ck5 1 8 = true := by decide +kernel
theorem lx_y1_9 : lx_ck5 1 9 = true := by decide +kernel
theorem lx_y1_10 : lx_ck5 1 10 = true := by decide +kernel
theorem lx_y1_11 : lx_ck5 1 11 = true := by decide +kernel
theorem lx_yr1_ : ∀ t, t < 12 → lx_ck5 1 t = true := fun t h => match t, h with
  | 0, _ => lx_y1_0
  | 1, _ => lx_y1_1
  | 2, _ => lx_y1_2
  | 3, _ => lx_y1_3
  | 4, _ => lx_y1_4
  | 5, _ => lx_y1_5
  | 6, _ => lx_y1_6
  | 7, _ => lx_y1_7
  | 8, _ => lx_y1_8
  | 9, _ => lx_y1_9
  | 10, _ => lx_y1_10
  | 11, _ => lx_y1_11
  | n + 12, h => absurd h (by omega)
