/-! THE LAW: copy, row by row 1 -/
theorem lx_y2_0 : lx_ck5 2 0 = true := by decide +kernel
theorem lx_y2_1 : lx_ck5 2 1 = true := by decide +kernel
theorem lx_y2_2 : lx_ck5 2 2 = true := by decide +kernel
theorem lx_y2_3 : lx_ck5 2 3 = true := by decide +kernel
theorem lx_y2_4 : lx_ck5 2 4 = true := by decide +kernel
theorem lx_y2_5 : lx_ck5 2 5 = true := by decide +kernel
theorem lx_y2_6 : lx_ck5 2 6 = true := by decide +kernel
theorem lx_y2_7 : lx_ck5 2 7 = true := by decide +kernel
theorem lx_y2_8 : lx_ck5 2 8 = true := by decide +kernel
theorem lx_y2_9 : lx_ck5 2 9 = true := by decide +kernel
theorem lx_y2_10 : lx_ck5 2 10 = true := by decide +kernel
theorem lx_y2_11 : lx_ck5 2 11 = true := by decide +kernel
theorem lx_yr2_ : ∀ t, t < 12 → lx_ck5 2 t = true := fun t h => match t, h with
  | 0, _ => lx_y2_0
  | 1, _ => lx_y2_1
  | 2, _ => lx_y2_2
  | 3, _ => lx_y2_3
  | 4, _ => lx_y2_4
  | 5, _ => lx_y2_5
  | 6, _ => lx_y2_6
  | 7, _ => lx_y2_7
  | 8, _ => lx_y2_8
  | 9, _ => lx_y2_9
  | 10, _ => lx_y2_10
  | 11, _ => lx_y2_11
  | n + 12, h => absurd h (by omega)
theorem lx_y3_0 : lx_ck5 3 0 = true := by decide +kernel
theorem lx_y3_1 : lx_ck5 3 1 = true := by decide +kernel
theorem lx_y3_2 : lx_ck5 3 2 = true := by decide +kernel
theorem lx_y3_3 : lx_ck5 3 3 = true := by decide +kernel
theorem lx_y3_4 : lx_ck5 3 4 = true := by decide +kernel
theorem lx_y3_5 : lx_ck5 3 5 = true := by decide +kernel
theorem lx_y3_6 : lx_ck5 3 6 = true := by decide +kernel
theorem lx_y3_7 : lx_ck5 3 7 = true := by decide +kernel
theorem lx_y3_8 : lx_ck5 3 8 = true := by decide +kernel
theorem lx_y3_9 : lx_ck5 3 9 = true := by decide +kernel
theorem lx_y3_10 : lx_ck5 3 10 = true := by decide +kernel
theorem lx_y3_11 : lx_ck5 3 11 = true := by decide +kernel
theorem lx_yr3_ : ∀ t, t < 12 → lx_ck5 3 t = true := fun t h => match t, h with
  | 0, _ => lx_y3_0
  | 1, _ => lx_y3_1
  | 2, _ => lx_y3_2
  | 3, _ => lx_y3_3
  | 4, _ => lx_y3_4
  | 5, _ => lx_y3_5
  | 6, _ => lx_y3_6
  | 7, _ => lx_y3_7
  | 8, _ => lx_y3_8
  | 9, _ => lx_y3_9
  | 10, _ => lx_y3_10
  | 11, _ => lx_y3_11
  | n + 12, h => absurd h (by omega)
