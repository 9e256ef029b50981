/-! THE LAW: copy, row by row 3 -/
theorem lx_y6_0 : lx_ck5 6 0 = true := by decide +kernel
theorem lx_y6_1 : lx_ck5 6 1 = true := by decide +kernel
theorem lx_y6_2 : lx_ck5 6 2 = true := by decide +kernel
theorem lx_y6_3 : lx_ck5 6 3 = true := by decide +kernel
theorem lx_y6_4 : lx_ck5 6 4 = true := by decide +kernel
theorem lx_y6_5 : lx_ck5 6 5 = true := by decide +kernel
theorem lx_y6_6 : lx_ck5 6 6 = true := by decide +kernel
theorem lx_y6_7 : lx_ck5 6 7 = true := by decide +kernel
theorem lx_y6_8 : lx_ck5 6 8 = true := by decide +kernel
theorem lx_y6_9 : lx_ck5 6 9 = true := by decide +kernel
theorem lx_y6_10 : lx_ck5 6 10 = true := by decide +kernel
theorem lx_y6_11 : lx_ck5 6 11 = true := by decide +kernel
theorem lx_yr6_ : ∀ t, t < 12 → lx_ck5 6 t = true := fun t h => match t, h with
  | 0, _ => lx_y6_0
  | 1, _ => lx_y6_1
  | 2, _ => lx_y6_2
  | 3, _ => lx_y6_3
  | 4, _ => lx_y6_4
  | 5, _ => lx_y6_5
  | 6, _ => lx_y6_6
  | 7, _ => lx_y6_7
  | 8, _ => lx_y6_8
  | 9, _ => lx_y6_9
  | 10, _ => lx_y6_10
  | 11, _ => lx_y6_11
  | n + 12, h => absurd h (by omega)
theorem lx_y7_0 : lx_ck5 7 0 = true := by decide +kernel
theorem lx_y7_1 : lx_ck5 7 1 = true := by decide +kernel
theorem lx_y7_2 : lx_ck5 7 2 = true := by decide +kernel
theorem lx_y7_3 : lx_ck5 7 3 = true := by decide +kernel
theorem lx_y7_4 : lx_ck5 7 4 = true := by decide +kernel
theorem lx_y7_5 : lx_ck5 7 5 = true := by decide +kernel
theorem lx_y7_6 : lx_ck5 7 6 = true := by decide +kernel
theorem lx_y7_7 : lx_ck5 7 7 = true := by decide +kernel
theorem lx_y7_8 : lx_ck5 7 8 = true := by decide +kernel
theorem lx_y7_9 : lx_ck5 7 9 = true := by decide +kernel
theorem lx_y7_10 : lx_ck5 7 10 = true := by decide +kernel
theorem lx_y7_11 : lx_ck5 7 11 = true := by decide +kernel
theorem lx_yr7_ : ∀ t, t < 12 → lx_ck5 7 t = true := fun t h => match t, h with
  | 0, _ => lx_y7_0
  | 1, _ => lx_y7_1
  | 2, _ => lx_y7_2
  | 3, _ => lx_y7_3
  | 4, _ => lx_y7_4
  | 5, _ => lx_y7_5
  | 6, _ => lx_y7_6
  | 7, _ => lx_y7_7
  | 8, _ => lx_y7_8
  | 9, _ => lx_y7_9
  | 10, _ => lx_y7_10
  | 11, _ => lx_y7_11
  | n + 12, h => absurd h (by omega)
