/-! THE LAW: copy, row by row 5 -/
theorem lx_y10_0 : lx_ck5 10 0 = true := by decide +kernel
theorem lx_y10_1 : lx_ck5 10 1 = true := by decide +kernel
theorem lx_y10_2 : lx_ck5 10 2 = true := by decide +kernel
theorem lx_y10_3 : lx_ck5 10 3 = true := by decide +kernel
theorem lx_y10_4 : lx_ck5 10 4 = true := by decide +kernel
theorem lx_y10_5 : lx_ck5 10 5 = true := by decide +kernel
theorem lx_y10_6 : lx_ck5 10 6 = true := by decide +kernel
theorem lx_y10_7 : lx_ck5 10 7 = true := by decide +kernel
theorem lx_y10_8 : lx_ck5 10 8 = true := by decide +kernel
theorem lx_y10_9 : lx_ck5 10 9 = true := by decide +kernel
theorem lx_y10_10 : lx_ck5 10 10 = true := by decide +kernel
theorem lx_y10_11 : lx_ck5 10 11 = true := by decide +kernel
theorem lx_yr10_ : ∀ t, t < 12 → lx_ck5 10 t = true := fun t h => match t, h with
  | 0, _ => lx_y10_0
  | 1, _ => lx_y10_1
  | 2, _ => lx_y10_2
  | 3, _ => lx_y10_3
  | 4, _ => lx_y10_4
  | 5, _ => lx_y10_5
  | 6, _ => lx_y10_6
  | 7, _ => lx_y10_7
  | 8, _ => lx_y10_8
  | 9, _ => lx_y10_9
  | 10, _ => lx_y10_10
  | 11, _ => lx_y10_11
  | n + 12, h => absurd h (by omega)
theorem lx_y11_0 : lx_ck5 11 0 = true := by decide +kernel
theorem lx_y11_1 : lx_ck5 11 1 = true := by decide +kernel
theorem lx_y11_2 : lx_ck5 11 2 = true := by decide +kernel
theorem lx_y11_3 : lx_ck5 11 3 = true := by decide +kernel
theorem lx_y11_4 : lx_ck5 11 4 = true := by decide +kernel
theorem lx_y11_5 : lx_ck5 11 5 = true := by decide +kernel
theorem lx_y11_6 : lx_ck5 11 6 = true := by decide +kernel
theorem lx_y11_7 : lx_ck5 11 7 = true := by decide +kernel
theorem lx_y11_8 : lx_ck5 11 8 = true := by decide +kernel
theorem lx_y11_9 : lx_ck5 11 9 = true := by decide +kernel
theorem lx_y11_10 : lx_ck5 11 10 = true := by decide +kernel
theorem lx_y11_11 : lx_ck5 11 11 = true := by decide +kernel
theorem lx_yr11_ : ∀ t, t < 12 → lx_ck5 11 t = true := fun t h => match t, h with
  | 0, _ => lx_y11_0
  | 1, _ => lx_y11_1
  | 2, _ => lx_y11_2
  | 3, _ => lx_y11_3
  | 4, _ => lx_y11_4
  | 5, _ => lx_y11_5
  | 6, _ => lx_y11_6
  | 7, _ => lx_y11_7
  | 8, _ => lx_y11_8
  | 9, _ => lx_y11_9
  | 10, _ => lx_y11_10
  | 11, _ => lx_y11_11
  | n + 12, h => absurd h (by omega)
