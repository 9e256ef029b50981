/-! THE LAW: copy, row by row 4 -/
theorem lx_y8_0 : lx_ck5 8 0 = true := by decide +kernel
theorem lx_y8_1 : lx_ck5 8 1 = true := by decide +kernel
theorem lx_y8_2 : lx_ck5 8 2 = true := by decide +kernel
theorem lx_y8_3 : lx_ck5 8 3 = true := by decide +kernel
theorem lx_y8_4 : lx_ck5 8 4 = true := by decide +kernel
theorem lx_y8_5 : lx_ck5 8 5 = true := by decide +kernel
theorem lx_y8_6 : lx_ck5 8 6 = true := by decide +kernel
theorem lx_y8_7 : lx_ck5 8 7 = true := by decide +kernel
theorem lx_y8_8 : lx_ck5 8 8 = true := by decide +kernel
theorem lx_y8_9 : lx_ck5 8 9 = true := by decide +kernel
theorem lx_y8_10 : lx_ck5 8 10 = true := by decide +kernel
theorem lx_y8_11 : lx_ck5 8 11 = true := by decide +kernel
theorem lx_yr8_ : ∀ t, t < 12 → lx_ck5 8 t = true := fun t h => match t, h with
  | 0, _ => lx_y8_0
  | 1, _ => lx_y8_1
  | 2, _ => lx_y8_2
  | 3, _ => lx_y8_3
  | 4, _ => lx_y8_4
  | 5, _ => lx_y8_5
  | 6, _ => lx_y8_6
  | 7, _ => lx_y8_7
  | 8, _ => lx_y8_8
  | 9, _ => lx_y8_9
  | 10, _ => lx_y8_10
  | 11, _ => lx_y8_11
  | n + 12, h => absurd h (by omega)
theorem lx_y9_0 : lx_ck5 9 0 = true := by decide +kernel
theorem lx_y9_1 : lx_ck5 9 1 = true := by decide +kernel
theorem lx_y9_2 : lx_ck5 9 2 = true := by decide +kernel
theorem lx_y9_3 : lx_ck5 9 3 = true := by decide +kernel
theorem lx_y9_4 : lx_ck5 9 4 = true := by decide +kernel
theorem lx_y9_5 : lx_ck5 9 5 = true := by decide +kernel
theorem lx_y9_6 : lx_ck5 9 6 = true := by decide +kernel
theorem lx_y9_7 : lx_ck5 9 7 = true := by decide +kernel
theorem lx_y9_8 : lx_ck5 9 8 = true := by decide +kernel
theorem lx_y9_9 : lx_ck5 9 9 = true := by decide +kernel
theorem lx_y9_10 : lx_ck5 9 10 = true := by decide +kernel
theorem lx_y9_11 : lx_ck5 9 11 = true := by decide +kernel
theorem lx_yr9_ : ∀ t, t < 12 → lx_ck5 9 t = true := fun t h => match t, h with
  | 0, _ => lx_y9_0
  | 1, _ => lx_y9_1
  | 2, _ => lx_y9_2
  | 3, _ => lx_y9_3
  | 4, _ => lx_y9_4
  | 5, _ => lx_y9_5
  | 6, _ => lx_y9_6
  | 7, _ => lx_y9_7
  | 8, _ => lx_y9_8
  | 9, _ => lx_y9_9
  | 10, _ => lx_y9_10
  | 11, _ => lx_y9_11
  | n + 12, h => absurd h (by omega)
