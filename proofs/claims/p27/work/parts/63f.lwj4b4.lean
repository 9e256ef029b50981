/-! THE LAW: night, 4 places -/
theorem lx_zn4_0 : lx_zck 22 lx_zT22 lx_B22 [] (lx_k22 0) (lx_z22 4 0) = true := by decide +kernel
theorem lx_zn4_1 : lx_zck 22 lx_zT22 lx_B22 [] (lx_k22 1) (lx_z22 4 1) = true := by decide +kernel
theorem lx_zn4_2 : lx_zck 22 lx_zT22 lx_B22 [] (lx_k22 2) (lx_z22 4 2) = true := by decide +kernel
theorem lx_zn4_3 : lx_zck 22 lx_zT22 lx_B22 [] (lx_k22 3) (lx_z22 4 3) = true := by decide +kernel
theorem lx_zn4_4 : lx_zck 22 lx_zT22 lx_B22 [] (lx_k22 4) (lx_z22 4 4) = true := by decide +kernel
theorem lx_zn4 : ∀ m, m < 5 → lx_zck 22 lx_zT22 lx_B22 [] (lx_k22 m) (lx_z22 4 m) = true := fun m h => match m, h with
  | 0, _ => lx_zn4_0
  | 1, _ => lx_zn4_1
  | 2, _ => lx_zn4_2
  | 3, _ => lx_zn4_3
  | 4, _ => lx_zn4_4
  | n + 5, h => absurd h (by omega)
