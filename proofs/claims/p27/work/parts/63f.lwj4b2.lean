/-! THE LAW: night, 2 places -/
theorem lx_zn2_0 : lx_zck 22 lx_zT22 lx_B22 [] (lx_k22 0) (lx_z22 2 0) = true := by decide +kernel
theorem lx_zn2_1 : lx_zck 22 lx_zT22 lx_B22 [] (lx_k22 1) (lx_z22 2 1) = true := by decide +kernel
theorem lx_zn2_2 : lx_zck 22 lx_zT22 lx_B22 [] (lx_k22 2) (lx_z22 2 2) = true := by decide +kernel
theorem lx_zn2_3 : lx_zck 22 lx_zT22 lx_B22 [] (lx_k22 3) (lx_z22 2 3) = true := by decide +kernel
theorem lx_zn2_4 : lx_zck 22 lx_zT22 lx_B22 [] (lx_k22 4) (lx_z22 2 4) = true := by decide +kernel
theorem lx_zn2 : ∀ m, m < 5 → lx_zck 22 lx_zT22 lx_B22 [] (lx_k22 m) (lx_z22 2 m) = true := fun m h => match m, h with
  | 0, _ => lx_zn2_0
  | 1, _ => lx_zn2_1
  | 2, _ => lx_zn2_2
  | 3, _ => lx_zn2_3
  | 4, _ => lx_zn2_4
  | n + 5, h => absurd h (by omega)
