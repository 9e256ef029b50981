/-! THE LAW: night, 2 places -/
theorem lx_zn2_0_x0 : lx_zckA 22 lx_zT22 lx_B22 [] (lx_k22 0) (lx_z22 2 0) (.negSucc 2147483647, .negSucc 0) = true := by decide +kernel
theorem lx_zn2_0_x1 : lx_zckA 22 lx_zT22 lx_B22 [] (lx_k22 0) (lx_z22 2 0) (.ofNat 0, .ofNat 0) = true := by decide +kernel
theorem lx_zn2_0_x2 : lx_zckA 22 lx_zT22 lx_B22 [] (lx_k22 0) (lx_z22 2 0) (.ofNat 1, .ofNat 1) = true := by decide +kernel
theorem lx_zn2_0_x3 : lx_zckA 22 lx_zT22 lx_B22 [] (lx_k22 0) (lx_z22 2 0) (.ofNat 2, .ofNat 2) = true := by decide +kernel
theorem lx_zn2_0_x4 : lx_zckA 22 lx_zT22 lx_B22 [] (lx_k22 0) (lx_z22 2 0) (.ofNat 3, .ofNat 3) = true := by decide +kernel
theorem lx_zn2_0_x5 : lx_zckA 22 lx_zT22 lx_B22 [] (lx_k22 0) (lx_z22 2 0) (.ofNat 4, .ofNat 2147483647) = true := by decide +kernel
theorem lx_zn2_0 : lx_zck 22 lx_zT22 lx_B22 [] (lx_k22 0) (lx_z22 2 0) = true := lx_zck_of lx_B22_kc lx_B22_kl (lx_ac lx_zn2_0_x0 (lx_ac lx_zn2_0_x1 (lx_ac lx_zn2_0_x2 (lx_ac lx_zn2_0_x3 (lx_ac lx_zn2_0_x4 (lx_ac lx_zn2_0_x5 lx_an))))))
theorem lx_zn2_1_x0 : lx_zckA 22 lx_zT22 lx_B22 [] (lx_k22 1) (lx_z22 2 1) (.negSucc 2147483647, .negSucc 0) = true := by decide +kernel
theorem lx_zn2_1_x1 : lx_zckA 22 lx_zT22 lx_B22 [] (lx_k22 1) (lx_z22 2 1) (.ofNat 0, .ofNat 0) = true := by decide +kernel
theorem lx_zn2_1_x2 : lx_zckA 22 lx_zT22 lx_B22 [] (lx_k22 1) (lx_z22 2 1) (.ofNat 1, .ofNat 1) = true := by decide +kernel
theorem lx_zn2_1_x3 : lx_zckA 22 lx_zT22 lx_B22 [] (lx_k22 1) (lx_z22 2 1) (.ofNat 2, .ofNat 2) = true := by decide +kernel
theorem lx_zn2_1_x4 : lx_zckA 22 lx_zT22 lx_B22 [] (lx_k22 1) (lx_z22 2 1) (.ofNat 3, .ofNat 3) = true := by decide +kernel
theorem lx_zn2_1_x5 : lx_zckA 22 lx_zT22 lx_B22 [] (lx_k22 1) (lx_z22 2 1) (.ofNat 4, .ofNat 2147483647) = true := by decide +kernel
theorem lx_zn2_1 : lx_zck 22 lx_zT22 lx_B22 [] (lx_k22 1) (lx_z22 2 1) = true := lx_zck_of lx_B22_kc lx_B22_kl (lx_ac lx_zn2_1_x0 (lx_ac lx_zn2_1_x1 (lx_ac lx_zn2_1_x2 (lx_ac lx_zn2_1_x3 (lx_ac lx_zn2_1_x4 (lx_ac lx_zn2_1_x5 lx_an))))))
theorem lx_zn2_2_x0 : lx_zckA 22 lx_zT22 lx_B22 [] (lx_k22 2) (lx_z22 2 2) (.negSucc 2147483647, .negSucc 0) = true := by decide +kernel
theorem lx_zn2_2_x1 : lx_zckA 22 lx_zT22 lx_B22 [] (lx_k22 2) (lx_z22 2 2) (.ofNat 0, .ofNat 0) = true := by decide +kernel
theorem lx_zn2_2_x2 : lx_zckA 22 lx_zT22 lx_B22 [] (lx_k22 2) (lx_z22 2 2) (.ofNat 1, .ofNat 1) = true := by decide +kernel
theorem lx_zn2_2_x3 : lx_zckA 22 lx_zT22 lx_B22 [] (lx_k22 2) (lx_z22 2 2) (.ofNat 2, .ofNat 2) = true := by decide +kernel
theorem lx_zn2_2_x4 : lx_zckA 22 lx_zT22 lx_B22 [] (lx_k22 2) (lx_z22 2 2) (.ofNat 3, .ofNat 3) = true := by decide +kernel
theorem lx_zn2_2_x5 : lx_zckA 22 lx_zT22 lx_B22 [] (lx_k22 2) (lx_z22 2 2) (.ofNat 4, .ofNat 2147483647) = true := by decide +kernel
theorem lx_zn2_2 : lx_zck 22 lx_zT22 lx_B22 [] (lx_k22 2) (lx_z22 2 2) = true := lx_zck_of lx_B22_kc lx_B22_kl (lx_ac lx_zn2_2_x0 (lx_ac lx_zn2_2_x1 (lx_ac lx_zn2_2_x2 (lx_ac lx_zn2_2_x3 (lx_ac lx_zn2_2_x4 (lx_ac lx_zn2_2_x5 lx_an))))))
theorem lx_zn2_3_x0 : lx_zckA 22 lx_zT22 lx_B22 [] (lx_k22 3) (lx_z22 2 3) (.negSucc 2147483647, .negSucc 0) = true := by decide +kernel
theorem lx_zn2_3_x1 : lx_zckA 22 lx_zT22 lx_B22 [] (lx_k22 3) (lx_z22 2 3) (.ofNat 0, .ofNat 0) = true := by decide +kernel
theorem lx_zn2_3_x2 : lx_zckA 22 lx_zT22 lx_B22 [] (lx_k22 3) (lx_z22 2 3) (.ofNat 1, .ofNat 1) = true := by decide +kernel
theorem lx_zn2_3_x3 : lx_zckA 22 lx_zT22 lx_B22 [] (lx_k22 3) (lx_z22 2 3) (.ofNat 2, .ofNat 2) = true := by decide +kernel
theorem lx_zn2_3_x4 : lx_zckA 22 lx_zT22 lx_B22 [] (lx_k22 3) (lx_z22 2 3) (.ofNat 3, .ofNat 3) = true := by decide +kernel
theorem lx_zn2_3_x5 : lx_zckA 22 lx_zT22 lx_B22 [] (lx_k22 3) (lx_z22 2 3) (.ofNat 4, .ofNat 2147483647) = true := by decide +kernel
theorem lx_zn2_3 : lx_zck 22 lx_zT22 lx_B22 [] (lx_k22 3) (lx_z22 2 3) = true := lx_zck_of lx_B22_kc lx_B22_kl (lx_ac lx_zn2_3_x0 (lx_ac lx_zn2_3_x1 (lx_ac lx_zn2_3_x2 (lx_ac lx_zn2_3_x3 (lx_ac lx_zn2_3_x4 (lx_ac lx_zn2_3_x5 lx_an))))))
theorem lx_zn2_4_x0 : lx_zckA 22 lx_zT22 lx_B22 [] (lx_k22 4) (lx_z22 2 4) (.negSucc 2147483647, .negSucc 0) = true := by decide +kernel
theorem lx_zn2_4_x1 : lx_zckA 22 lx_zT22 lx_B22 [] (lx_k22 4) (lx_z22 2 4) (.ofNat 0, .ofNat 0) = true := by decide +kernel
theorem lx_zn2_4_x2 : lx_zckA 22 lx_zT22 lx_B22 [] (lx_k22 4) (lx_z22 2 4) (.ofNat 1, .ofNat 1) = true := by decide +kernel
theorem lx_zn2_4_x3 : lx_zckA 22 lx_zT22 lx_B22 [] (lx_k22 4) (lx_z22 2 4) (.ofNat 2, .ofNat 2) = true := by decide +kernel
theorem lx_zn2_4_x4 : lx_zckA 22 lx_zT22 lx_B22 [] (lx_k22 4) (lx_z22 2 4) (.ofNat 3, .ofNat 3) = true := by decide +kernel
theorem lx_zn2_4_x5 : lx_zckA 22 lx_zT22 lx_B22 [] (lx_k22 4) (lx_z22 2 4) (.ofNat 4, .ofNat 2147483647) = true := by decide +kernel
theorem lx_zn2_4 : lx_zck 22 lx_zT22 lx_B22 [] (lx_k22 4) (lx_z22 2 4) = true := lx_zck_of lx_B22_kc lx_B22_kl (lx_ac lx_zn2_4_x0 (lx_ac lx_zn2_4_x1 (lx_ac lx_zn2_4_x2 (lx_ac lx_zn2_4_x3 (lx_ac lx_zn2_4_x4 (lx_ac lx_zn2_4_x5 lx_an))))))
theorem lx_zn2 : ∀ m, m < 5 → lx_zck 22 lx_zT22 lx_B22 [] (lx_k22 m) (lx_z22 2 m) = true := fun m h => match m, h with
  | 0, _ => lx_zn2_0
  | 1, _ => lx_zn2_1
  | 2, _ => lx_zn2_2
  | 3, _ => lx_zn2_3
  | 4, _ => lx_zn2_4
  | n + 5, h => absurd h (by omega)
