/-! BY HAND: way: its functions have one outcome each (3) -/
theorem wy_ckB0 : ∀ a, a < 14 → fc_ck (wy_OB 0) (wy_EF 0) wy_hB wy_sB (wy_LB 0 a) (wy_qB 0 a) 108 wy_sp = true := by decide +kernel
theorem wy_ckB1 : ∀ a, a < 14 → fc_ck (wy_OB 1) (wy_EF 1) wy_hB wy_sB (wy_LB 1 a) (wy_qB 1 a) 108 wy_sp = true := by decide +kernel
theorem wy_ckB2 : ∀ a, a < 14 → fc_ck (wy_OB 2) (wy_EF 2) wy_hB wy_sB (wy_LB 2 a) (wy_qB 2 a) 108 wy_sp = true := by decide +kernel
theorem wy_ckB3 : ∀ a, a < 14 → fc_ck (wy_OB 3) (wy_EF 3) wy_hB wy_sB (wy_LB 3 a) (wy_qB 3 a) 108 wy_sp = true := by decide +kernel
theorem wy_ckB (k : Nat) (hk : k < 4) : ∀ a, a < 14 → fc_ck (wy_OB k) (wy_EF k) wy_hB wy_sB (wy_LB k a) (wy_qB k a) 108 wy_sp = true := match k, hk with
  | 0, _ => wy_ckB0
  | 1, _ => wy_ckB1
  | 2, _ => wy_ckB2
  | 3, _ => wy_ckB3
