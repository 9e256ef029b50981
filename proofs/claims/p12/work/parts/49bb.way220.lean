/-! BY HAND: way: the loops' bodies by evaluation -/
theorem wy_k2200 : ∀ a, a < 13 → wy_chk 0 [198, 220] true 220 (wy_L220 a) wy_n220 (wy_c220 0 a) = true := by decide +kernel
theorem wy_k2201 : ∀ a, a < 13 → wy_chk 1 [198, 220] true 220 (wy_L220 a) wy_n220 (wy_c220 1 a) = true := by decide +kernel
theorem wy_k2202 : ∀ a, a < 13 → wy_chk 2 [198, 220] true 220 (wy_L220 a) wy_n220 (wy_c220 2 a) = true := by decide +kernel
theorem wy_k2203 : ∀ a, a < 13 → wy_chk 3 [198, 220] true 220 (wy_L220 a) wy_n220 (wy_c220 3 a) = true := by decide +kernel
theorem wy_k220 (k : Nat) (hk : k < 4) : ∀ a, a < 13 → wy_chk k [198, 220] true 220 (wy_L220 a) wy_n220 (wy_c220 k a) = true := match k, hk with
  | 0, _ => wy_k2200
  | 1, _ => wy_k2201
  | 2, _ => wy_k2202
  | 3, _ => wy_k2203
