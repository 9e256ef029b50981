/-! BY HAND: way: the loops' bodies by evaluation -/
theorem wy_k770 : ∀ a, a < 13 → wy_chk 0 [31, 77, 158] true 77 (wy_L77 a) wy_n77 (wy_c77 0 a) = true := by decide +kernel
theorem wy_k771 : ∀ a, a < 13 → wy_chk 1 [31, 77, 158] true 77 (wy_L77 a) wy_n77 (wy_c77 1 a) = true := by decide +kernel
theorem wy_k772 : ∀ a, a < 13 → wy_chk 2 [31, 77, 158] true 77 (wy_L77 a) wy_n77 (wy_c77 2 a) = true := by decide +kernel
theorem wy_k773 : ∀ a, a < 13 → wy_chk 3 [31, 77, 158] true 77 (wy_L77 a) wy_n77 (wy_c77 3 a) = true := by decide +kernel
theorem wy_k77 (k : Nat) (hk : k < 4) : ∀ a, a < 13 → wy_chk k [31, 77, 158] true 77 (wy_L77 a) wy_n77 (wy_c77 k a) = true := match k, hk with
  | 0, _ => wy_k770
  | 1, _ => wy_k771
  | 2, _ => wy_k772
  | 3, _ => wy_k773
