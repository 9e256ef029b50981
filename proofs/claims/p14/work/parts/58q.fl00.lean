/-! flow's algebra: trees of a net of four places -/
noncomputable def fy_e (a b i : Nat) : Int := if i = a then 1 else if i = b then -1 else 0
noncomputable def fy_lap (en : Nat → Nat × Nat) (st : Nat → Int) : Nat → Nat → Nat → Int
  | 0, _, _ => 0
  | l + 1, i, j => fy_lap en st l i j + st l * (fy_e (en l).1 (en l).2 i * fy_e (en l).1 (en l).2 j)
theorem fy_e3 (a b i : Nat) : fy_e a b i = 1 ∨ fy_e a b i = -1 ∨ fy_e a b i = 0 := by
  unfold fy_e
  by_cases h : i = a
  · exact Or.inl (if_pos h)
  · rw [if_neg h]
    by_cases g : i = b
    · exact Or.inr (Or.inl (if_pos g))
    · exact Or.inr (Or.inr (if_neg g))
theorem fy_off (a b i j : Nat) (h : a ≠ b) (hij : i ≠ j) : fy_e a b i * fy_e a b j = 0 ∨ fy_e a b i * fy_e a b j = -1 := by
  unfold fy_e
  by_cases h1 : i = a <;> by_cases h2 : i = b <;> by_cases h3 : j = a <;> by_cases h4 : j = b <;> simp [h1, h2, h3, h4] <;> omega
theorem fy_sum (a b : Nat) (h : a ≠ b) (ha : a < 4) (hb : b < 4) : fy_e a b 0 + fy_e a b 1 + fy_e a b 2 + fy_e a b 3 = 0 := by
  have h1 : a = 0 ∨ a = 1 ∨ a = 2 ∨ a = 3 := by omega
  have h2 : b = 0 ∨ b = 1 ∨ b = 2 ∨ b = 3 := by omega
  rcases h1 with rfl | rfl | rfl | rfl <;> rcases h2 with rfl | rfl | rfl | rfl <;> first | exact absurd rfl h | decide | rfl
theorem fy_sym (en : Nat → Nat × Nat) (st : Nat → Int) : ∀ l i j, fy_lap en st l i j = fy_lap en st l j i
  | 0, _, _ => rfl
  | l + 1, i, j => by
    show fy_lap en st l i j + _ = fy_lap en st l j i + _
    rw [fy_sym en st l i j, Int.mul_comm (fy_e _ _ i)]
section FL
variable {en : Nat → Nat × Nat} {st : Nat → Int} {P n : Nat}
theorem fy_offb (h : ∀ l, l < n → (en l).1 ≠ (en l).2) (hs : ∀ l, l < n → 0 ≤ st l ∧ st l ≤ 9) {i j : Nat} (hij : i ≠ j) : ∀ l, l ≤ n → -(9 * (l : Int)) ≤ fy_lap en st l i j ∧ fy_lap en st l i j ≤ 0
  | 0, _ => by
    show -(9 * ((0 : Nat) : Int)) ≤ 0 ∧ (0 : Int) ≤ 0
    omega
  | l + 1, hl => by
    have ih := fy_offb h hs hij l (by omega)
    have s := hs l (by omega)
    show -(9 * ((l + 1 : Nat) : Int)) ≤ fy_lap en st l i j + st l * (fy_e (en l).1 (en l).2 i * fy_e (en l).1 (en l).2 j) ∧ fy_lap en st l i j + st l * (fy_e (en l).1 (en l).2 i * fy_e (en l).1 (en l).2 j) ≤ 0
    rcases fy_off (en l).1 (en l).2 i j (h l (by omega)) hij with w | w
    · rw [w]
      omega
    · rw [w]
      omega
theorem fy_abs (h : ∀ l, l < n → (en l).1 < P ∧ (en l).2 < P) {i j : Nat} (hi : P ≤ i) : ∀ l, l ≤ n → fy_lap en st l i j = 0
  | 0, _ => rfl
  | l + 1, hl => by
    have ih := fy_abs h hi (j := j) l (by omega)
    obtain ⟨h1, h2⟩ := h l (by omega)
    have e : fy_e (en l).1 (en l).2 i = 0 := by
      unfold fy_e
      rw [if_neg (by omega), if_neg (by omega)]
    show fy_lap en st l i j + st l * (fy_e (en l).1 (en l).2 i * fy_e (en l).1 (en l).2 j) = 0
    rw [ih, e, Int.zero_mul, Int.mul_zero]
    rfl
theorem fy_row (h : ∀ l, l < n → (en l).1 ≠ (en l).2 ∧ (en l).1 < 4 ∧ (en l).2 < 4) (i : Nat) : ∀ l, l ≤ n → fy_lap en st l i 0 + fy_lap en st l i 1 + fy_lap en st l i 2 + fy_lap en st l i 3 = 0
  | 0, _ => rfl
  | l + 1, hl => by
    have ih := fy_row h i l (by omega)
    obtain ⟨h1, h2, h3⟩ := h l (by omega)
    have s := fy_sum _ _ h1 h2 h3
    have z : st l * (fy_e (en l).1 (en l).2 i * fy_e (en l).1 (en l).2 0) + st l * (fy_e (en l).1 (en l).2 i * fy_e (en l).1 (en l).2 1) + st l * (fy_e (en l).1 (en l).2 i * fy_e (en l).1 (en l).2 2) + st l * (fy_e (en l).1 (en l).2 i * fy_e (en l).1 (en l).2 3) = 0 := by
      rw [← Int.mul_add, ← Int.mul_add, ← Int.mul_add, ← Int.mul_add, ← Int.mul_add, ← Int.mul_add, s, Int.mul_zero, Int.mul_zero]
    show (fy_lap en st l i 0 + _) + (fy_lap en st l i 1 + _) + (fy_lap en st l i 2 + _) + (fy_lap en st l i 3 + _) = 0
    omega
end FL
/-- the trees -/
noncomputable def fy_T (a b c d e f : Int) : Int := a * b * c + a * b * e + a * b * f + a * c * d + a * c * f + a * d * e + a * d * f + a * e * f + b * c * d + b * c * e + b * d * e + b * d * f + b * e * f + c * d * e + c * d * f + c * e * f
noncomputable def fy_det (p : Nat → Int) : Int := p 0 * (p 4 * p 8 - p 5 * p 7) + p 1 * (p 5 * p 6 - p 3 * p 8) + p 2 * (p 3 * p 7 - p 4 * p 6)
theorem fy_det4 (a b c d e f : Int) (p : Nat → Int) (h0 : p 0 = a + d + e) (h1 : p 1 = -d) (h2 : p 2 = -e) (h3 : p 3 = -d) (h4 : p 4 = b + d + f) (h5 : p 5 = -f) (h6 : p 6 = -e) (h7 : p 7 = -f) (h8 : p 8 = c + e + f) : fy_det p = fy_T a b c d e f := by
  unfold fy_det fy_T
  rw [h0, h1, h2, h3, h4, h5, h6, h7, h8]
  grind
