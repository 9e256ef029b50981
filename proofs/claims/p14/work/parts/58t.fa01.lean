/-! the nets' numbers are those of one matrix -/
noncomputable def fy_en (r : Nat → Int) (l : Nat) : Nat × Nat := ((r (164 + l)).toNat, (r (169 + l)).toNat)
noncomputable def fy_L (r : Nat → Int) (l : Nat) : Nat → Nat → Int := fy_lap (fy_en r) (fun l => r (174 + l)) l
noncomputable def fy_H (r : Nat → Int) : Prop := rb_ok r ∧ (∀ l, l < 5 → (0 ≤ r (164 + l) ∧ r (164 + l) ≤ 3) ∧ (0 ≤ r (169 + l) ∧ r (169 + l) ≤ 3) ∧ (0 ≤ r (174 + l) ∧ r (174 + l) ≤ 9)) ∧ (0 ≤ r 123 ∧ r 123 ≤ 5) ∧ (0 ≤ r 122 ∧ r 122 ≤ 4)
theorem fy_ee (a b i j : Nat) : fy_e a b i * fy_e a b j = 1 ∨ fy_e a b i * fy_e a b j = -1 ∨ fy_e a b i * fy_e a b j = 0 := by
  rcases fy_e3 a b i with h | h | h <;> rcases fy_e3 a b j with g | g | g <;> rw [h, g] <;> decide
theorem fy_bd {r : Nat → Int} (h : fy_H r) (i j : Nat) : ∀ l : Nat, l ≤ 5 → -(9 * (l : Int)) ≤ fy_L r l i j ∧ fy_L r l i j ≤ 9 * (l : Int)
  | 0, _ => by
    show -(9 * ((0 : Nat) : Int)) ≤ 0 ∧ (0 : Int) ≤ 9 * ((0 : Nat) : Int)
    omega
  | l + 1, hl => by
    have ih := fy_bd h i j l (by omega)
    have s := (h.2.1 l (by omega)).2.2
    show -(9 * ((l + 1 : Nat) : Int)) ≤ fy_L r l i j + r (174 + l) * (fy_e (fy_en r l).1 (fy_en r l).2 i * fy_e (fy_en r l).1 (fy_en r l).2 j) ∧ fy_L r l i j + r (174 + l) * (fy_e (fy_en r l).1 (fy_en r l).2 i * fy_e (fy_en r l).1 (fy_en r l).2 j) ≤ 9 * ((l + 1 : Nat) : Int)
    rcases fy_ee (fy_en r l).1 (fy_en r l).2 i j with w | w | w <;> rw [w] <;> omega
theorem fy_radd {a b i j : Nat} {s : Int} {p : Nat → Int} (ha : a < 4) (hb : b < 4) (hab : a ≠ b) (hi : i < 4) (hj : j < 4) (hs : 0 ≤ s ∧ s ≤ 9) (hp : -1000 ≤ p (4 * i + j) ∧ p (4 * i + j) ≤ 1000) : rb_add a b s p (4 * i + j) = p (4 * i + j) + s * (fy_e a b i * fy_e a b j) := by
  have e20 : ai_op 20 (p (4 * i + j)) s = p (4 * i + j) + s := rb_small (by omega)
  have e21 : ai_op 21 (p (4 * i + j)) s = p (4 * i + j) - s := rb_small (by omega)
  show (if 4 * i + j = 5 * a then ai_op 20 (p (4 * i + j)) s else if 4 * i + j = 5 * b then ai_op 20 (p (4 * i + j)) s else if 4 * i + j = 4 * a + b then ai_op 21 (p (4 * i + j)) s else if 4 * i + j = 4 * b + a then ai_op 21 (p (4 * i + j)) s else p (4 * i + j)) = p (4 * i + j) + s * (fy_e a b i * fy_e a b j)
  rw [e20, e21]
  generalize p (4 * i + j) = y
  unfold fy_e
  by_cases h1 : i = a
  · by_cases h2 : j = a
    · rw [if_pos (by omega), if_pos h1, if_pos h2]
      omega
    · by_cases h3 : j = b
      · rw [if_neg (by omega), if_neg (by omega), if_pos (by omega), if_pos h1, if_neg h2, if_pos h3]
        omega
      · rw [if_neg (by omega), if_neg (by omega), if_neg (by omega), if_neg (by omega), if_pos h1, if_neg h2, if_neg h3]
        omega
  · by_cases h4 : i = b
    · by_cases h2 : j = a
      · rw [if_neg (by omega), if_neg (by omega), if_neg (by omega), if_pos (by omega), if_neg h1, if_pos h4, if_pos h2]
        omega
      · by_cases h3 : j = b
        · rw [if_neg (by omega), if_pos (by omega), if_neg h1, if_pos h4, if_neg h2, if_pos h3]
          omega
        · rw [if_neg (by omega), if_neg (by omega), if_neg (by omega), if_neg (by omega), if_neg h1, if_pos h4, if_neg h2, if_neg h3]
          omega
    · rw [if_neg (by omega), if_neg (by omega), if_neg (by omega), if_neg (by omega), if_neg h1, if_neg h4, Int.zero_mul, Int.mul_zero, Int.add_zero]
theorem fy_cadd {a b i j : Nat} {s : Int} {p : Nat → Int} (ha : a < 4) (hb : b < 4) (hab : a ≠ b) (hi : i < 3) (hj : j < 3) (hs : 0 ≤ s ∧ s ≤ 9) (hp : -1000 ≤ p (3 * i + j) ∧ p (3 * i + j) ≤ 1000) : ra_add a b s p (3 * i + j) = p (3 * i + j) + s * (fy_e a b (i + 1) * fy_e a b (j + 1)) := by
  have e0 : ai_op 0 (p (3 * i + j)) s = p (3 * i + j) + s := ra_small (by omega)
  have e1 : ai_op 1 (p (3 * i + j)) s = p (3 * i + j) - s := ra_small (by omega)
  unfold fy_e
  match a, b with
  | 0, 0 => exact absurd rfl hab
  | a + 1, 0 =>
    show (if 3 * i + j = 4 * a then ai_op 0 (p (4 * a)) s else p (3 * i + j)) = _
    by_cases h1 : i = a
    · by_cases h2 : j = a
      · rw [if_pos (by omega), show 4 * a = 3 * i + j by omega, e0, if_pos (by omega), if_pos (by omega)]
        omega
      · rw [if_neg (by omega), if_pos (by omega), if_neg (by omega), if_neg (by omega)]
        omega
    · rw [if_neg (by omega), if_neg (by omega), if_neg (by omega), Int.zero_mul, Int.mul_zero, Int.add_zero]
  | 0, b + 1 =>
    show (if 3 * i + j = 4 * b then ai_op 0 (p (4 * b)) s else p (3 * i + j)) = _
    by_cases h1 : i = b
    · by_cases h2 : j = b
      · rw [if_pos (by omega), show 4 * b = 3 * i + j by omega, e0, if_neg (by omega), if_pos (by omega), if_neg (by omega), if_pos (by omega)]
        omega
      · rw [if_neg (by omega), if_neg (by omega), if_pos (by omega), if_neg (by omega), if_neg (by omega)]
        omega
    · rw [if_neg (by omega), if_neg (by omega), if_neg (by omega), Int.zero_mul, Int.mul_zero, Int.add_zero]
  | a + 1, b + 1 =>
    show (if 3 * i + j = 4 * a then ai_op 0 (p (4 * a)) s else if 3 * i + j = 4 * b then ai_op 0 (p (4 * b)) s else if 3 * i + j = 3 * a + b then ai_op 1 (p (3 * a + b)) s else if 3 * i + j = 3 * b + a then ai_op 1 (p (3 * b + a)) s else p (3 * i + j)) = _
    by_cases h1 : i = a
    · by_cases h2 : j = a
      · rw [if_pos (by omega), show 4 * a = 3 * i + j by omega, e0, if_pos (by omega), if_pos (by omega)]
        omega
      · by_cases h3 : j = b
        · rw [if_neg (by omega), if_neg (by omega), if_pos (by omega), show 3 * a + b = 3 * i + j by omega, e1, if_pos (by omega), if_neg (by omega), if_pos (by omega)]
          omega
        · rw [if_neg (by omega), if_neg (by omega), if_neg (by omega), if_neg (by omega), if_pos (by omega), if_neg (by omega), if_neg (by omega)]
          omega
    · by_cases h4 : i = b
      · by_cases h2 : j = a
        · rw [if_neg (by omega), if_neg (by omega), if_neg (by omega), if_pos (by omega), show 3 * b + a = 3 * i + j by omega, e1, if_neg (by omega), if_pos (by omega), if_pos (by omega)]
          omega
        · by_cases h3 : j = b
          · rw [if_neg (by omega), if_pos (by omega), show 4 * b = 3 * i + j by omega, e0, if_neg (by omega), if_pos (by omega), if_neg (by omega), if_pos (by omega)]
            omega
          · rw [if_neg (by omega), if_neg (by omega), if_neg (by omega), if_neg (by omega), if_neg (by omega), if_pos (by omega), if_neg (by omega), if_neg (by omega)]
            omega
      · rw [if_neg (by omega), if_neg (by omega), if_neg (by omega), if_neg (by omega), if_neg (by omega), if_neg (by omega), Int.zero_mul, Int.mul_zero, Int.add_zero]
section FYN
variable {r : Nat → Int}
theorem fy_ends (h : fy_H r) {l : Nat} (hl : l < 5) (hn : (l : Int) + 1 ≤ r 123) : (fy_en r l).1 < 4 ∧ (fy_en r l).2 < 4 ∧ (fy_en r l).1 ≠ (fy_en r l).2 ∧ ((fy_en r l).1 : Int) + 1 ≤ r 122 ∧ ((fy_en r l).2 : Int) + 1 ≤ r 122 := by
  obtain ⟨a, b, c⟩ := h.1 l hl hn
  obtain ⟨d, e, -⟩ := h.2.1 l hl
  show (r (164 + l)).toNat < 4 ∧ (r (169 + l)).toNat < 4 ∧ (r (164 + l)).toNat ≠ (r (169 + l)).toNat ∧ ((r (164 + l)).toNat : Int) + 1 ≤ r 122 ∧ ((r (169 + l)).toNat : Int) + 1 ≤ r 122
  omega
theorem fy_mx (h : fy_H r) {i j : Nat} (hi : i < 4) (hj : j < 4) : ∀ l, l ≤ 5 → rb_mx r l (4 * i + j) = fy_L r (min l (r 123).toNat) i j
  | 0, _ => by
    rw [Nat.zero_min]
    rfl
  | l + 1, hl => by
    have ih := fy_mx h hi hj l (by omega)
    show (if (l : Int) + 1 ≤ r 123 then rb_add (fy_en r l).1 (fy_en r l).2 (r (174 + l)) (rb_mx r l) else rb_mx r l) (4 * i + j) = _
    by_cases e : (l : Int) + 1 ≤ r 123
    · obtain ⟨e1, e2, e3, -⟩ := fy_ends h (by omega) e
      rw [show min l (r 123).toNat = l by omega] at ih
      have b := fy_bd h i j l (by omega)
      rw [if_pos e, fy_radd e1 e2 e3 hi hj (h.2.1 l (by omega)).2.2 (by rw [ih]; omega), ih, show min (l + 1) (r 123).toNat = l + 1 by omega]
      rfl
    · rw [if_neg e, ih, show min (l + 1) (r 123).toNat = min l (r 123).toNat by omega]
noncomputable def fy_one (r : Nat → Int) (i j : Nat) : Int := if i = j ∧ r 122 ≤ (i : Int) + 1 then 1 else 0
theorem fy_b0 {i j : Nat} (hi : i < 3) (hj : j < 3) : ra_b0 r (3 * i + j) = fy_one r i j := by
  unfold fy_one
  show (if 3 * i + j = 0 then (if r 122 ≤ 1 then (1 : Int) else 0) else if 3 * i + j = 4 then (if r 122 ≤ 2 then 1 else 0) else if 3 * i + j = 8 then (if r 122 ≤ 3 then 1 else 0) else 0) = _
  by_cases e : i = j
  · subst e
    have h : i = 0 ∨ i = 1 ∨ i = 2 := by omega
    rcases h with rfl | rfl | rfl
    · rw [if_pos (by omega)]
      by_cases q : r 122 ≤ 1
      · rw [if_pos q, if_pos ⟨rfl, by omega⟩]
      · rw [if_neg q, if_neg (fun w => by omega)]
    · rw [if_neg (by omega), if_pos (by omega)]
      by_cases q : r 122 ≤ 2
      · rw [if_pos q, if_pos ⟨rfl, by omega⟩]
      · rw [if_neg q, if_neg (fun w => by omega)]
    · rw [if_neg (by omega), if_neg (by omega), if_pos (by omega)]
      by_cases q : r 122 ≤ 3
      · rw [if_pos q, if_pos ⟨rfl, by omega⟩]
      · rw [if_neg q, if_neg (fun w => by omega)]
  · rw [if_neg (by omega), if_neg (by omega), if_neg (by omega), if_neg (fun w => e w.1)]
theorem fy_pl (h : fy_H r) {i j : Nat} (hi : i < 3) (hj : j < 3) : ∀ l, l ≤ 5 → ra_pl r 0 l (3 * i + j) = fy_L r (min l (r 123).toNat) (i + 1) (j + 1) + fy_one r i j
  | 0, _ => by
    rw [Nat.zero_min]
    show ra_b0 r (3 * i + j) = 0 + fy_one r i j
    rw [Int.zero_add]
    exact fy_b0 hi hj
  | l + 1, hl => by
    have ih := fy_pl h hi hj l (by omega)
    have o : 0 ≤ fy_one r i j ∧ fy_one r i j ≤ 1 := by
      unfold fy_one
      by_cases q : i = j ∧ r 122 ≤ (i : Int) + 1
      · rw [if_pos q]
        omega
      · rw [if_neg q]
        omega
    show (if ((l : Int) + 1 ≤ r 123) ∧ (0 : Int) ≠ (l : Int) + 1 then ra_add (fy_en r l).1 (fy_en r l).2 (r (174 + l)) (ra_pl r 0 l) else ra_pl r 0 l) (3 * i + j) = _
    by_cases e : (l : Int) + 1 ≤ r 123
    · obtain ⟨e1, e2, e3, -⟩ := fy_ends h (by omega) e
      rw [show min l (r 123).toNat = l by omega] at ih
      have b := fy_bd h (i + 1) (j + 1) l (by omega)
      rw [if_pos ⟨e, by omega⟩, fy_cadd e1 e2 e3 hi hj (h.2.1 l (by omega)).2.2 (by rw [ih]; omega), ih, show min (l + 1) (r 123).toNat = l + 1 by omega]
      show _ = (fy_L r l (i + 1) (j + 1) + r (174 + l) * (fy_e (fy_en r l).1 (fy_en r l).2 (i + 1) * fy_e (fy_en r l).1 (fy_en r l).2 (j + 1))) + fy_one r i j
      omega
    · rw [if_neg (fun w => e w.1), ih, show min (l + 1) (r 123).toNat = min l (r 123).toNat by omega]
end FYN
