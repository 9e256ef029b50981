/-! the class and the reference come to the same (printed by flow14.py) -/
theorem fy_m3 {x y z : Int} (hx : 0 ≤ x ∧ x ≤ 45) (hy : 0 ≤ y ∧ y ≤ 45) (hz : 0 ≤ z ∧ z ≤ 45) : 0 ≤ x * y * z ∧ x * y * z ≤ 91125 := by
  have a := Int.mul_nonneg hx.1 hy.1
  have b : -((45 * 45 : Nat) : Int) ≤ x * y ∧ x * y ≤ ((45 * 45 : Nat) : Int) := fy_mulb (A := 45) (B := 45) (by omega) (by omega)
  have c : -((2025 * 45 : Nat) : Int) ≤ x * y * z ∧ x * y * z ≤ ((2025 * 45 : Nat) : Int) := fy_mulb (A := 2025) (B := 45) (by omega) (by omega)
  have d := Int.mul_nonneg a hz.1
  omega
theorem fy_m2 {x y : Int} (hx : 0 ≤ x ∧ x ≤ 45) (hy : 0 ≤ y ∧ y ≤ 45) : 0 ≤ x * y ∧ x * y ≤ 2025 := by
  have a := Int.mul_nonneg hx.1 hy.1
  have b : -((45 * 45 : Nat) : Int) ≤ x * y ∧ x * y ≤ ((45 * 45 : Nat) : Int) := fy_mulb (A := 45) (B := 45) (by omega) (by omega)
  omega
theorem fy_fin {r : Nat → Int} (h : fy_H r) {i j : Nat} (hi : i < 4) (hj : j < 4) : rb_fin r (196 + (4 * i + j)) = fy_L r (r 123).toNat i j := by
  unfold rb_fin
  rw [if_pos (by omega), show 196 + (4 * i + j) - 196 = 4 * i + j by omega, fy_mx h hi hj 5 (by omega), show min 5 (r 123).toNat = (r 123).toNat by have := h.2.2.1; omega]
theorem fy_p {r : Nat → Int} (h : fy_H r) {i j : Nat} (hi : i < 3) (hj : j < 3) : ra_pl r 0 5 (3 * i + j) = fy_L r (r 123).toNat (i + 1) (j + 1) + fy_one r i j := by
  rw [fy_pl h hi hj 5 (by omega), show min 5 (r 123).toNat = (r 123).toNat by have := h.2.2.1; omega]
theorem fy_ppb {r : Nat → Int} (h : fy_H r) : fy_pb (ra_pl r 0 5) := fun x hx => by
  have e : x = 3 * (x / 3) + x % 3 := by omega
  rw [e, fy_p h (by omega) (by omega)]
  have b := fy_bd h (x / 3 + 1) (x % 3 + 1) (r 123).toNat (by have := h.2.2.1; omega)
  have n := h.2.2.1
  have o : 0 ≤ fy_one r (x / 3) (x % 3) ∧ fy_one r (x / 3) (x % 3) ≤ 1 := by
    unfold fy_one
    split <;> omega
  omega
theorem fy_P2 {r : Nat → Int} (h : fy_H r) (hP : r 122 = 2) : (rb_D r = ra_wv (ra_pl r 0 5) ∧ 0 ≤ ra_wv (ra_pl r 0 5) ∧ ra_wv (ra_pl r 0 5) ≤ 2000000) ∧ ∃ G : Nat → Nat → Int, (∀ x y, x < 2 → y < 2 → pt_v (rb_fin r) (rb_hx 2 x y) = (G x y).bmod 18446744073709551616) ∧ ∀ x y, x < 2 → y < 2 → fy_hC (ra_pl r 0 5) x y = G x y - G 0 y - G x 0 + G 0 0 := by
  obtain ⟨a, b, c, d, e, f, ⟨⟨ba, bb, bc⟩, bd, be, bf⟩, ⟨z3, z2⟩, ⟨l00, l01, l02, l03⟩, ⟨l10, l11, l12, l13⟩, ⟨l20, l21, l22, l23⟩, l30, l31, l32, l33⟩ := fy_Lw h
  obtain ⟨zc, ze, zf⟩ := z3 (by omega)
  subst zc ze zf
  obtain ⟨zb, zd⟩ := z2 (by omega)
  subst zb zd
  have pb := fy_ppb h
  have p0 : ra_pl r 0 5 0 = ((a) + 0) := by
    have w := fy_p h (i := 0) (j := 0) (by decide) (by decide)
    have o : fy_one r 0 0 = 0 := if_neg (fun w => absurd w.2 (by rw [hP]; decide))
    have w : ra_pl r 0 5 0 = fy_L r (r 123).toNat 1 1 + fy_one r 0 0 := w
    rw [w, o, l11] <;> omega
  have p1 : ra_pl r 0 5 1 = (0 + 0) := by
    have w := fy_p h (i := 0) (j := 1) (by decide) (by decide)
    have o : fy_one r 0 1 = 0 := if_neg (fun w => absurd w.1 (by decide))
    have w : ra_pl r 0 5 1 = fy_L r (r 123).toNat 1 2 + fy_one r 0 1 := w
    rw [w, o, l12] <;> omega
  have p2 : ra_pl r 0 5 2 = (0 + 0) := by
    have w := fy_p h (i := 0) (j := 2) (by decide) (by decide)
    have o : fy_one r 0 2 = 0 := if_neg (fun w => absurd w.1 (by decide))
    have w : ra_pl r 0 5 2 = fy_L r (r 123).toNat 1 3 + fy_one r 0 2 := w
    rw [w, o, l13] <;> omega
  have p3 : ra_pl r 0 5 3 = (0 + 0) := by
    have w := fy_p h (i := 1) (j := 0) (by decide) (by decide)
    have o : fy_one r 1 0 = 0 := if_neg (fun w => absurd w.1 (by decide))
    have w : ra_pl r 0 5 3 = fy_L r (r 123).toNat 2 1 + fy_one r 1 0 := w
    rw [w, o, l21] <;> omega
  have p4 : ra_pl r 0 5 4 = (0 + 1) := by
    have w := fy_p h (i := 1) (j := 1) (by decide) (by decide)
    have o : fy_one r 1 1 = 1 := if_pos ⟨rfl, by rw [hP]; decide⟩
    have w : ra_pl r 0 5 4 = fy_L r (r 123).toNat 2 2 + fy_one r 1 1 := w
    rw [w, o, l22] <;> omega
  have p5 : ra_pl r 0 5 5 = (0 + 0) := by
    have w := fy_p h (i := 1) (j := 2) (by decide) (by decide)
    have o : fy_one r 1 2 = 0 := if_neg (fun w => absurd w.1 (by decide))
    have w : ra_pl r 0 5 5 = fy_L r (r 123).toNat 2 3 + fy_one r 1 2 := w
    rw [w, o, l23] <;> omega
  have p6 : ra_pl r 0 5 6 = (0 + 0) := by
    have w := fy_p h (i := 2) (j := 0) (by decide) (by decide)
    have o : fy_one r 2 0 = 0 := if_neg (fun w => absurd w.1 (by decide))
    have w : ra_pl r 0 5 6 = fy_L r (r 123).toNat 3 1 + fy_one r 2 0 := w
    rw [w, o, l31] <;> omega
  have p7 : ra_pl r 0 5 7 = (0 + 0) := by
    have w := fy_p h (i := 2) (j := 1) (by decide) (by decide)
    have o : fy_one r 2 1 = 0 := if_neg (fun w => absurd w.1 (by decide))
    have w : ra_pl r 0 5 7 = fy_L r (r 123).toNat 3 2 + fy_one r 2 1 := w
    rw [w, o, l32] <;> omega
  have p8 : ra_pl r 0 5 8 = (0 + 1) := by
    have w := fy_p h (i := 2) (j := 2) (by decide) (by decide)
    have o : fy_one r 2 2 = 1 := if_pos ⟨rfl, by rw [hP]; decide⟩
    have w : ra_pl r 0 5 8 = fy_L r (r 123).toNat 3 3 + fy_one r 2 2 := w
    rw [w, o, l33] <;> omega
  have m0 : rb_fin r 196 = (a) := by
    have w : rb_fin r 196 = fy_L r (r 123).toNat 0 0 := fy_fin h (i := 0) (j := 0) (by decide) (by decide)
    rw [w, l00] <;> omega
  have hw : ra_wv (ra_pl r 0 5) = a := by
    rw [fy_wv pb]
    show ra_pl r 0 5 0 * (ra_pl r 0 5 4 * ra_pl r 0 5 8 - ra_pl r 0 5 5 * ra_pl r 0 5 7) + ra_pl r 0 5 1 * (ra_pl r 0 5 5 * ra_pl r 0 5 6 - ra_pl r 0 5 3 * ra_pl r 0 5 8) + ra_pl r 0 5 2 * (ra_pl r 0 5 3 * ra_pl r 0 5 7 - ra_pl r 0 5 4 * ra_pl r 0 5 6) = _
    rw [p0, p1, p2, p3, p4, p5, p6, p7, p8]
    exact fy_w2 a
  have hb : 0 ≤ a ∧ a ≤ 2000000 := by omega
  have hd : rb_D r = a := by
    unfold rb_D
    rw [hP]
    show pt_v (rb_fin r) (rb_dx 2) = _
    rw [fy_dx2, m0, fy_d2]
    exact rb_small (by omega)
  refine ⟨⟨by rw [hd, hw], by rw [hw]; exact hb.1, by rw [hw]; exact hb.2⟩, fun x y => match x, y with
    | 0, 0 => (1 : Int)
    | 0, 1 => (0 : Int)
    | 1, 0 => (0 : Int)
    | 1, 1 => (0 : Int)
    | _, _ => 0, fun x y hx hy => ?_, fun x y hx hy => ?_⟩
  · rcases (by omega : x = 0 ∨ x = 1) with rfl | rfl <;> rcases (by omega : y = 0 ∨ y = 1) with rfl | rfl
    · rw [fy_hx2_00]
      rfl
    · rw [fy_hx2_01]
      rfl
    · rw [fy_hx2_10]
      rfl
    · rw [fy_hx2_11]
      rfl
  · rcases (by omega : x = 0 ∨ x = 1) with rfl | rfl <;> rcases (by omega : y = 0 ∨ y = 1) with rfl | rfl
    · exact fy_i2_00 a
    · exact fy_i2_01 a
    · exact fy_i2_10 a
    · show ra_pl r 0 5 4 * ra_pl r 0 5 8 - ra_pl r 0 5 5 * ra_pl r 0 5 7 = _
      rw [p4, p8, p5, p7]
      exact fy_i2_11 a
theorem fy_P3 {r : Nat → Int} (h : fy_H r) (hP : r 122 = 3) : (rb_D r = ra_wv (ra_pl r 0 5) ∧ 0 ≤ ra_wv (ra_pl r 0 5) ∧ ra_wv (ra_pl r 0 5) ≤ 2000000) ∧ ∃ G : Nat → Nat → Int, (∀ x y, x < 3 → y < 3 → pt_v (rb_fin r) (rb_hx 3 x y) = (G x y).bmod 18446744073709551616) ∧ ∀ x y, x < 3 → y < 3 → fy_hC (ra_pl r 0 5) x y = G x y - G 0 y - G x 0 + G 0 0 := by
  obtain ⟨a, b, c, d, e, f, ⟨⟨ba, bb, bc⟩, bd, be, bf⟩, ⟨z3, z2⟩, ⟨l00, l01, l02, l03⟩, ⟨l10, l11, l12, l13⟩, ⟨l20, l21, l22, l23⟩, l30, l31, l32, l33⟩ := fy_Lw h
  obtain ⟨zc, ze, zf⟩ := z3 (by omega)
  subst zc ze zf
  have pb := fy_ppb h
  have p0 : ra_pl r 0 5 0 = ((a + d) + 0) := by
    have w := fy_p h (i := 0) (j := 0) (by decide) (by decide)
    have o : fy_one r 0 0 = 0 := if_neg (fun w => absurd w.2 (by rw [hP]; decide))
    have w : ra_pl r 0 5 0 = fy_L r (r 123).toNat 1 1 + fy_one r 0 0 := w
    rw [w, o, l11] <;> omega
  have p1 : ra_pl r 0 5 1 = ((-d) + 0) := by
    have w := fy_p h (i := 0) (j := 1) (by decide) (by decide)
    have o : fy_one r 0 1 = 0 := if_neg (fun w => absurd w.1 (by decide))
    have w : ra_pl r 0 5 1 = fy_L r (r 123).toNat 1 2 + fy_one r 0 1 := w
    rw [w, o, l12] <;> omega
  have p2 : ra_pl r 0 5 2 = (0 + 0) := by
    have w := fy_p h (i := 0) (j := 2) (by decide) (by decide)
    have o : fy_one r 0 2 = 0 := if_neg (fun w => absurd w.1 (by decide))
    have w : ra_pl r 0 5 2 = fy_L r (r 123).toNat 1 3 + fy_one r 0 2 := w
    rw [w, o, l13] <;> omega
  have p3 : ra_pl r 0 5 3 = ((-d) + 0) := by
    have w := fy_p h (i := 1) (j := 0) (by decide) (by decide)
    have o : fy_one r 1 0 = 0 := if_neg (fun w => absurd w.1 (by decide))
    have w : ra_pl r 0 5 3 = fy_L r (r 123).toNat 2 1 + fy_one r 1 0 := w
    rw [w, o, l21] <;> omega
  have p4 : ra_pl r 0 5 4 = ((b + d) + 0) := by
    have w := fy_p h (i := 1) (j := 1) (by decide) (by decide)
    have o : fy_one r 1 1 = 0 := if_neg (fun w => absurd w.2 (by rw [hP]; decide))
    have w : ra_pl r 0 5 4 = fy_L r (r 123).toNat 2 2 + fy_one r 1 1 := w
    rw [w, o, l22] <;> omega
  have p5 : ra_pl r 0 5 5 = (0 + 0) := by
    have w := fy_p h (i := 1) (j := 2) (by decide) (by decide)
    have o : fy_one r 1 2 = 0 := if_neg (fun w => absurd w.1 (by decide))
    have w : ra_pl r 0 5 5 = fy_L r (r 123).toNat 2 3 + fy_one r 1 2 := w
    rw [w, o, l23] <;> omega
  have p6 : ra_pl r 0 5 6 = (0 + 0) := by
    have w := fy_p h (i := 2) (j := 0) (by decide) (by decide)
    have o : fy_one r 2 0 = 0 := if_neg (fun w => absurd w.1 (by decide))
    have w : ra_pl r 0 5 6 = fy_L r (r 123).toNat 3 1 + fy_one r 2 0 := w
    rw [w, o, l31] <;> omega
  have p7 : ra_pl r 0 5 7 = (0 + 0) := by
    have w := fy_p h (i := 2) (j := 1) (by decide) (by decide)
    have o : fy_one r 2 1 = 0 := if_neg (fun w => absurd w.1 (by decide))
    have w : ra_pl r 0 5 7 = fy_L r (r 123).toNat 3 2 + fy_one r 2 1 := w
    rw [w, o, l32] <;> omega
  have p8 : ra_pl r 0 5 8 = (0 + 1) := by
    have w := fy_p h (i := 2) (j := 2) (by decide) (by decide)
    have o : fy_one r 2 2 = 1 := if_pos ⟨rfl, by rw [hP]; decide⟩
    have w : ra_pl r 0 5 8 = fy_L r (r 123).toNat 3 3 + fy_one r 2 2 := w
    rw [w, o, l33] <;> omega
  have m0 : rb_fin r 196 = (a + b) := by
    have w : rb_fin r 196 = fy_L r (r 123).toNat 0 0 := fy_fin h (i := 0) (j := 0) (by decide) (by decide)
    rw [w, l00] <;> omega
  have m1 : rb_fin r 197 = (-a) := by
    have w : rb_fin r 197 = fy_L r (r 123).toNat 0 1 := fy_fin h (i := 0) (j := 1) (by decide) (by decide)
    rw [w, l01] <;> omega
  have m4 : rb_fin r 200 = (-a) := by
    have w : rb_fin r 200 = fy_L r (r 123).toNat 1 0 := fy_fin h (i := 1) (j := 0) (by decide) (by decide)
    rw [w, l10] <;> omega
  have m5 : rb_fin r 201 = (a + d) := by
    have w : rb_fin r 201 = fy_L r (r 123).toNat 1 1 := fy_fin h (i := 1) (j := 1) (by decide) (by decide)
    rw [w, l11] <;> omega
  have hw : ra_wv (ra_pl r 0 5) = a * b + a * d + b * d := by
    rw [fy_wv pb]
    show ra_pl r 0 5 0 * (ra_pl r 0 5 4 * ra_pl r 0 5 8 - ra_pl r 0 5 5 * ra_pl r 0 5 7) + ra_pl r 0 5 1 * (ra_pl r 0 5 5 * ra_pl r 0 5 6 - ra_pl r 0 5 3 * ra_pl r 0 5 8) + ra_pl r 0 5 2 * (ra_pl r 0 5 3 * ra_pl r 0 5 7 - ra_pl r 0 5 4 * ra_pl r 0 5 6) = _
    rw [p0, p1, p2, p3, p4, p5, p6, p7, p8]
    exact fy_w3 a b d
  have t0 := fy_m2 ba bb
  have t1 := fy_m2 ba bd
  have t2 := fy_m2 bb bd
  have hb : 0 ≤ a * b + a * d + b * d ∧ a * b + a * d + b * d ≤ 2000000 := by omega
  have hd : rb_D r = a * b + a * d + b * d := by
    unfold rb_D
    rw [hP]
    show pt_v (rb_fin r) (rb_dx 3) = _
    rw [fy_dx3, m0, m1, m4, m5, fy_d3]
    exact rb_small (by omega)
  refine ⟨⟨by rw [hd, hw], by rw [hw]; exact hb.1, by rw [hw]; exact hb.2⟩, fun x y => match x, y with
    | 0, 0 => ((0 : Int) + (((1 : Int) * (a + d)) * (1 : Int)))
    | 0, 1 => ((0 : Int) - ((0 : Int) + (((1 : Int) * (-a)) * (1 : Int))))
    | 0, 2 => (0 : Int)
    | 1, 0 => ((0 : Int) - ((0 : Int) + (((1 : Int) * (-a)) * (1 : Int))))
    | 1, 1 => ((0 : Int) + (((1 : Int) * (a + b)) * (1 : Int)))
    | 1, 2 => (0 : Int)
    | 2, 0 => (0 : Int)
    | 2, 1 => (0 : Int)
    | 2, 2 => (0 : Int)
    | _, _ => 0, fun x y hx hy => ?_, fun x y hx hy => ?_⟩
  · rcases (by omega : x = 0 ∨ x = 1 ∨ x = 2) with rfl | rfl | rfl <;> rcases (by omega : y = 0 ∨ y = 1 ∨ y = 2) with rfl | rfl | rfl
    · rw [fy_hx3_00, m5]
      rfl
    · rw [fy_hx3_01, m1]
      rfl
    · rw [fy_hx3_02]
      rfl
    · rw [fy_hx3_10, m4]
      rfl
    · rw [fy_hx3_11, m0]
      rfl
    · rw [fy_hx3_12]
      rfl
    · rw [fy_hx3_20]
      rfl
    · rw [fy_hx3_21]
      rfl
    · rw [fy_hx3_22]
      rfl
  · rcases (by omega : x = 0 ∨ x = 1 ∨ x = 2) with rfl | rfl | rfl <;> rcases (by omega : y = 0 ∨ y = 1 ∨ y = 2) with rfl | rfl | rfl
    · exact fy_i3_00 a b d
    · exact fy_i3_01 a b d
    · exact fy_i3_02 a b d
    · exact fy_i3_10 a b d
    · show ra_pl r 0 5 4 * ra_pl r 0 5 8 - ra_pl r 0 5 5 * ra_pl r 0 5 7 = _
      rw [p4, p8, p5, p7]
      exact fy_i3_11 a b d
    · show ra_pl r 0 5 5 * ra_pl r 0 5 6 - ra_pl r 0 5 3 * ra_pl r 0 5 8 = _
      rw [p5, p6, p3, p8]
      exact fy_i3_12 a b d
    · exact fy_i3_20 a b d
    · show ra_pl r 0 5 7 * ra_pl r 0 5 2 - ra_pl r 0 5 8 * ra_pl r 0 5 1 = _
      rw [p7, p2, p8, p1]
      exact fy_i3_21 a b d
    · show ra_pl r 0 5 8 * ra_pl r 0 5 0 - ra_pl r 0 5 6 * ra_pl r 0 5 2 = _
      rw [p8, p0, p6, p2]
      exact fy_i3_22 a b d
theorem fy_P4 {r : Nat → Int} (h : fy_H r) (hP : r 122 = 4) : (rb_D r = ra_wv (ra_pl r 0 5) ∧ 0 ≤ ra_wv (ra_pl r 0 5) ∧ ra_wv (ra_pl r 0 5) ≤ 2000000) ∧ ∃ G : Nat → Nat → Int, (∀ x y, x < 4 → y < 4 → pt_v (rb_fin r) (rb_hx 4 x y) = (G x y).bmod 18446744073709551616) ∧ ∀ x y, x < 4 → y < 4 → fy_hC (ra_pl r 0 5) x y = G x y - G 0 y - G x 0 + G 0 0 := by
  obtain ⟨a, b, c, d, e, f, ⟨⟨ba, bb, bc⟩, bd, be, bf⟩, ⟨z3, z2⟩, ⟨l00, l01, l02, l03⟩, ⟨l10, l11, l12, l13⟩, ⟨l20, l21, l22, l23⟩, l30, l31, l32, l33⟩ := fy_Lw h
  have pb := fy_ppb h
  have p0 : ra_pl r 0 5 0 = ((a + d + e) + 0) := by
    have w := fy_p h (i := 0) (j := 0) (by decide) (by decide)
    have o : fy_one r 0 0 = 0 := if_neg (fun w => absurd w.2 (by rw [hP]; decide))
    have w : ra_pl r 0 5 0 = fy_L r (r 123).toNat 1 1 + fy_one r 0 0 := w
    rw [w, o, l11] <;> omega
  have p1 : ra_pl r 0 5 1 = ((-d) + 0) := by
    have w := fy_p h (i := 0) (j := 1) (by decide) (by decide)
    have o : fy_one r 0 1 = 0 := if_neg (fun w => absurd w.1 (by decide))
    have w : ra_pl r 0 5 1 = fy_L r (r 123).toNat 1 2 + fy_one r 0 1 := w
    rw [w, o, l12] <;> omega
  have p2 : ra_pl r 0 5 2 = ((-e) + 0) := by
    have w := fy_p h (i := 0) (j := 2) (by decide) (by decide)
    have o : fy_one r 0 2 = 0 := if_neg (fun w => absurd w.1 (by decide))
    have w : ra_pl r 0 5 2 = fy_L r (r 123).toNat 1 3 + fy_one r 0 2 := w
    rw [w, o, l13] <;> omega
  have p3 : ra_pl r 0 5 3 = ((-d) + 0) := by
    have w := fy_p h (i := 1) (j := 0) (by decide) (by decide)
    have o : fy_one r 1 0 = 0 := if_neg (fun w => absurd w.1 (by decide))
    have w : ra_pl r 0 5 3 = fy_L r (r 123).toNat 2 1 + fy_one r 1 0 := w
    rw [w, o, l21] <;> omega
  have p4 : ra_pl r 0 5 4 = ((b + d + f) + 0) := by
    have w := fy_p h (i := 1) (j := 1) (by decide) (by decide)
    have o : fy_one r 1 1 = 0 := if_neg (fun w => absurd w.2 (by rw [hP]; decide))
    have w : ra_pl r 0 5 4 = fy_L r (r 123).toNat 2 2 + fy_one r 1 1 := w
    rw [w, o, l22] <;> omega
  have p5 : ra_pl r 0 5 5 = ((-f) + 0) := by
    have w := fy_p h (i := 1) (j := 2) (by decide) (by decide)
    have o : fy_one r 1 2 = 0 := if_neg (fun w => absurd w.1 (by decide))
    have w : ra_pl r 0 5 5 = fy_L r (r 123).toNat 2 3 + fy_one r 1 2 := w
    rw [w, o, l23] <;> omega
  have p6 : ra_pl r 0 5 6 = ((-e) + 0) := by
    have w := fy_p h (i := 2) (j := 0) (by decide) (by decide)
    have o : fy_one r 2 0 = 0 := if_neg (fun w => absurd w.1 (by decide))
    have w : ra_pl r 0 5 6 = fy_L r (r 123).toNat 3 1 + fy_one r 2 0 := w
    rw [w, o, l31] <;> omega
  have p7 : ra_pl r 0 5 7 = ((-f) + 0) := by
    have w := fy_p h (i := 2) (j := 1) (by decide) (by decide)
    have o : fy_one r 2 1 = 0 := if_neg (fun w => absurd w.1 (by decide))
    have w : ra_pl r 0 5 7 = fy_L r (r 123).toNat 3 2 + fy_one r 2 1 := w
    rw [w, o, l32] <;> omega
  have p8 : ra_pl r 0 5 8 = ((c + e + f) + 0) := by
    have w := fy_p h (i := 2) (j := 2) (by decide) (by decide)
    have o : fy_one r 2 2 = 0 := if_neg (fun w => absurd w.2 (by rw [hP]; decide))
    have w : ra_pl r 0 5 8 = fy_L r (r 123).toNat 3 3 + fy_one r 2 2 := w
    rw [w, o, l33] <;> omega
  have m0 : rb_fin r 196 = (a + b + c) := by
    have w : rb_fin r 196 = fy_L r (r 123).toNat 0 0 := fy_fin h (i := 0) (j := 0) (by decide) (by decide)
    rw [w, l00]
  have m1 : rb_fin r 197 = (-a) := by
    have w : rb_fin r 197 = fy_L r (r 123).toNat 0 1 := fy_fin h (i := 0) (j := 1) (by decide) (by decide)
    rw [w, l01]
  have m2 : rb_fin r 198 = (-b) := by
    have w : rb_fin r 198 = fy_L r (r 123).toNat 0 2 := fy_fin h (i := 0) (j := 2) (by decide) (by decide)
    rw [w, l02]
  have m4 : rb_fin r 200 = (-a) := by
    have w : rb_fin r 200 = fy_L r (r 123).toNat 1 0 := fy_fin h (i := 1) (j := 0) (by decide) (by decide)
    rw [w, l10]
  have m5 : rb_fin r 201 = (a + d + e) := by
    have w : rb_fin r 201 = fy_L r (r 123).toNat 1 1 := fy_fin h (i := 1) (j := 1) (by decide) (by decide)
    rw [w, l11]
  have m6 : rb_fin r 202 = (-d) := by
    have w : rb_fin r 202 = fy_L r (r 123).toNat 1 2 := fy_fin h (i := 1) (j := 2) (by decide) (by decide)
    rw [w, l12]
  have m8 : rb_fin r 204 = (-b) := by
    have w : rb_fin r 204 = fy_L r (r 123).toNat 2 0 := fy_fin h (i := 2) (j := 0) (by decide) (by decide)
    rw [w, l20]
  have m9 : rb_fin r 205 = (-d) := by
    have w : rb_fin r 205 = fy_L r (r 123).toNat 2 1 := fy_fin h (i := 2) (j := 1) (by decide) (by decide)
    rw [w, l21]
  have m10 : rb_fin r 206 = (b + d + f) := by
    have w : rb_fin r 206 = fy_L r (r 123).toNat 2 2 := fy_fin h (i := 2) (j := 2) (by decide) (by decide)
    rw [w, l22]
  have hw : ra_wv (ra_pl r 0 5) = fy_T a b c d e f := by
    rw [fy_wv pb]
    show ra_pl r 0 5 0 * (ra_pl r 0 5 4 * ra_pl r 0 5 8 - ra_pl r 0 5 5 * ra_pl r 0 5 7) + ra_pl r 0 5 1 * (ra_pl r 0 5 5 * ra_pl r 0 5 6 - ra_pl r 0 5 3 * ra_pl r 0 5 8) + ra_pl r 0 5 2 * (ra_pl r 0 5 3 * ra_pl r 0 5 7 - ra_pl r 0 5 4 * ra_pl r 0 5 6) = _
    rw [p0, p1, p2, p3, p4, p5, p6, p7, p8]
    exact fy_w4 a b c d e f
  have t0 := fy_m3 ba bb bc
  have t1 := fy_m3 ba bb be
  have t2 := fy_m3 ba bb bf
  have t3 := fy_m3 ba bc bd
  have t4 := fy_m3 ba bc bf
  have t5 := fy_m3 ba bd be
  have t6 := fy_m3 ba bd bf
  have t7 := fy_m3 ba be bf
  have t8 := fy_m3 bb bc bd
  have t9 := fy_m3 bb bc be
  have t10 := fy_m3 bb bd be
  have t11 := fy_m3 bb bd bf
  have t12 := fy_m3 bb be bf
  have t13 := fy_m3 bc bd be
  have t14 := fy_m3 bc bd bf
  have t15 := fy_m3 bc be bf
  have hb : 0 ≤ fy_T a b c d e f ∧ fy_T a b c d e f ≤ 2000000 := by
    unfold fy_T
    omega
  have hd : rb_D r = fy_T a b c d e f := by
    unfold rb_D
    rw [hP]
    show pt_v (rb_fin r) (rb_dx 4) = _
    rw [fy_dx4, m0, m1, m2, m4, m5, m6, m8, m9, m10, fy_d4]
    exact rb_small (by omega)
  refine ⟨⟨by rw [hd, hw], by rw [hw]; exact hb.1, by rw [hw]; exact hb.2⟩, fun x y => match x, y with
    | 0, 0 => (((0 : Int) + (((1 : Int) * (a + d + e)) * ((0 : Int) + (((1 : Int) * (b + d + f)) * (1 : Int))))) + (((-1 : Int) * (-d)) * ((0 : Int) + (((1 : Int) * (-d)) * (1 : Int)))))
    | 0, 1 => ((0 : Int) - (((0 : Int) + (((1 : Int) * (-a)) * ((0 : Int) + (((1 : Int) * (b + d + f)) * (1 : Int))))) + (((-1 : Int) * (-b)) * ((0 : Int) + (((1 : Int) * (-d)) * (1 : Int))))))
    | 0, 2 => (((0 : Int) + (((1 : Int) * (-a)) * ((0 : Int) + (((1 : Int) * (-d)) * (1 : Int))))) + (((-1 : Int) * (-b)) * ((0 : Int) + (((1 : Int) * (a + d + e)) * (1 : Int)))))
    | 0, 3 => (0 : Int)
    | 1, 0 => ((0 : Int) - (((0 : Int) + (((1 : Int) * (-a)) * ((0 : Int) + (((1 : Int) * (b + d + f)) * (1 : Int))))) + (((-1 : Int) * (-d)) * ((0 : Int) + (((1 : Int) * (-b)) * (1 : Int))))))
    | 1, 1 => (((0 : Int) + (((1 : Int) * (a + b + c)) * ((0 : Int) + (((1 : Int) * (b + d + f)) * (1 : Int))))) + (((-1 : Int) * (-b)) * ((0 : Int) + (((1 : Int) * (-b)) * (1 : Int)))))
    | 1, 2 => ((0 : Int) - (((0 : Int) + (((1 : Int) * (a + b + c)) * ((0 : Int) + (((1 : Int) * (-d)) * (1 : Int))))) + (((-1 : Int) * (-b)) * ((0 : Int) + (((1 : Int) * (-a)) * (1 : Int))))))
    | 1, 3 => (0 : Int)
    | 2, 0 => (((0 : Int) + (((1 : Int) * (-a)) * ((0 : Int) + (((1 : Int) * (-d)) * (1 : Int))))) + (((-1 : Int) * (a + d + e)) * ((0 : Int) + (((1 : Int) * (-b)) * (1 : Int)))))
    | 2, 1 => ((0 : Int) - (((0 : Int) + (((1 : Int) * (a + b + c)) * ((0 : Int) + (((1 : Int) * (-d)) * (1 : Int))))) + (((-1 : Int) * (-a)) * ((0 : Int) + (((1 : Int) * (-b)) * (1 : Int))))))
    | 2, 2 => (((0 : Int) + (((1 : Int) * (a + b + c)) * ((0 : Int) + (((1 : Int) * (a + d + e)) * (1 : Int))))) + (((-1 : Int) * (-a)) * ((0 : Int) + (((1 : Int) * (-a)) * (1 : Int)))))
    | 2, 3 => (0 : Int)
    | 3, 0 => (0 : Int)
    | 3, 1 => (0 : Int)
    | 3, 2 => (0 : Int)
    | 3, 3 => (0 : Int)
    | _, _ => 0, fun x y hx hy => ?_, fun x y hx hy => ?_⟩
  · rcases (by omega : x = 0 ∨ x = 1 ∨ x = 2 ∨ x = 3) with rfl | rfl | rfl | rfl <;> rcases (by omega : y = 0 ∨ y = 1 ∨ y = 2 ∨ y = 3) with rfl | rfl | rfl | rfl
    · rw [fy_hx4_00, m5, m6, m9, m10]
      rfl
    · rw [fy_hx4_01, m1, m2, m9, m10]
      rfl
    · rw [fy_hx4_02, m1, m2, m5, m6]
      rfl
    · rw [fy_hx4_03]
      rfl
    · rw [fy_hx4_10, m4, m6, m8, m10]
      rfl
    · rw [fy_hx4_11, m0, m2, m8, m10]
      rfl
    · rw [fy_hx4_12, m0, m2, m4, m6]
      rfl
    · rw [fy_hx4_13]
      rfl
    · rw [fy_hx4_20, m4, m5, m8, m9]
      rfl
    · rw [fy_hx4_21, m0, m1, m8, m9]
      rfl
    · rw [fy_hx4_22, m0, m1, m4, m5]
      rfl
    · rw [fy_hx4_23]
      rfl
    · rw [fy_hx4_30]
      rfl
    · rw [fy_hx4_31]
      rfl
    · rw [fy_hx4_32]
      rfl
    · rw [fy_hx4_33]
      rfl
  · rcases (by omega : x = 0 ∨ x = 1 ∨ x = 2 ∨ x = 3) with rfl | rfl | rfl | rfl <;> rcases (by omega : y = 0 ∨ y = 1 ∨ y = 2 ∨ y = 3) with rfl | rfl | rfl | rfl
    · exact fy_i4_00 a b c d e f
    · exact fy_i4_01 a b c d e f
    · exact fy_i4_02 a b c d e f
    · exact fy_i4_03 a b c d e f
    · exact fy_i4_10 a b c d e f
    · show ra_pl r 0 5 4 * ra_pl r 0 5 8 - ra_pl r 0 5 5 * ra_pl r 0 5 7 = _
      rw [p4, p8, p5, p7]
      exact fy_i4_11 a b c d e f
    · show ra_pl r 0 5 5 * ra_pl r 0 5 6 - ra_pl r 0 5 3 * ra_pl r 0 5 8 = _
      rw [p5, p6, p3, p8]
      exact fy_i4_12 a b c d e f
    · show ra_pl r 0 5 3 * ra_pl r 0 5 7 - ra_pl r 0 5 4 * ra_pl r 0 5 6 = _
      rw [p3, p7, p4, p6]
      exact fy_i4_13 a b c d e f
    · exact fy_i4_20 a b c d e f
    · show ra_pl r 0 5 7 * ra_pl r 0 5 2 - ra_pl r 0 5 8 * ra_pl r 0 5 1 = _
      rw [p7, p2, p8, p1]
      exact fy_i4_21 a b c d e f
    · show ra_pl r 0 5 8 * ra_pl r 0 5 0 - ra_pl r 0 5 6 * ra_pl r 0 5 2 = _
      rw [p8, p0, p6, p2]
      exact fy_i4_22 a b c d e f
    · show ra_pl r 0 5 6 * ra_pl r 0 5 1 - ra_pl r 0 5 7 * ra_pl r 0 5 0 = _
      rw [p6, p1, p7, p0]
      exact fy_i4_23 a b c d e f
    · exact fy_i4_30 a b c d e f
    · show ra_pl r 0 5 1 * ra_pl r 0 5 5 - ra_pl r 0 5 2 * ra_pl r 0 5 4 = _
      rw [p1, p5, p2, p4]
      exact fy_i4_31 a b c d e f
    · show ra_pl r 0 5 2 * ra_pl r 0 5 3 - ra_pl r 0 5 0 * ra_pl r 0 5 5 = _
      rw [p2, p3, p0, p5]
      exact fy_i4_32 a b c d e f
    · show ra_pl r 0 5 0 * ra_pl r 0 5 4 - ra_pl r 0 5 1 * ra_pl r 0 5 3 = _
      rw [p0, p4, p1, p3]
      exact fy_i4_33 a b c d e f
