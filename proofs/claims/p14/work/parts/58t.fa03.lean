/-! the class's numbers without wrap -/
theorem fy_mulb {x y : Int} {A B : Nat} (hx : -(A : Int) ≤ x ∧ x ≤ A) (hy : -(B : Int) ≤ y ∧ y ≤ B) : -((A * B : Nat) : Int) ≤ x * y ∧ x * y ≤ ((A * B : Nat) : Int) := by
  have h1 : x.natAbs ≤ A := by omega
  have h2 : y.natAbs ≤ B := by omega
  have h3 : (x * y).natAbs ≤ A * B := by
    rw [Int.natAbs_mul]
    exact Nat.mul_le_mul h1 h2
  omega
noncomputable def fy_co (p : Nat → Int) (a b c d : Nat) : Int := p a * p b - p c * p d
noncomputable def fy_t (p : Nat → Int) : Nat → Int
  | 0 => fy_co p 4 8 5 7
  | 1 => fy_co p 5 6 3 8
  | 2 => fy_co p 3 7 4 6
  | 3 => fy_co p 7 2 8 1
  | 4 => fy_co p 8 0 6 2
  | 5 => fy_co p 6 1 7 0
  | 6 => fy_co p 1 5 2 4
  | 7 => fy_co p 2 3 0 5
  | _ => fy_co p 0 4 1 3
noncomputable def fy_pb (p : Nat → Int) : Prop := ∀ x, x < 9 → -46 ≤ p x ∧ p x ≤ 46
theorem fy_cob {p : Nat → Int} (h : fy_pb p) {a b c d : Nat} (ha : a < 9) (hb : b < 9) (hc : c < 9) (hd : d < 9) : ra_cofv p a b c d = fy_co p a b c d ∧ -4232 ≤ fy_co p a b c d ∧ fy_co p a b c d ≤ 4232 := by
  have m1 := fy_mulb (A := 46) (B := 46) (h a ha) (h b hb)
  have m2 := fy_mulb (A := 46) (B := 46) (h c hc) (h d hd)
  have m1 : -2116 ≤ p a * p b ∧ p a * p b ≤ 2116 := m1
  have m2 : -2116 ≤ p c * p d ∧ p c * p d ≤ 2116 := m2
  have e1 : ai_op 2 (p a) (p b) = p a * p b := ra_small (by omega)
  have e2 : ai_op 2 (p c) (p d) = p c * p d := ra_small (by omega)
  unfold ra_cofv fy_co
  rw [e1, e2]
  have e3 : ai_op 1 (p a * p b) (p c * p d) = p a * p b - p c * p d := ra_small (by omega)
  rw [e3]
  omega
theorem fy_tv {p : Nat → Int} (h : fy_pb p) (q : Nat) : ra_tv p q = fy_t p q ∧ -4232 ≤ fy_t p q ∧ fy_t p q ≤ 4232 := by
  match q with
  | 0 => exact fy_cob (a := 4) (b := 8) (c := 5) (d := 7) h (by decide) (by decide) (by decide) (by decide)
  | 1 => exact fy_cob (a := 5) (b := 6) (c := 3) (d := 8) h (by decide) (by decide) (by decide) (by decide)
  | 2 => exact fy_cob (a := 3) (b := 7) (c := 4) (d := 6) h (by decide) (by decide) (by decide) (by decide)
  | 3 => exact fy_cob (a := 7) (b := 2) (c := 8) (d := 1) h (by decide) (by decide) (by decide) (by decide)
  | 4 => exact fy_cob (a := 8) (b := 0) (c := 6) (d := 2) h (by decide) (by decide) (by decide) (by decide)
  | 5 => exact fy_cob (a := 6) (b := 1) (c := 7) (d := 0) h (by decide) (by decide) (by decide) (by decide)
  | 6 => exact fy_cob (a := 1) (b := 5) (c := 2) (d := 4) h (by decide) (by decide) (by decide) (by decide)
  | 7 => exact fy_cob (a := 2) (b := 3) (c := 0) (d := 5) h (by decide) (by decide) (by decide) (by decide)
  | q + 8 => exact fy_cob (a := 0) (b := 4) (c := 1) (d := 3) h (by decide) (by decide) (by decide) (by decide)
theorem fy_wv {p : Nat → Int} (h : fy_pb p) : ra_wv p = p 0 * fy_t p 0 + p 1 * fy_t p 1 + p 2 * fy_t p 2 := by
  have one : ∀ q, q < 9 → ai_op 2 (p q) (ra_tv p q) = p q * fy_t p q ∧ -194672 ≤ p q * fy_t p q ∧ p q * fy_t p q ≤ 194672 := fun q hq => by
    obtain ⟨t1, t2⟩ := fy_tv h q
    have m : -194672 ≤ p q * fy_t p q ∧ p q * fy_t p q ≤ 194672 := fy_mulb (A := 46) (B := 4232) (h q hq) t2
    rw [t1]
    exact ⟨ra_small (by omega), m⟩
  obtain ⟨a1, a2⟩ := one 0 (by omega)
  obtain ⟨b1, b2⟩ := one 1 (by omega)
  obtain ⟨c1, c2⟩ := one 2 (by omega)
  unfold ra_wv
  rw [a1, b1, c1]
  have e1 : ai_op 0 (p 0 * fy_t p 0) (p 1 * fy_t p 1) = p 0 * fy_t p 0 + p 1 * fy_t p 1 := ra_small (by omega)
  rw [e1]
  exact ra_small (by omega)
noncomputable def fy_hC (p : Nat → Int) : Nat → Nat → Int
  | 0, _ => 0
  | _ + 1, 0 => 0
  | x + 1, a + 1 => fy_t p (3 * x + a)
theorem fy_hCb {p : Nat → Int} (h : fy_pb p) : ∀ x a, -4232 ≤ fy_hC p x a ∧ fy_hC p x a ≤ 4232
  | 0, _ => by
    show -4232 ≤ (0 : Int) ∧ (0 : Int) ≤ 4232
    omega
  | _ + 1, 0 => by
    show -4232 ≤ (0 : Int) ∧ (0 : Int) ≤ 4232
    omega
  | x + 1, a + 1 => (fy_tv h (3 * x + a)).2
theorem fy_sh {p : Nat → Int} (h : fy_pb p) {l f t q : Nat} {st : Int} (hs : 0 ≤ st ∧ st ≤ 9) (hft : f ≠ t) : ra_shv 0 l f t q st (ra_tv p) = st * (fy_hC p f q - fy_hC p t q) ∧ -76176 ≤ st * (fy_hC p f q - fy_hC p t q) ∧ st * (fy_hC p f q - fy_hC p t q) ≤ 76176 := by
  have b1 := fy_hCb h f q
  have b2 := fy_hCb h t q
  have m : -76176 ≤ st * (fy_hC p f q - fy_hC p t q) ∧ st * (fy_hC p f q - fy_hC p t q) ≤ 76176 := fy_mulb (A := 9) (B := 8464) (by omega) (by omega)
  refine ⟨?_, m⟩
  unfold ra_shv
  rw [show Nat.beq 0 (l + 1) = false from rfl]
  match q, f, t, hft, b1, b2, m with
  | 0, 0, 0, _, _, _, _ => show (0 : Int) = st * (0 - 0); omega
  | 0, 0, t + 1, _, _, _, _ => show (0 : Int) = st * (0 - 0); omega
  | 0, f + 1, 0, _, _, _, _ => show (0 : Int) = st * (0 - 0); omega
  | 0, f + 1, t + 1, _, _, _, _ => show (0 : Int) = st * (0 - 0); omega
  | q + 1, 0, 0, hft, _, _, _ => exact absurd rfl hft
  | q + 1, f + 1, 0, _, b1, b2, m =>
    show ai_op 2 st (ra_tv p (3 * f + q)) = st * (fy_t p (3 * f + q) - 0)
    have m : -76176 ≤ st * (fy_t p (3 * f + q) - 0) ∧ st * (fy_t p (3 * f + q) - 0) ≤ 76176 := m
    rw [(fy_tv h _).1, Int.sub_zero] at *
    exact ra_small (by omega)
  | q + 1, 0, t + 1, _, b1, b2, m =>
    show ai_op 2 st (ai_op 1 0 (ra_tv p (3 * t + q))) = st * (0 - fy_t p (3 * t + q))
    have m : -76176 ≤ st * (0 - fy_t p (3 * t + q)) ∧ st * (0 - fy_t p (3 * t + q)) ≤ 76176 := m
    have b2 : -4232 ≤ fy_t p (3 * t + q) ∧ fy_t p (3 * t + q) ≤ 4232 := b2
    rw [(fy_tv h _).1]
    have e : ai_op 1 0 (fy_t p (3 * t + q)) = 0 - fy_t p (3 * t + q) := ra_small (by omega)
    rw [e]
    exact ra_small (by omega)
  | q + 1, f + 1, t + 1, _, b1, b2, m =>
    show ai_op 2 st (ai_op 1 (ra_tv p (3 * f + q)) (ra_tv p (3 * t + q))) = st * (fy_t p (3 * f + q) - fy_t p (3 * t + q))
    have m : -76176 ≤ st * (fy_t p (3 * f + q) - fy_t p (3 * t + q)) ∧ st * (fy_t p (3 * f + q) - fy_t p (3 * t + q)) ≤ 76176 := m
    have b1 : -4232 ≤ fy_t p (3 * f + q) ∧ fy_t p (3 * f + q) ≤ 4232 := b1
    have b2 : -4232 ≤ fy_t p (3 * t + q) ∧ fy_t p (3 * t + q) ≤ 4232 := b2
    rw [(fy_tv h _).1, (fy_tv h _).1]
    have e : ai_op 1 (fy_t p (3 * f + q)) (fy_t p (3 * t + q)) = fy_t p (3 * f + q) - fy_t p (3 * t + q) := ra_small (by omega)
    rw [e]
    exact ra_small (by omega)
/-- the weights -/
theorem fy_Lw {r : Nat → Int} (h : fy_H r) : ∃ a b c d e f : Int, (((0 ≤ a ∧ a ≤ 45) ∧ (0 ≤ b ∧ b ≤ 45) ∧ (0 ≤ c ∧ c ≤ 45)) ∧ ((0 ≤ d ∧ d ≤ 45) ∧ (0 ≤ e ∧ e ≤ 45) ∧ (0 ≤ f ∧ f ≤ 45))) ∧ ((r 122 ≤ 3 → c = 0 ∧ e = 0 ∧ f = 0) ∧ (r 122 ≤ 2 → b = 0 ∧ d = 0)) ∧
    (fy_L r (r 123).toNat 0 0 = a + b + c ∧ fy_L r (r 123).toNat 0 1 = -a ∧ fy_L r (r 123).toNat 0 2 = -b ∧ fy_L r (r 123).toNat 0 3 = -c) ∧ (fy_L r (r 123).toNat 1 0 = -a ∧ fy_L r (r 123).toNat 1 1 = a + d + e ∧ fy_L r (r 123).toNat 1 2 = -d ∧ fy_L r (r 123).toNat 1 3 = -e) ∧
    (fy_L r (r 123).toNat 2 0 = -b ∧ fy_L r (r 123).toNat 2 1 = -d ∧ fy_L r (r 123).toNat 2 2 = b + d + f ∧ fy_L r (r 123).toNat 2 3 = -f) ∧ (fy_L r (r 123).toNat 3 0 = -c ∧ fy_L r (r 123).toNat 3 1 = -e ∧ fy_L r (r 123).toNat 3 2 = -f ∧ fy_L r (r 123).toNat 3 3 = c + e + f) := by
  obtain ⟨n, hn⟩ : ∃ n, n = (r 123).toNat := ⟨_, rfl⟩
  rw [← hn]
  have bL := h.2.2.1
  have en : ∀ l, l < n → (fy_en r l).1 ≠ (fy_en r l).2 ∧ (fy_en r l).1 < 4 ∧ (fy_en r l).2 < 4 := fun l hl => by
    obtain ⟨e1, e2, e3, -⟩ := fy_ends h (l := l) (by omega) (by omega)
    exact ⟨e3, e1, e2⟩
  have st : ∀ l, l < n → 0 ≤ r (174 + l) ∧ r (174 + l) ≤ 9 := fun l hl => (h.2.1 l (by omega)).2.2
  have off : ∀ i j, i ≠ j → -45 ≤ fy_L r n i j ∧ fy_L r n i j ≤ 0 := fun i j hij => by
    have := fy_offb (st := fun l => r (174 + l)) (fun l hl => (en l hl).1) st hij n (Nat.le_refl _)
    have this : -(9 * (n : Int)) ≤ fy_L r n i j ∧ fy_L r n i j ≤ 0 := this
    omega
  have sym : ∀ i j, fy_L r n i j = fy_L r n j i := fun i j => fy_sym _ _ n i j
  have row : ∀ i, fy_L r n i 0 + fy_L r n i 1 + fy_L r n i 2 + fy_L r n i 3 = 0 := fun i => fy_row en i n (Nat.le_refl _)
  have abs : ∀ i j : Nat, r 122 ≤ (i : Int) → fy_L r n i j = 0 := fun i j hi => by
    refine fy_abs (P := (r 122).toNat) (n := n) (fun l hl => ?_) (by have := h.2.2.2; omega) n (Nat.le_refl _)
    obtain ⟨-, -, -, e4, e5⟩ := fy_ends h (l := l) (by omega) (by omega)
    omega
  have o1 := off 0 1 (by decide)
  have o2 := off 0 2 (by decide)
  have o3 := off 0 3 (by decide)
  have o4 := off 1 2 (by decide)
  have o5 := off 1 3 (by decide)
  have o6 := off 2 3 (by decide)
  have r0 := row 0
  have r1 := row 1
  have r2 := row 2
  have r3 := row 3
  have s1 := sym 1 0
  have s2 := sym 2 0
  have s3 := sym 3 0
  have s4 := sym 2 1
  have s5 := sym 3 1
  have s6 := sym 3 2
  refine ⟨-fy_L r n 0 1, -fy_L r n 0 2, -fy_L r n 0 3, -fy_L r n 1 2, -fy_L r n 1 3, -fy_L r n 2 3, ⟨⟨by omega, by omega, by omega⟩, by omega, by omega, by omega⟩, ⟨fun q => ?_, fun q => ?_⟩, ⟨by omega, by omega, by omega, by omega⟩, ⟨by omega, by omega, by omega, by omega⟩, ⟨by omega, by omega, by omega, by omega⟩, by omega, by omega, by omega, by omega⟩
  · have z1 := abs 3 0 (by omega)
    have z2 := abs 3 1 (by omega)
    have z3 := abs 3 2 (by omega)
    omega
  · have z1 := abs 2 0 (by omega)
    have z2 := abs 2 1 (by omega)
    omega
