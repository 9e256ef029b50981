/-! BITS, and all instructions of two numbers -/
theorem ai_i32 (x : Int32) : ai_lo32 ≤ x.toInt ∧ x.toInt ≤ ai_hi32 := by
  have h1 := x.le_toInt
  have h2 := x.toInt_lt
  unfold ai_lo32 ai_hi32
  omega
theorem ai_i64 (x : Int64) : ai_lo64 ≤ x.toInt ∧ x.toInt ≤ ai_hi64 := by
  have h1 := x.le_toInt
  have h2 := x.toInt_lt
  unfold ai_lo64 ai_hi64
  omega
theorem ai_small32 {v : Int} (h : ai_lo32 ≤ v ∧ v ≤ ai_hi32) : ai_small v := by
  unfold ai_lo32 ai_hi32 at h
  unfold ai_small ai_lo64 ai_hi64
  omega
/-- no less than 0: the number is that of the bits -/
theorem ai_nn {x : Int32} (h : 0 ≤ x.toInt) : x.toInt = (x.toBitVec.toNat : Int) ∧ x.toBitVec.toNat < 2147483648 := by
  have h1 : x.toInt = x.toBitVec.toInt := rfl
  rw [h1, BitVec.toInt_eq_toNat_cond] at h ⊢
  have h2 := x.toBitVec.isLt
  split
  · refine ⟨rfl, by omega⟩
  · rename_i hh
    rw [if_neg hh] at h
    omega
theorem ai_of_nat {x : Int32} (h : x.toBitVec.toNat < 2147483648) : x.toInt = (x.toBitVec.toNat : Int) := by
  show x.toBitVec.toInt = _
  rw [BitVec.toInt_eq_toNat_cond, if_pos (by omega)]
theorem ai_and_bits (x y : Int32) : (x &&& y).toBitVec.toNat = x.toBitVec.toNat &&& y.toBitVec.toNat := by
  rw [Int32.toBitVec_and, BitVec.toNat_and]
theorem ai_or_bits (x y : Int32) : (x ||| y).toBitVec.toNat = x.toBitVec.toNat ||| y.toBitVec.toNat := by
  rw [Int32.toBitVec_or, BitVec.toNat_or]
theorem ai_xor_bits (x y : Int32) : (x ^^^ y).toBitVec.toNat = x.toBitVec.toNat ^^^ y.toBitVec.toNat := by
  rw [Int32.toBitVec_xor, BitVec.toNat_xor]
theorem ai_and_l {x y : Int32} (h : 0 ≤ x.toInt) : 0 ≤ (x &&& y).toInt ∧ (x &&& y).toInt ≤ x.toInt := by
  obtain ⟨h1, h2⟩ := ai_nn h
  have h3 := ai_and_bits x y
  have h4 := Nat.and_le_left (n := x.toBitVec.toNat) (m := y.toBitVec.toNat)
  have h5 := ai_of_nat (x := x &&& y) (by omega)
  omega
theorem ai_and_r {x y : Int32} (h : 0 ≤ y.toInt) : 0 ≤ (x &&& y).toInt ∧ (x &&& y).toInt ≤ y.toInt := by
  obtain ⟨h1, h2⟩ := ai_nn h
  have h3 := ai_and_bits x y
  have h4 := Nat.and_le_right (n := x.toBitVec.toNat) (m := y.toBitVec.toNat)
  have h5 := ai_of_nat (x := x &&& y) (by omega)
  omega
theorem ai_full_lt {n : Nat} {m : Int} (h : (n : Int) ≤ m) (hm : m ≤ ai_hi32) : ∃ k, k ≤ 31 ∧ ai_full m = ((2 ^ k - 1 : Nat) : Int) ∧ n < 2 ^ k ∧ m ≤ ai_full m := by
  cases m with
  | negSucc q => omega
  | ofNat q =>
    have h : n ≤ q := Int.ofNat_le.mp h
    have hq : q < 2147483648 := by
      have : (q : Int) ≤ ai_hi32 := hm
      unfold ai_hi32 at this
      omega
    have h1 : q < 2 ^ (Nat.log2 q + 1) := Nat.lt_log2_self
    have h2 : Nat.log2 q < 31 := by
      by_cases e : q = 0
      · subst e; decide
      · exact (Nat.log2_lt e).mpr (by omega)
    refine ⟨Nat.log2 q + 1, by omega, rfl, by omega, ?_⟩
    show (q : Int) ≤ ((2 ^ (Nat.log2 q + 1) - 1 : Nat) : Int)
    omega
theorem ai_two_le {k : Nat} (h : k ≤ 31) : 2 ^ k ≤ 2147483648 := by
  have := Nat.pow_le_pow_right (show 2 > 0 by decide) h
  exact this
theorem ai_or_bd {x y : Int32} {m : Int} (hx : 0 ≤ x.toInt) (hy : 0 ≤ y.toInt) (h1 : x.toInt ≤ m) (h2 : y.toInt ≤ m) : (0 ≤ (x ||| y).toInt ∧ (x ||| y).toInt ≤ ai_full m) ∧ 0 ≤ (x ^^^ y).toInt ∧ (x ^^^ y).toInt ≤ ai_full m := by
  obtain ⟨x1, x2⟩ := ai_nn hx
  obtain ⟨y1, y2⟩ := ai_nn hy
  by_cases hm : m ≤ ai_hi32
  · obtain ⟨k, k1, k2, k3, -⟩ := ai_full_lt (n := x.toBitVec.toNat) (m := m) (by omega) hm
    obtain ⟨k', -, k2', k3', -⟩ := ai_full_lt (n := y.toBitVec.toNat) (m := m) (by omega) hm
    have hk : 2 ^ k' = 2 ^ k := by
      have a1 := Nat.two_pow_pos k
      have a2 := Nat.two_pow_pos k'
      omega
    have hk2 := ai_two_le k1
    have o1 := Nat.or_lt_two_pow k3 (by rw [hk] at k3'; exact k3')
    have o2 := Nat.xor_lt_two_pow k3 (by rw [hk] at k3'; exact k3')
    have b1 := ai_or_bits x y
    have b2 := ai_xor_bits x y
    have c1 := ai_of_nat (x := x ||| y) (by omega)
    have c2 := ai_of_nat (x := x ^^^ y) (by omega)
    rw [k2]
    omega
  · have hf : ai_hi32 ≤ ai_full m := by
      cases m with
      | negSucc q => exact absurd (show Int.negSucc q ≤ ai_hi32 by unfold ai_hi32; omega) hm
      | ofNat q =>
        have h1 : q < 2 ^ (Nat.log2 q + 1) := Nat.lt_log2_self
        show ai_hi32 ≤ ((2 ^ (Nat.log2 q + 1) - 1 : Nat) : Int)
        have : ¬ (q : Int) ≤ ai_hi32 := hm
        omega
    have o1 := Nat.or_lt_two_pow (n := 31) (x := x.toBitVec.toNat) (y := y.toBitVec.toNat) (by omega) (by omega)
    have o2 := Nat.xor_lt_two_pow (n := 31) (x := x.toBitVec.toNat) (y := y.toBitVec.toNat) (by omega) (by omega)
    have b1 := ai_or_bits x y
    have b2 := ai_xor_bits x y
    have c1 := ai_of_nat (x := x ||| y) (by omega)
    have c2 := ai_of_nat (x := x ^^^ y) (by omega)
    have d1 := ai_i32 (x ||| y)
    have d2 := ai_i32 (x ^^^ y)
    omega
theorem ai_shr_k {a s : Int32} {k : Nat} (hk : k < 32) (hs : s.toInt = (k : Int)) : (a >>> (s &&& 31)).toInt = a.toInt >>> k := by
  have e : s = nI k := by
    apply Int32.toInt_inj.mp
    rw [hs, nI_toInt (by omega)]
  subst e
  refine pk_shr a _ k ?_
  have key : ∀ n, n < 32 → ((nI n &&& 31).toBitVec.smod 32).toNat = n := by decide +kernel
  exact key k hk
theorem ai_shl_k {a s : Int32} {k : Nat} (hk : k < 31) (hs : s.toInt = (k : Int)) (ha : 0 ≤ a.toInt) (hb : a.toInt * ((2 ^ k : Nat) : Int) ≤ ai_hi32) : (a <<< (s &&& 31)).toInt = a.toInt * ((2 ^ k : Nat) : Int) := by
  have e : s = nI k := by
    apply Int32.toInt_inj.mp
    rw [hs, nI_toInt (by omega)]
  subst e
  have key : ∀ n, n < 32 → ((nI n &&& 31).toBitVec.smod 32).toNat = n := by decide +kernel
  have hk2 := key k (by omega)
  obtain ⟨h1, h2⟩ := ai_nn ha
  have h3 : (a <<< (nI k &&& 31)).toBitVec = a.toBitVec <<< ((nI k &&& 31).toBitVec.smod 32).toNat := by
    rw [Int32.toBitVec_shiftLeft, BitVec.shiftLeft_eq']
  have h4 : a.toBitVec.toNat * 2 ^ k < 2147483648 := by
    have h5 : ((a.toBitVec.toNat * 2 ^ k : Nat) : Int) ≤ 2147483647 := by
      have := hb
      unfold ai_hi32 at this
      rw [h1] at this
      rw [Int.natCast_mul]
      exact this
    omega
  have h6 : (a <<< (nI k &&& 31)).toBitVec.toNat = a.toBitVec.toNat * 2 ^ k := by
    rw [h3, hk2, BitVec.toNat_shiftLeft, Nat.shiftLeft_eq]
    exact Nat.mod_eq_of_lt (Nat.lt_of_lt_of_le h4 (by decide))
  rw [ai_of_nat (by rw [h6]; exact h4), h6, h1, Int.natCast_mul]
theorem ai_rshl_ok {x y : Int32} {a b c d : Int} (h1 : a ≤ x.toInt) (h2 : x.toInt ≤ b) (h3 : c ≤ y.toInt) (h4 : y.toInt ≤ d) : (ai_rshl a b c d).1 ≤ (x <<< (y &&& 31)).toInt ∧ (x <<< (y &&& 31)).toInt ≤ (ai_rshl a b c d).2 := by
  have full := ai_i32 (x <<< (y &&& 31))
  unfold ai_rshl
  cases e1 : ai_le 0 a with
  | false => exact full
  | true => cases e2 : ai_le 0 c with
    | false => exact full
    | true => cases e3 : ai_le d 30 with
      | false => exact full
      | true =>
        have e1 := ai_le_iff.mp e1
        have e2 := ai_le_iff.mp e2
        have e3 := ai_le_iff.mp e3
        dsimp only
        cases e4 : ai_le (b * Int.ofNat (2 ^ d.toNat)) ai_hi32 with
        | false => exact full
        | true =>
          have e4 := ai_le_iff.mp e4
          have e4 : b * ((2 ^ d.toNat : Nat) : Int) ≤ ai_hi32 := e4
          have m1 : ((2 ^ c.toNat : Nat) : Int) ≤ ((2 ^ y.toInt.toNat : Nat) : Int) := by
            exact_mod_cast Nat.pow_le_pow_right (by decide) (by omega)
          have m2 : ((2 ^ y.toInt.toNat : Nat) : Int) ≤ ((2 ^ d.toNat : Nat) : Int) := by
            exact_mod_cast Nat.pow_le_pow_right (by decide) (by omega)
          have p0 : (0 : Int) ≤ ((2 ^ c.toNat : Nat) : Int) := Int.natCast_nonneg _
          have p1 : (0 : Int) ≤ ((2 ^ y.toInt.toNat : Nat) : Int) := Int.natCast_nonneg _
          have u1 : a * ((2 ^ c.toNat : Nat) : Int) ≤ x.toInt * ((2 ^ y.toInt.toNat : Nat) : Int) := Int.mul_le_mul h1 m1 p0 (by omega)
          have u2 : x.toInt * ((2 ^ y.toInt.toNat : Nat) : Int) ≤ b * ((2 ^ d.toNat : Nat) : Int) := Int.mul_le_mul h2 m2 p1 (by omega)
          rw [ai_shl_k (k := y.toInt.toNat) (by omega) (by omega) (by omega) (by omega)]
          exact ⟨u1, u2⟩
theorem ai_shr_mono {a b : Int} (h : a ≤ b) (k : Nat) : a >>> k ≤ b >>> k := by
  rw [Int.shiftRight_eq_div_pow, Int.shiftRight_eq_div_pow]
  exact Int.ediv_le_ediv (by exact_mod_cast Nat.two_pow_pos k) h
/-- the machine's instruction of two ints -/
noncomputable def ai_op32 (o : Nat) (x y : Int32) : Int32 := match o with
  | 0 => x + y
  | 1 => x - y
  | 2 => x * y
  | 3 => x / y
  | 4 => x - x / y * y
  | 5 => x &&& y
  | 6 => x ||| y
  | 7 => x ^^^ y
  | 8 => x <<< (y &&& 31)
  | 9 => x >>> (y &&& 31)
  | 10 => (x.toUInt32 >>> (y.toUInt32 &&& Int32.toUInt32 31)).toInt32
  | 11 => if x < y then y else x
  | 12 => if x < y then x else y
  | 13 => if 0 ≤ x then x else 0 - x
  | _ => 0
noncomputable def ai_op64 (o : Nat) (x y : Int64) : Int64 := match o with
  | 20 => x + y
  | 21 => x - y
  | 22 => x * y
  | 23 => x / y
  | 24 => x - x / y * y
  | 26 => if 0 < x then x else -x
  | _ => 0
theorem ai_op32_ok {o : Nat} (ho : o < 14) (x y : Int32) : (ai_op32 o x y).toInt = ai_op o x.toInt y.toInt := by
  have e2 : (2 : Nat) ^ 32 = 4294967296 := by decide
  match o, ho with
  | 0, _ => simp [ai_op32, ai_op]
  | 1, _ => simp [ai_op32, ai_op]
  | 2, _ => simp [ai_op32, ai_op]
  | 3, _ => simp [ai_op32, ai_op]
  | 4, _ => simp [ai_op32, ai_op]
  | 5, _ => simp [ai_op32, ai_op]
  | 6, _ => simp [ai_op32, ai_op]
  | 7, _ => simp [ai_op32, ai_op]
  | 8, _ => simp [ai_op32, ai_op]
  | 9, _ => simp [ai_op32, ai_op]
  | 10, _ => simp [ai_op32, ai_op]
  | 11, _ =>
    show (if x < y then y else x).toInt = ai_max x.toInt y.toInt
    unfold ai_max
    by_cases h : x < y
    · rw [if_pos h]
      rw [Int32.lt_iff_toInt_lt] at h
      rw [ai_le_iff.mpr (by omega)]
    · rw [if_neg h]
      rw [Int32.lt_iff_toInt_lt] at h
      cases e : ai_le x.toInt y.toInt with
      | true => have := ai_le_iff.mp e; show x.toInt = y.toInt; omega
      | false => rfl
  | 12, _ =>
    show (if x < y then x else y).toInt = ai_min x.toInt y.toInt
    unfold ai_min
    by_cases h : x < y
    · rw [if_pos h]
      rw [Int32.lt_iff_toInt_lt] at h
      rw [ai_le_iff.mpr (by omega)]
    · rw [if_neg h]
      rw [Int32.lt_iff_toInt_lt] at h
      cases e : ai_le x.toInt y.toInt with
      | true => have := ai_le_iff.mp e; show y.toInt = x.toInt; omega
      | false => rfl
  | 13, _ =>
    show (if 0 ≤ x then x else 0 - x).toInt = (ai_abs x.toInt).bmod 4294967296
    rw [ai_abs_of]
    have hx := ai_i32 x
    by_cases h : 0 ≤ x
    · rw [if_pos h]
      rw [Int32.le_iff_toInt_le, Int32.toInt_zero] at h
      rw [ai_bm32_id (by unfold ai_lo32; omega) (by omega)]
      omega
    · rw [if_neg h]
      rw [Int32.le_iff_toInt_le, Int32.toInt_zero] at h
      rw [Int32.toInt_sub, Int32.toInt_zero]
      show (0 - x.toInt).bmod 4294967296 = _
      congr 1
      omega
theorem ai_op64_ok {o : Nat} (ho : 20 ≤ o ∧ o ≤ 24 ∨ o = 26) (x y : Int64) : (ai_op64 o x y).toInt = ai_op o x.toInt y.toInt := by
  have ho : o = 20 ∨ o = 21 ∨ o = 22 ∨ o = 23 ∨ o = 24 ∨ o = 26 := by omega
  rcases ho with rfl | rfl | rfl | rfl | rfl | rfl
  · simp [ai_op64, ai_op]
  · simp [ai_op64, ai_op]
  · simp [ai_op64, ai_op]
  · simp [ai_op64, ai_op]
  · simp [ai_op64, ai_op]
  · show (if 0 < x then x else -x).toInt = (ai_abs x.toInt).bmod 18446744073709551616
    rw [ai_abs_of]
    have hx := ai_i64 x
    by_cases h : 0 < x
    · rw [if_pos h]
      rw [Int64.lt_iff_toInt_lt, Int64.toInt_zero] at h
      rw [ai_bm64_id (by unfold ai_lo64; omega) (by omega)]
      omega
    · rw [if_neg h]
      rw [Int64.lt_iff_toInt_lt, Int64.toInt_zero] at h
      rw [Int64.toInt_neg]
      show (-x.toInt).bmod 18446744073709551616 = _
      congr 1
      omega
/-- the bounds that the domain gives hold -/
theorem ai_rng32 {o : Nat} (ho : o < 14) {x y : Int32} {a b c d : Int} (h1 : a ≤ x.toInt) (h2 : x.toInt ≤ b) (h3 : c ≤ y.toInt) (h4 : y.toInt ≤ d) : (ai_rng o (a, b) (c, d)).1 ≤ ai_op o x.toInt y.toInt ∧ ai_op o x.toInt y.toInt ≤ (ai_rng o (a, b) (c, d)).2 := by
  have hx := ai_i32 x
  have hy := ai_i32 y
  have full : ai_lo32 ≤ ai_op o x.toInt y.toInt ∧ ai_op o x.toInt y.toInt ≤ ai_hi32 := by
    rw [← ai_op32_ok ho]; exact ai_i32 _
  match o, ho, full with
  | 0, _, _ => exact ai_fit32 (by omega) (by omega)
  | 1, _, _ => exact ai_fit32 (by omega) (by omega)
  | 2, _, _ => exact ai_rmul32 h1 h2 h3 h4
  | 3, _, _ => exact ai_rdiv32 h1 h2 h3 hx.2
  | 4, _, _ => exact ai_rrem32 h1 h2 h3 h4 hx.2
  | 5, _, full =>
    have e : ai_op 5 x.toInt y.toInt = (x &&& y).toInt := by rw [← ai_op32_ok (by decide)]; rfl
    rw [e] at full ⊢
    show (ai_rand a b c d).1 ≤ _ ∧ _ ≤ (ai_rand a b c d).2
    unfold ai_rand
    cases e1 : ai_le 0 a with
    | true =>
      have e1 := ai_le_iff.mp e1
      have g1 := ai_and_l (x := x) (y := y) (by omega)
      cases e2 : ai_le 0 c with
      | true =>
        have e2 := ai_le_iff.mp e2
        have g2 := ai_and_r (x := x) (y := y) (by omega)
        have g3 := ai_min_le (a := b) (b := d)
        show 0 ≤ _ ∧ _ ≤ ai_min b d
        omega
      | false =>
        show 0 ≤ _ ∧ _ ≤ b
        omega
    | false => cases e2 : ai_le 0 c with
      | true =>
        have e2 := ai_le_iff.mp e2
        have g2 := ai_and_r (x := x) (y := y) (by omega)
        show 0 ≤ _ ∧ _ ≤ d
        omega
      | false => exact full
  | 6, _, full =>
    have e : ai_op 6 x.toInt y.toInt = (x ||| y).toInt := by rw [← ai_op32_ok (by decide)]; rfl
    rw [e] at full ⊢
    show (ai_ror a b c d).1 ≤ _ ∧ _ ≤ (ai_ror a b c d).2
    unfold ai_ror
    cases e1 : ai_le 0 a with
    | true => cases e2 : ai_le 0 c with
      | true =>
        have e1 := ai_le_iff.mp e1
        have e2 := ai_le_iff.mp e2
        have g3 := ai_max_ge (a := b) (b := d)
        exact (ai_or_bd (x := x) (y := y) (m := ai_max b d) (by omega) (by omega) (by omega) (by omega)).1
      | false => exact full
    | false => exact full
  | 7, _, full =>
    have e : ai_op 7 x.toInt y.toInt = (x ^^^ y).toInt := by rw [← ai_op32_ok (by decide)]; rfl
    rw [e] at full ⊢
    show (ai_ror a b c d).1 ≤ _ ∧ _ ≤ (ai_ror a b c d).2
    unfold ai_ror
    cases e1 : ai_le 0 a with
    | true => cases e2 : ai_le 0 c with
      | true =>
        have e1 := ai_le_iff.mp e1
        have e2 := ai_le_iff.mp e2
        have g3 := ai_max_ge (a := b) (b := d)
        exact (ai_or_bd (x := x) (y := y) (m := ai_max b d) (by omega) (by omega) (by omega) (by omega)).2
      | false => exact full
    | false => exact full
  | 8, _, full =>
    have e : ai_op 8 x.toInt y.toInt = (x <<< (y &&& 31)).toInt := by rw [← ai_op32_ok (by decide)]; rfl
    rw [e] at full ⊢
    exact ai_rshl_ok h1 h2 h3 h4
  | 9, _, full =>
    have e : ai_op 9 x.toInt y.toInt = (x >>> (y &&& 31)).toInt := by rw [← ai_op32_ok (by decide)]; rfl
    rw [e] at full ⊢
    show (ai_rshr a b c d).1 ≤ _ ∧ _ ≤ (ai_rshr a b c d).2
    unfold ai_rshr
    cases e1 : ai_eq c d with
    | false => exact full
    | true =>
      have e1 := ai_eq_iff.mp e1
      cases c with
      | negSucc k => exact full
      | ofNat k =>
        cases e2 : Nat.blt k 32 with
        | false =>
          show (match Nat.blt k 32 with | true => (a >>> k, b >>> k) | false => (ai_lo32, ai_hi32)).1 ≤ _ ∧ _ ≤ (match Nat.blt k 32 with | true => (a >>> k, b >>> k) | false => (ai_lo32, ai_hi32)).2
          rw [e2]; exact full
        | true =>
          have hk : k < 32 := by
            have : Nat.ble (k + 1) 32 = true := e2
            exact Nat.le_of_ble_eq_true this
          have hyk : y.toInt = (k : Int) := by
            have h3 : (k : Int) ≤ y.toInt := h3
            have e1 : (k : Int) = d := e1
            omega
          show (match Nat.blt k 32 with | true => (a >>> k, b >>> k) | false => (ai_lo32, ai_hi32)).1 ≤ _ ∧ _ ≤ (match Nat.blt k 32 with | true => (a >>> k, b >>> k) | false => (ai_lo32, ai_hi32)).2
          rw [e2, ai_shr_k hk hyk]
          exact ⟨ai_shr_mono h1 k, ai_shr_mono h2 k⟩
  | 10, _, full => exact full
  | 11, _, _ =>
    have g1 := ai_max_ge (a := a) (b := c)
    have g2 := ai_max_ge (a := b) (b := d)
    have g3 := ai_max_ge (a := x.toInt) (b := y.toInt)
    show ai_max a c ≤ ai_max x.toInt y.toInt ∧ ai_max x.toInt y.toInt ≤ ai_max b d
    omega
  | 12, _, _ =>
    have g1 := ai_min_le (a := a) (b := c)
    have g2 := ai_min_le (a := b) (b := d)
    have g3 := ai_min_le (a := x.toInt) (b := y.toInt)
    show ai_min a c ≤ ai_min x.toInt y.toInt ∧ ai_min x.toInt y.toInt ≤ ai_min b d
    omega
  | 13, _, full => exact full
theorem ai_rng64 {o : Nat} (ho : 20 ≤ o ∧ o ≤ 24 ∨ o = 26) {x y : Int64} {a b c d : Int} (h1 : a ≤ x.toInt) (h2 : x.toInt ≤ b) (h3 : c ≤ y.toInt) (h4 : y.toInt ≤ d) : (ai_rng o (a, b) (c, d)).1 ≤ ai_op o x.toInt y.toInt ∧ ai_op o x.toInt y.toInt ≤ (ai_rng o (a, b) (c, d)).2 := by
  have hx := ai_i64 x
  have hy := ai_i64 y
  have full : ai_lo64 ≤ ai_op o x.toInt y.toInt ∧ ai_op o x.toInt y.toInt ≤ ai_hi64 := by
    rw [← ai_op64_ok ho]; exact ai_i64 _
  have ho : o = 20 ∨ o = 21 ∨ o = 22 ∨ o = 23 ∨ o = 24 ∨ o = 26 := by omega
  rcases ho with rfl | rfl | rfl | rfl | rfl | rfl
  · exact ai_fit64 (by omega) (by omega)
  · exact ai_fit64 (by omega) (by omega)
  · exact ai_rmul64 h1 h2 h3 h4
  · exact ai_rdiv64 h1 h2 h3 hx.2
  · exact ai_rrem64 h1 h2 h3 h4 hx.2
  · exact full
/-- an instruction of two numbers that the domain does: on ints -/
theorem ai_bin_ok {r : Nat → Int} {E E' : ai_E} {o : Nat} {x y z : ai_X} {v : Int} (hE : ai_gE r E) (hx : x.1 < E.1) (hy : y.1 < E.1) (hv : v = ai_op o (ai_vx r x) (ai_vx r y)) (hs : ai_small v)
    (hid : (o = 0 → ∀ u, u = ai_vx r x + ai_vx r y → ai_lo32 ≤ u → u ≤ ai_hi32 → v = u) ∧ (o = 1 → ∀ u, u = ai_vx r x - ai_vx r y → ai_lo32 ≤ u → u ≤ ai_hi32 → v = u))
    (hr : ∀ a b c d : Int, a ≤ ai_vx r x → ai_vx r x ≤ b → c ≤ ai_vx r y → ai_vx r y ≤ d → (ai_rng o (a, b) (c, d)).1 ≤ v ∧ v ≤ (ai_rng o (a, b) (c, d)).2) (h : ai_bin E o x y = (z, E')) :
    ∃ r', ai_ext E.1 r r' ∧ E.1 ≤ E'.1 ∧ ai_gE r' E' ∧ z.1 < E'.1 ∧ ai_vx r' z = v := by
  have v0 : ∀ c : Int, ai_vx r (0, c) = c := fun c => by
    show r 0 + c = c
    rw [hE.1]; omega
  have gen : ∀ {w : ai_X} {F : ai_E}, ai_def E o x y (ai_rng o (ai_iv E x) (ai_iv E y)) = (w, F) → ∃ r', ai_ext E.1 r r' ∧ E.1 ≤ F.1 ∧ ai_gE r' F ∧ w.1 < F.1 ∧ ai_vx r' w = v := by
    intro w F hd
    obtain ⟨a1, a2⟩ := ai_iv_ok hE hx
    obtain ⟨b1, b2⟩ := ai_iv_ok hE hy
    have hb := hr _ _ _ _ a1 a2 b1 b2
    rw [hv] at hb hs ⊢
    exact ai_def_ok hE hx hy hb hs hd
  obtain ⟨t, c⟩ := x
  obtain ⟨u, d⟩ := y
  unfold ai_bin at h
  cases t with
  | zero => cases u with
    | zero =>
      cases h
      refine ⟨r, ai_ext.rfl', Nat.le_refl _, hE, hE.2.1, ?_⟩
      rw [v0, hv, v0, v0]
    | succ u =>
      dsimp only at h
      split at h
      · rename_i h1
        have h1 := Nat.eq_of_beq_eq_true h1
        subst h1
        have hz : (u + 1, d + c).1 < E.1 := hy
        have hvz : ai_vx r (u + 1, d + c) = ai_vx r (0, c) + ai_vx r (u + 1, d) := by
          rw [v0]; show r (u + 1) + (d + c) = c + (r (u + 1) + d); omega
        have hb := ai_iv_ok hE hz
        cases e : ai_iv E (u + 1, d + c) with
        | mk lo hi =>
          rw [e] at h hb
          dsimp only at h hb
          split at h
          · rename_i e1 e2
            cases h
            have e1 := ai_le_iff.mp e1
            have e2 := ai_le_iff.mp e2
            exact ⟨r, ai_ext.rfl', Nat.le_refl _, hE, hz, (hid.1 rfl _ hvz (by omega) (by omega)).symm⟩
          · exact gen h
      · exact gen h
  | succ t => cases u with
    | zero =>
      dsimp only at h
      split at h
      · rename_i h1
        have h1 := Nat.le_of_ble_eq_true h1
        generalize he : ai_pm o c d = e' at h
        have hz : (t + 1, e').1 < E.1 := hx
        have hb := ai_iv_ok hE hz
        cases e : ai_iv E (t + 1, e') with
        | mk lo hi =>
          rw [e] at h hb
          dsimp only at h hb
          split at h
          · rename_i e1 e2
            cases h
            have e1 := ai_le_iff.mp e1
            have e2 := ai_le_iff.mp e2
            refine ⟨r, ai_ext.rfl', Nat.le_refl _, hE, hz, ?_⟩
            have ho : o = 0 ∨ o = 1 := by omega
            rcases ho with rfl | rfl
            · have he : c + d = e' := he
              refine (hid.1 rfl _ ?_ (by omega) (by omega)).symm
              rw [v0]; show r (t + 1) + e' = r (t + 1) + c + d; omega
            · have he : c - d = e' := he
              refine (hid.2 rfl _ ?_ (by omega) (by omega)).symm
              rw [v0]; show r (t + 1) + e' = r (t + 1) + c - d; omega
          · exact gen h
      · exact gen h
    | succ u => exact gen h
theorem ai_bin32 {r : Nat → Int} {E E' : ai_E} {o : Nat} (ho : o < 14) {x y z : ai_X} {p q : Int32} (hE : ai_gE r E) (hx : x.1 < E.1) (hy : y.1 < E.1) (hp : p.toInt = ai_vx r x) (hq : q.toInt = ai_vx r y) (h : ai_bin E o x y = (z, E')) :
    ∃ r', ai_ext E.1 r r' ∧ E.1 ≤ E'.1 ∧ ai_gE r' E' ∧ z.1 < E'.1 ∧ (ai_op32 o p q).toInt = ai_vx r' z := by
  have hv := ai_op32_ok ho p q
  obtain ⟨r', h1, h2, h3, h4, h5⟩ := ai_bin_ok (v := (ai_op32 o p q).toInt) hE hx hy (by rw [hv, hp, hq]) (ai_small32 (ai_i32 _))
    ⟨fun e u hu l1 l2 => by subst e; rw [hv, hp, hq, hu]; show (_ : Int).bmod 4294967296 = _; rw [ai_bm32_id (by omega) (by omega)], fun e u hu l1 l2 => by subst e; rw [hv, hp, hq, hu]; show (_ : Int).bmod 4294967296 = _; rw [ai_bm32_id (by omega) (by omega)]⟩
    (fun a b c d l1 l2 l3 l4 => by rw [hv]; exact ai_rng32 ho (by omega) (by omega) (by omega) (by omega)) h
  exact ⟨r', h1, h2, h3, h4, h5.symm⟩
theorem ai_bin64 {r : Nat → Int} {E E' : ai_E} {o : Nat} (ho : 20 ≤ o ∧ o ≤ 24 ∨ o = 26) {x y z : ai_X} {p q : Int64} (hE : ai_gE r E) (hx : x.1 < E.1) (hy : y.1 < E.1) (hp : p.toInt = ai_vx r x) (hq : q.toInt = ai_vx r y) (h : ai_bin E o x y = (z, E')) :
    ∃ r', ai_ext E.1 r r' ∧ E.1 ≤ E'.1 ∧ ai_gE r' E' ∧ z.1 < E'.1 ∧ (ai_op64 o p q).toInt = ai_vx r' z := by
  have hv := ai_op64_ok ho p q
  obtain ⟨r', h1, h2, h3, h4, h5⟩ := ai_bin_ok (v := (ai_op64 o p q).toInt) hE hx hy (by rw [hv, hp, hq]) (ai_i64 _)
    ⟨fun e u hu l1 l2 => absurd e (by omega), fun e u hu l1 l2 => absurd e (by omega)⟩
    (fun a b c d l1 l2 l3 l4 => by rw [hv]; exact ai_rng64 ho (by omega) (by omega) (by omega) (by omega)) h
  exact ⟨r', h1, h2, h3, h4, h5.symm⟩
/-- the comparison of two longs -/
theorem ai_cmp64 {r : Nat → Int} {E E' : ai_E} {x y z : ai_X} {p q : Int64} (hE : ai_gE r E) (hx : x.1 < E.1) (hy : y.1 < E.1) (hp : p.toInt = ai_vx r x) (hq : q.toInt = ai_vx r y) (h : ai_bin E 25 x y = (z, E')) :
    ∃ r', ai_ext E.1 r r' ∧ E.1 ≤ E'.1 ∧ ai_gE r' E' ∧ z.1 < E'.1 ∧ (lg_cmp p q).toInt = ai_vx r' z := by
  have hv : (lg_cmp p q).toInt = ai_op 25 p.toInt q.toInt := by
    show _ = (match ai_eq p.toInt q.toInt with | true => (0 : Int) | false => match ai_le p.toInt q.toInt with | true => -1 | false => 1)
    by_cases e : p.toInt = q.toInt
    · rw [ai_eq_iff.mpr e]
      have e2 := Int64.toInt_inj.mp e
      subst e2
      simp [lg_cmp]
    · rw [ai_eq_not.mpr e]
      by_cases g : q < p
      · have g2 := Int64.lt_iff_toInt_lt.mp g
        have e1 : lg_cmp p q = 1 := by simp [lg_cmp, g]
        rw [e1, ai_le_not.mpr g2]; rfl
      · have g2 : ¬ q.toInt < p.toInt := fun q => g (Int64.lt_iff_toInt_lt.mpr q)
        have g3 : ¬ p = q := fun h => e (by rw [h])
        have e1 : lg_cmp p q = -1 := by simp [lg_cmp, g, g3]
        rw [e1, ai_le_iff.mpr (by omega)]; rfl
  have hb : -1 ≤ ai_op 25 p.toInt q.toInt ∧ ai_op 25 p.toInt q.toInt ≤ 1 := by
    show (-1 : Int) ≤ (match ai_eq p.toInt q.toInt with | true => 0 | false => match ai_le p.toInt q.toInt with | true => -1 | false => 1) ∧ (match ai_eq p.toInt q.toInt with | true => (0 : Int) | false => match ai_le p.toInt q.toInt with | true => -1 | false => 1) ≤ 1
    cases ai_eq p.toInt q.toInt with
    | true => exact ⟨show (-1 : Int) ≤ 0 by decide, show (0 : Int) ≤ 1 by decide⟩
    | false => cases ai_le p.toInt q.toInt with
      | true => exact ⟨Int.le_refl _, by decide⟩
      | false => exact ⟨by decide, Int.le_refl _⟩
  obtain ⟨r', h1, h2, h3, h4, h5⟩ := ai_bin_ok (v := (lg_cmp p q).toInt) hE hx hy (by rw [hv, hp, hq]) (ai_small32 (ai_i32 _))
    ⟨fun e u hu l1 l2 => absurd e (by omega), fun e u hu l1 l2 => absurd e (by omega)⟩
    (fun a b c d l1 l2 l3 l4 => by rw [hv]; exact hb) h
  exact ⟨r', h1, h2, h3, h4, h5.symm⟩
