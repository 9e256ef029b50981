/-! WAY: bits of small numbers -/
theorem wq_bv {x : Nat} (h : x < 2147483648) : (Int32.ofInt (x : Int)).toBitVec.toNat = x := by
  have e : (Int32.ofInt (x : Int)).toInt = (x : Int) := Int32.toInt_ofInt_of_le (by omega) (by omega)
  have := (ai_nn (x := Int32.ofInt (x : Int)) (by omega)).1
  omega
theorem wq_ti {y : BitVec 32} {x : Nat} (e : y.toNat = x) (h : x < 2147483648) : y.toInt = (x : Int) := by
  rw [BitVec.toInt_eq_toNat_of_lt (by omega), e]
theorem wq_o5 {x y : Nat} (hx : x < 2147483648) (hy : y < 2147483648) : ai_op 5 (x : Int) (y : Int) = ((x &&& y : Nat) : Int) := by
  show ((Int32.ofInt (x : Int)).toBitVec &&& (Int32.ofInt (y : Int)).toBitVec).toInt = _
  refine wq_ti (by rw [BitVec.toNat_and, wq_bv hx, wq_bv hy]) ?_
  exact Nat.lt_of_le_of_lt Nat.and_le_left hx
theorem wq_o6 {x y : Nat} (hx : x < 2147483648) (hy : y < 2147483648) : ai_op 6 (x : Int) (y : Int) = ((x ||| y : Nat) : Int) := by
  show ((Int32.ofInt (x : Int)).toBitVec ||| (Int32.ofInt (y : Int)).toBitVec).toInt = _
  refine wq_ti (by rw [BitVec.toNat_or, wq_bv hx, wq_bv hy]) ?_
  exact Nat.or_lt_two_pow (n := 31) hx hy
theorem wq_sm : ∀ j, j < 16 → (Int32.ofInt (Int.ofNat j) &&& 31).toBitVec.smod 32 = BitVec.ofNat 32 j := by decide +kernel
theorem wq_o9 {x j : Nat} (hx : x < 2147483648) (hj : j < 16) : ai_op 9 (x : Int) (j : Int) = ((x / 2 ^ j : Nat) : Int) := by
  show ((Int32.ofInt (x : Int)).toBitVec.sshiftRight' ((Int32.ofInt (Int.ofNat j) &&& 31).toBitVec.smod 32)).toInt = _
  rw [wq_sm j hj, BitVec.sshiftRight_eq', BitVec.toInt_sshiftRight, wq_ti (wq_bv hx) hx, BitVec.toNat_ofNat, Nat.mod_eq_of_lt (by omega), Int.shiftRight_eq_div_pow]
  exact (Int.natCast_ediv x (2 ^ j)).symm
theorem wq_o8 {x j : Nat} (hx : x < 4096) (hj : j < 16) : ai_op 8 (x : Int) (j : Int) = ((x * 2 ^ j : Nat) : Int) := by
  have b : x * 2 ^ j < 2147483648 := by
    have h1 : 2 ^ j ≤ 2 ^ 15 := Nat.pow_le_pow_right (by omega) (by omega)
    have h2 : x * 2 ^ j ≤ 4095 * 2 ^ 15 := Nat.mul_le_mul (by omega) h1
    omega
  show ((Int32.ofInt (x : Int)).toBitVec <<< ((Int32.ofInt (Int.ofNat j) &&& 31).toBitVec.smod 32)).toInt = _
  refine wq_ti ?_ b
  rw [wq_sm j hj, BitVec.shiftLeft_eq', BitVec.toNat_shiftLeft, wq_bv (by omega), BitVec.toNat_ofNat, Nat.mod_eq_of_lt (a := j) (by omega), Nat.shiftLeft_eq, Nat.mod_eq_of_lt (by omega)]
theorem wq_o0 {x y : Int} (h1 : -2147483648 ≤ x + y) (h2 : x + y < 2147483648) : ai_op 0 x y = x + y := Int.bmod_eq_of_le (by omega) (by omega)
theorem wq_o1 {x y : Int} (h1 : -2147483648 ≤ x - y) (h2 : x - y < 2147483648) : ai_op 1 x y = x - y := Int.bmod_eq_of_le (by omega) (by omega)
/-- a bit -/
theorem wq_bit {x j : Nat} (hx : x < 2147483648) (hj : j < 16) : ai_op 5 (ai_op 9 (x : Int) (j : Int)) 1 = if x.testBit j then 1 else 0 := by
  rw [wq_o9 hx hj]
  have d : x / 2 ^ j < 2147483648 := Nat.lt_of_le_of_lt (Nat.div_le_self _ _) hx
  have := wq_o5 (y := 1) d (by omega)
  refine Eq.trans this ?_
  rw [Nat.and_one_is_mod, Nat.testBit_eq_decide_div_mod_eq]
  rcases Nat.mod_two_eq_zero_or_one (x / 2 ^ j) with e | e
  · rw [e]
    rfl
  · rw [e]
    rfl
