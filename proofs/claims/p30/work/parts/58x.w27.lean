/-! WAY: the end, as class and reference ask for it -/
noncomputable def wq_fin (r : Nat → Int) (s : Nat) : Prop := s &&& 15 = 2 ^ (r 73).toNat - 1 ∧ s / 2 ^ 8 = 2 ^ (r 73).toNat - 1
theorem wq_goal {r : Nat → Int} (o : wq_ok r) {s : Nat} (h4 : s < 4096) (v : wq_V r s) : s &&& ((2 ^ (r 73).toNat - 1) * 257) = (2 ^ (r 73).toNat - 1) * 257 ↔ wq_fin r s := by
  obtain ⟨p, ep⟩ : ∃ p : Nat, r 73 = (p : Int) := ⟨(r 73).toNat, by have := o.2.2.2.2.1; omega⟩
  have hp : p ≤ 4 := by have := o.2.2.2.2.1; omega
  unfold wq_fin
  rw [show (r 73).toNat = p by omega]
  have b15 : ∀ j, (15 : Nat).testBit j = decide (j < 4) := fun j => Nat.testBit_two_pow_sub_one 4 j
  have ball : ∀ j, (2 ^ p - 1).testBit j = decide (j < p) := fun j => Nat.testBit_two_pow_sub_one p j
  have a16 : 2 ^ p - 1 < 2 ^ 8 := by
    have := Nat.pow_le_pow_right (n := 2) (by omega) hp
    omega
  have bg : ∀ j, ((2 ^ p - 1) * 257).testBit j = (if j < 8 then decide (j < p) else decide (j - 8 < p)) := fun j => by
    rw [show (2 ^ p - 1) * 257 = 2 ^ 8 * (2 ^ p - 1) + (2 ^ p - 1) by omega, Nat.testBit_two_pow_mul_add _ a16]
    split
    · exact ball j
    · exact ball (j - 8)
  have big : ∀ j, 12 ≤ j → s.testBit j = false := fun j hj => Nat.testBit_lt_two_pow (Nat.lt_of_lt_of_le h4 (show 2 ^ 12 ≤ 2 ^ j from Nat.pow_le_pow_right (by omega) hj))
  constructor
  · intro e
    have eb : ∀ j, ((2 ^ p - 1) * 257).testBit j = true → s.testBit j = true := fun j hj => by
      have := congrArg (fun z => z.testBit j) e
      have this : (s &&& ((2 ^ p - 1) * 257)).testBit j = ((2 ^ p - 1) * 257).testBit j := this
      rw [Nat.testBit_and, hj, Bool.and_true] at this
      exact this
    constructor
    · refine Nat.eq_of_testBit_eq (fun j => ?_)
      rw [Nat.testBit_and, b15, ball]
      by_cases c : j < p
      · rw [decide_eq_true c, decide_eq_true (show j < 4 by omega), eb j (by rw [bg, if_pos (by omega), decide_eq_true c])]
        rfl
      · rw [decide_eq_false c]
        by_cases c2 : j < 4
        · rw [(v j c2 (by omega)).1]
          rfl
        · rw [decide_eq_false c2, Bool.and_false]
    · refine Nat.eq_of_testBit_eq (fun j => ?_)
      rw [wq_tdv, ball]
      by_cases c : j < p
      · rw [decide_eq_true c, eb (8 + j) (by rw [bg, if_neg (by omega), show 8 + j - 8 = j by omega, decide_eq_true c])]
      · rw [decide_eq_false c]
        by_cases c2 : j < 4
        · exact (v j c2 (by omega)).2
        · exact big _ (by omega)
  · intro e
    obtain ⟨e1, e2⟩ := e
    refine Nat.eq_of_testBit_eq (fun j => ?_)
    rw [Nat.testBit_and, bg]
    by_cases c : j < 8
    · rw [if_pos c]
      by_cases c2 : j < p
      · have := congrArg (fun z => z.testBit j) e1
        have this : (s &&& 15).testBit j = (2 ^ p - 1).testBit j := this
        rw [Nat.testBit_and, b15, ball, decide_eq_true c2, decide_eq_true (show j < 4 by omega), Bool.and_true] at this
        rw [this, decide_eq_true c2]
        rfl
      · rw [decide_eq_false c2, Bool.and_false]
    · rw [if_neg c]
      by_cases c2 : j - 8 < p
      · have := congrArg (fun z => z.testBit (j - 8)) e2
        have this : (s / 2 ^ 8).testBit (j - 8) = (2 ^ p - 1).testBit (j - 8) := this
        rw [wq_tdv, ball, decide_eq_true c2, show 8 + (j - 8) = j by omega] at this
        rw [this, decide_eq_true c2]
        rfl
      · rw [decide_eq_false c2, Bool.and_false]
