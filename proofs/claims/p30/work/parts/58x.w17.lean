/-! WAY: class and reference tell the same acts of a state whose places are there -/
noncomputable def wq_V (r : Nat → Int) (s : Nat) : Prop := ∀ j : Nat, j < 4 → r 73 ≤ (j : Int) → s.testBit j = false ∧ s.testBit (8 + j) = false
noncomputable def wq_pl (r : Nat → Int) : Prop := (∀ m, m < 4 → r (135 + m) + 1 ≤ r 73) ∧ ∀ l, l < 5 → r (115 + l) + 1 ≤ r 73 ∧ r (120 + l) + 1 ≤ r 73
theorem wq_tb {s x j : Nat} : (s ||| 2 ^ x).testBit j = (s.testBit j || decide (x = j)) := by
  rw [Nat.testBit_or, Nat.testBit_two_pow]
theorem wq_lt {s t j : Nat} (hle : s ≤ t) (h1 : s.testBit j = false) (h2 : t.testBit j = true) : s < t := by
  rcases Nat.lt_or_ge s t with w | w
  · exact w
  · have : s = t := by omega
    rw [this, h2] at h1
    cases h1
theorem wq_Tmill {r : Nat → Int} {q s a t : Nat} (ha : a < 4) (h : wq_T r q s a = some t) : s.testBit (4 + a) = false ∧ t = s ||| 2 ^ (4 + a) ||| 2 ^ (r (135 + a)).toNat := by
  unfold wq_T at h
  rw [if_pos ha] at h
  split at h
  · cases h
  · split at h
    · cases h
    · rename_i b
      split at h
      · cases h
      · cases h
        exact ⟨by cases e : s.testBit (4 + a) with
          | false => rfl
          | true => exact absurd e b, rfl⟩
theorem wq_Tline {r : Nat → Int} {q s l t : Nat} (hl : l < 5) (h : wq_T r q s (4 + l) = some t) : s.testBit (r (115 + l)).toNat ≠ s.testBit (r (120 + l)).toNat ∧ t = s ||| 2 ^ (r (115 + l)).toNat ||| 2 ^ (r (120 + l)).toNat := by
  unfold wq_T at h
  rw [if_neg (by omega), if_pos (by omega), show 4 + l - 4 = l by omega] at h
  split at h
  · cases h
  · split at h
    · cases h
    · rename_i b
      cases h
      exact ⟨b, rfl⟩
theorem wq_Tload {r : Nat → Int} {q s p t : Nat} (h : wq_T r q s (9 + p) = some t) : (p : Int) < r 73 ∧ s.testBit (8 + p) = false ∧ t = s ||| 2 ^ (8 + p) := by
  unfold wq_T at h
  rw [if_neg (by omega), if_neg (by omega), show 9 + p - 9 = p by omega] at h
  split at h
  · cases h
  · split at h
    · cases h
    · split at h
      · cases h
      · rename_i b1 b2 b3
        split at h
        · cases h
        · cases h
          exact ⟨by omega, by cases e : s.testBit (8 + p) with
            | false => rfl
            | true => exact absurd e b3, rfl⟩
theorem wq_wm {r : Nat → Int} {q : Nat} (o : wq_ok r) (pl : wq_pl r) : wm_T (wq_T r q) (wq_V r) := by
  refine ⟨fun j _ _ => ⟨Nat.zero_testBit _, Nat.zero_testBit _⟩, fun s a t hs ha h => ?_⟩
  by_cases c : a < 4
  · obtain ⟨b, rfl⟩ := wq_Tmill c h
    have op := (o.2.2.1 a c).2.2.1
    have pp := pl.1 a c
    obtain ⟨p, ep⟩ : ∃ p : Nat, r (135 + a) = (p : Int) := ⟨(r (135 + a)).toNat, by omega⟩
    rw [ep]
    show s < s ||| 2 ^ (4 + a) ||| 2 ^ p ∧ s ||| 2 ^ (4 + a) ||| 2 ^ p < 4096 ∧ _
    have p1 := wq_p2 (j := 4 + a) (by omega)
    have p2 := wq_p2 (j := p) (by omega)
    refine ⟨wq_lt (j := 4 + a) (Nat.le_trans Nat.left_le_or Nat.left_le_or) b ?_, wq_or (wq_or hs p1) p2, fun v j hj hj2 => ?_⟩
    · rw [wq_tb, wq_tb, b]
      simp
    · obtain ⟨v1, v2⟩ := v j hj hj2
      constructor
      · show (s ||| 2 ^ (4 + a) ||| 2 ^ p).testBit j = false
        rw [wq_tb, wq_tb, v1, decide_eq_false (by omega), decide_eq_false (by omega)]
        rfl
      · show (s ||| 2 ^ (4 + a) ||| 2 ^ p).testBit (8 + j) = false
        rw [wq_tb, wq_tb, v2, decide_eq_false (by omega), decide_eq_false (by omega)]
        rfl
  · by_cases c2 : a < 9
    · obtain ⟨l, rfl⟩ : ∃ l, a = 4 + l := ⟨a - 4, by omega⟩
      have hl : l < 5 := by omega
      obtain ⟨b, rfl⟩ := wq_Tline hl h
      obtain ⟨of', ot⟩ := o.2.2.2.1 l hl
      obtain ⟨px, py⟩ := pl.2 l hl
      obtain ⟨x, ex⟩ : ∃ x : Nat, r (115 + l) = (x : Int) := ⟨(r (115 + l)).toNat, by omega⟩
      obtain ⟨y, ey⟩ : ∃ y : Nat, r (120 + l) = (y : Int) := ⟨(r (120 + l)).toNat, by omega⟩
      rw [ex, ey] at b ⊢
      have b : s.testBit x ≠ s.testBit y := b
      show s < s ||| 2 ^ x ||| 2 ^ y ∧ s ||| 2 ^ x ||| 2 ^ y < 4096 ∧ _
      have p1 := wq_p2 (j := x) (by omega)
      have p2 := wq_p2 (j := y) (by omega)
      have le := Nat.le_trans (Nat.left_le_or (n := s) (m := 2 ^ x)) (Nat.left_le_or (m := 2 ^ y))
      refine ⟨?_, wq_or (wq_or hs p1) p2, fun v j hj hj2 => ?_⟩
      · cases e : s.testBit x with
        | false => exact wq_lt (j := x) le e (by rw [wq_tb, wq_tb, e]; simp)
        | true =>
          have e2 : s.testBit y = false := by
            cases e2 : s.testBit y with
            | false => rfl
            | true => exact absurd (e.trans e2.symm) b
          exact wq_lt (j := y) le e2 (by rw [wq_tb, wq_tb, e2]; simp)
      · obtain ⟨v1, v2⟩ := v j hj hj2
        constructor
        · show (s ||| 2 ^ x ||| 2 ^ y).testBit j = false
          rw [wq_tb, wq_tb, v1, decide_eq_false (by omega), decide_eq_false (by omega)]
          rfl
        · show (s ||| 2 ^ x ||| 2 ^ y).testBit (8 + j) = false
          rw [wq_tb, wq_tb, v2, decide_eq_false (by omega), decide_eq_false (by omega)]
          rfl
    · obtain ⟨p, rfl⟩ : ∃ p, a = 9 + p := ⟨a - 9, by omega⟩
      obtain ⟨b1, b2, rfl⟩ := wq_Tload h
      have p1 := wq_p2 (j := 8 + p) (by omega)
      refine ⟨wq_lt (j := 8 + p) Nat.left_le_or b2 (by rw [wq_tb]; simp), wq_or hs p1, fun v j hj hj2 => ?_⟩
      obtain ⟨v1, v2⟩ := v j hj hj2
      constructor
      · rw [wq_tb, v1, decide_eq_false (by omega)]
        rfl
      · rw [wq_tb, v2, decide_eq_false (by omega)]
        rfl
/-- loads served: places that aren't there count for nothing -/
theorem wq_S4 {r : Nat → Int} {q s : Nat} (v : wq_V r s) : ∀ {m : Nat}, m ≤ 4 → r 73 ≤ (m : Int) → 0 ≤ r 73 → wq_S r q 8 s m = wq_S r q 8 s (r 73).toNat
  | 0, _, h, h0 => by
    rw [show (r 73).toNat = 0 by omega]
  | m + 1, hm, h, h0 => by
    by_cases e : r 73 = ((m + 1 : Nat) : Int)
    · rw [e]
      rfl
    · have h2 : r 73 ≤ (m : Int) := by omega
      have b := (v m (by omega) h2).2
      show (if s.testBit (8 + m) = true then _ else wq_S r q 8 s m) = _
      rw [b, if_neg (by decide)]
      exact wq_S4 v (by omega) h2 h0
theorem wq_Sadd {r : Nat → Int} {q s p : Nat} (o : wq_ok r) (hq : q < 4) (hp : p < 4) (b : s.testBit (8 + p) = false) : ∀ {m : Nat}, m ≤ 4 → wq_S r q 8 (s ||| 2 ^ (8 + p)) m = wq_S r q 8 s m + if p < m then r (171 + (4 * p + q)) else 0
  | 0, _ => by
    rw [if_neg (by omega)]
    rfl
  | m + 1, hm => by
    have ih := wq_Sadd o hq hp b (m := m) (by omega)
    have bS := wq_S_b o (q := q) (x := 8) (y := s) hq (m := m) (by omega)
    have bl := o.1 (4 * p + q) (by omega)
    have bm := o.1 (4 * m + q) (by omega)
    by_cases e : p = m
    · subst e
      have ih : wq_S r q 8 (s ||| 2 ^ (8 + p)) p = wq_S r q 8 s p := by
        rw [ih, if_neg (show ¬ p < p by omega), Int.add_zero]
      show (if (s ||| 2 ^ (8 + p)).testBit (8 + p) = true then ai_op 0 (wq_S r q 8 (s ||| 2 ^ (8 + p)) p) (r (171 + (4 * p + q))) else wq_S r q 8 (s ||| 2 ^ (8 + p)) p) = (if s.testBit (8 + p) = true then ai_op 0 (wq_S r q 8 s p) (r (171 + (4 * p + q))) else wq_S r q 8 s p) + if p < p + 1 then r (171 + (4 * p + q)) else 0
      rw [ih, b, if_neg (show ¬ (false = true) by decide), if_pos (show p < p + 1 by omega), if_pos (show (s ||| 2 ^ (8 + p)).testBit (8 + p) = true by rw [wq_tb]; simp), wq_o0 (by omega) (by omega)]
    · have eb : (s ||| 2 ^ (8 + p)).testBit (8 + m) = s.testBit (8 + m) := by
        rw [wq_tb, decide_eq_false (show ¬ (8 + p = 8 + m) by omega), Bool.or_false]
      show (if (s ||| 2 ^ (8 + p)).testBit (8 + m) = true then ai_op 0 (wq_S r q 8 (s ||| 2 ^ (8 + p)) m) (r (171 + (4 * m + q))) else wq_S r q 8 (s ||| 2 ^ (8 + p)) m) = (if s.testBit (8 + m) = true then ai_op 0 (wq_S r q 8 s m) (r (171 + (4 * m + q))) else wq_S r q 8 s m) + if p < m + 1 then r (171 + (4 * p + q)) else 0
      rw [eb]
      by_cases w : p < m
      · rw [if_pos w] at ih
        rw [ih, if_pos (show p < m + 1 by omega)]
        by_cases z : s.testBit (8 + m) = true
        · rw [if_pos z, if_pos z, wq_o0 (by omega) (by omega), wq_o0 (by omega) (by omega)]
          omega
        · rw [if_neg z, if_neg z]
      · rw [if_neg w, Int.add_zero] at ih
        rw [ih, if_neg (show ¬ p < m + 1 by omega), Int.add_zero]
theorem wq_UT {r : Nat → Int} {q s a : Nat} (o : wq_ok r) (hq : q < 4) (v : wq_V r s) (h4 : s < 4096) (ha : a < 13) : wq_U r q s a = (wq_T r q s a).getD s := by
  have oP := o.2.2.2.2.1
  have oM := o.2.2.2.2.2.1
  have S4 := wq_S4 (q := q) v (m := 4) (by omega) (by omega) oP.1
  unfold wq_U wq_T
  by_cases c : a < 4
  · rw [if_pos c, if_pos c]
    by_cases c1 : r 75 ≤ (a : Int)
    · rw [if_pos c1, if_pos c1]
      rfl
    · rw [if_neg c1, if_neg c1]
      unfold wq_can
      rw [S4]
      cases b : s.testBit (4 + a) with
      | true => rfl
      | false =>
        rw [if_neg (show ¬ (false = true) by decide)]
        by_cases g : r (371 + a) = 0 ∧ ¬ (s.testBit (r (135 + a)).toNat = true ∧ wq_S r q 8 s (r 73).toNat + r (375 + a) ≤ wq_R r q 4 s (r 75).toNat)
        · rw [if_pos g, if_neg (show ¬ ((!false && (!(decide (r (371 + a) = 0)) || (s.testBit (r (135 + a)).toNat && decide (r (375 + a) ≤ wq_R r q 4 s (r 75).toNat - wq_S r q 8 s (r 73).toNat)))) = true) from fun w => by
            simp only [Bool.not_false, Bool.true_and, Bool.or_eq_true, Bool.not_eq_true', decide_eq_false_iff_not, Bool.and_eq_true, decide_eq_true_eq] at w
            rcases w with w | w
            · exact w g.1
            · exact g.2 ⟨w.1, by omega⟩)]
          rfl
        · rw [if_neg g, if_pos (show (!false && (!(decide (r (371 + a) = 0)) || (s.testBit (r (135 + a)).toNat && decide (r (375 + a) ≤ wq_R r q 4 s (r 75).toNat - wq_S r q 8 s (r 73).toNat)))) = true by
            simp only [Bool.not_false, Bool.true_and, Bool.or_eq_true, Bool.not_eq_true', decide_eq_false_iff_not, Bool.and_eq_true, decide_eq_true_eq]
            by_cases e : r (371 + a) = 0
            · have X := Classical.byContradiction (fun z => g ⟨e, z⟩)
              exact Or.inr ⟨X.1, by omega⟩
            · exact Or.inl e)]
          rfl
  · rw [if_neg c, if_neg c]
    by_cases c2 : a < 9
    · rw [if_pos c2, if_pos c2]
      by_cases c1 : r 74 ≤ ((a - 4 : Nat) : Int)
      · rw [if_pos c1, if_pos c1]
        rfl
      · rw [if_neg c1, if_neg c1]
        generalize (r (115 + (a - 4))).toNat = x
        generalize (r (120 + (a - 4))).toNat = y
        have band : ∀ j, (s &&& (2 ^ x ||| 2 ^ y)).testBit j = (s.testBit j && (decide (x = j) || decide (y = j))) := fun j => by
          rw [Nat.testBit_and, Nat.testBit_or, Nat.testBit_two_pow, Nat.testBit_two_pow]
        by_cases e : s.testBit x = s.testBit y
        · rw [if_pos e]
          show _ = s
          split
          · rfl
          · rename_i w
            have bx : s.testBit x = true := by
              cases bx : s.testBit x with
              | true => rfl
              | false =>
                refine absurd (Nat.eq_of_testBit_eq (fun j => ?_)) w
                rw [band, Nat.zero_testBit]
                by_cases h1 : x = j
                · rw [← h1, bx]
                  rfl
                · by_cases h2 : y = j
                  · rw [← h2, ← e, bx]
                    rfl
                  · rw [decide_eq_false h1, decide_eq_false h2]
                    exact Bool.and_false _
            refine Nat.eq_of_testBit_eq (fun j => ?_)
            rw [Nat.testBit_or, Nat.testBit_or, Nat.testBit_two_pow, Nat.testBit_two_pow]
            by_cases h1 : x = j
            · rw [← h1, bx]
              rfl
            · by_cases h2 : y = j
              · rw [← h2, ← e, bx]
                rfl
              · rw [decide_eq_false h1, decide_eq_false h2]
                exact Bool.or_false _
        · rw [if_neg e, if_neg (fun w => ?_)]
          · exact (Nat.or_assoc _ _ _).symm
          · have b1 := congrArg (fun z => z.testBit x) w
            have b2 := congrArg (fun z => z.testBit y) w
            rw [band x, Nat.zero_testBit, decide_eq_true (show x = x from rfl), Bool.true_or, Bool.and_true] at b1
            rw [band y, Nat.zero_testBit, decide_eq_true (show y = y from rfl), Bool.or_true, Bool.and_true] at b2
            exact e (b1.trans b2.symm)
    · rw [if_neg c2, if_neg c2]
      by_cases c1 : r 73 ≤ ((a - 9 : Nat) : Int)
      · rw [if_pos c1, if_pos c1]
        rfl
      · rw [if_neg c1, if_neg c1]
        by_cases c3 : ¬ s.testBit (a - 9) = true
        · rw [if_pos c3, if_pos c3]
          rfl
        · rw [if_neg c3, if_neg c3]
          by_cases c5 : s.testBit (8 + (a - 9)) = true
          · rw [if_pos c5, if_pos c5]
            rfl
          · rw [if_neg c5, if_neg c5, S4]
            have b : s.testBit (8 + (a - 9)) = false := by
              cases e : s.testBit (8 + (a - 9)) with
              | false => rfl
              | true => exact absurd e c5
            rw [wq_Sadd o hq (by omega) b (m := (r 73).toNat) (by omega), if_pos (show a - 9 < (r 73).toNat by omega)]
            by_cases w : wq_R r q 4 s (r 75).toNat < wq_S r q 8 s (r 73).toNat + r (171 + (4 * (a - 9) + q))
            · rw [if_pos w, if_pos w]
              rfl
            · rw [if_neg w, if_neg w]
              rfl
