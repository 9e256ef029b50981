/-! WAY: acts -/
noncomputable def wq_ok (r : Nat → Int) : Prop := (∀ k, k < 16 → 0 ≤ r (171 + k) ∧ r (171 + k) ≤ 9) ∧ (∀ k, k < 16 → 0 ≤ r (187 + k) ∧ r (187 + k) ≤ 7) ∧ (∀ m, m < 4 → (0 ≤ r (147 + m) ∧ r (147 + m) ≤ 7) ∧ (0 ≤ r (375 + m) ∧ r (375 + m) ≤ 7) ∧ (0 ≤ r (135 + m) ∧ r (135 + m) ≤ 3) ∧ (0 ≤ r (371 + m) ∧ r (371 + m) ≤ 1) ∧ 0 ≤ r (139 + m) ∧ r (139 + m) ≤ 3) ∧ (∀ l, l < 5 → (0 ≤ r (115 + l) ∧ r (115 + l) ≤ 3) ∧ 0 ≤ r (120 + l) ∧ r (120 + l) ≤ 3) ∧ (0 ≤ r 73 ∧ r 73 ≤ 4) ∧ (0 ≤ r 75 ∧ r 75 ≤ 4) ∧ 0 ≤ r 74 ∧ r 74 ≤ 5
theorem wq_ok_c {r r2 : Nat → Int} (h : ∀ t, (t = 73 ∨ t = 74 ∨ t = 75 ∨ (115 ≤ t ∧ t < 125) ∨ (135 ≤ t ∧ t < 139) ∨ (139 ≤ t ∧ t < 143) ∨ (147 ≤ t ∧ t < 151) ∨ (171 ≤ t ∧ t < 203) ∨ (371 ≤ t ∧ t < 379)) → r2 t = r t) (o : wq_ok r) : wq_ok r2 := by
  obtain ⟨o1, o2, o3, o4, o5, o6, o7⟩ := o
  refine ⟨fun k hk => by rw [h _ (by omega)]; exact o1 k hk, fun k hk => by rw [h _ (by omega)]; exact o2 k hk, fun m hm => by rw [h (147 + m) (by omega), h (375 + m) (by omega), h (135 + m) (by omega), h (371 + m) (by omega), h (139 + m) (by omega)]; exact o3 m hm, fun l hl => by rw [h (115 + l) (by omega), h (120 + l) (by omega)]; exact o4 l hl, ?_, ?_, ?_⟩
  · rw [h 73 (by omega)]
    exact o5
  · rw [h 75 (by omega)]
    exact o6
  · rw [h 74 (by omega)]
    exact o7
theorem wq_rc_b {r : Nat → Int} (o : wq_ok r) {q m : Nat} (hq : q < 4) (hm : m < 4) : 0 ≤ wq_rc r q m ∧ wq_rc r q m ≤ 7 := by
  have a := (o.2.2.1 m hm).1
  unfold wq_rc
  split
  · have b := o.2.1 (4 * m + q) (by omega)
    have e : ai_op 12 (r (147 + m)) (r (187 + (4 * m + q))) = r (147 + m) ∨ ai_op 12 (r (147 + m)) (r (187 + (4 * m + q))) = r (187 + (4 * m + q)) := by
      show ai_min _ _ = _ ∨ ai_min _ _ = _
      unfold ai_min
      cases ai_le (r (147 + m)) (r (187 + (4 * m + q)))
      · exact Or.inr rfl
      · exact Or.inl rfl
    rcases e with e | e <;> (rw [e]; omega)
  · exact a
theorem wq_R_b {r : Nat → Int} (o : wq_ok r) {q x y : Nat} (hq : q < 4) : ∀ {m : Nat}, m ≤ 4 → 0 ≤ wq_R r q x y m ∧ wq_R r q x y m ≤ 7 * m
  | 0, _ => ⟨Int.le_refl _, Int.le_refl _⟩
  | m + 1, hm => by
    have a := wq_R_b o (x := x) (y := y) hq (m := m) (by omega)
    have b := wq_rc_b o (m := m) hq (by omega)
    unfold wq_R
    split
    · rw [wq_o0 (by omega) (by omega)]
      omega
    · omega
theorem wq_S_b {r : Nat → Int} (o : wq_ok r) {q x y : Nat} (hq : q < 4) : ∀ {m : Nat}, m ≤ 4 → 0 ≤ wq_S r q x y m ∧ wq_S r q x y m ≤ 9 * m
  | 0, _ => ⟨Int.le_refl _, Int.le_refl _⟩
  | m + 1, hm => by
    have a := wq_S_b o (x := x) (y := y) hq (m := m) (by omega)
    have b := o.1 (4 * m + q) (by omega)
    unfold wq_S
    split
    · rw [wq_o0 (by omega) (by omega)]
      omega
    · omega
theorem wq_R_x {r : Nat → Int} {q a b x y : Nat} (h : ∀ j, j < 4 → x.testBit (a + j) = y.testBit (b + j)) : ∀ {m : Nat}, m ≤ 4 → wq_R r q a x m = wq_R r q b y m
  | 0, _ => rfl
  | m + 1, hm => by
    unfold wq_R
    rw [wq_R_x h (by omega), h m (by omega)]
theorem wq_S_x {r : Nat → Int} {q a b x y : Nat} (h : ∀ j, j < 4 → x.testBit (a + j) = y.testBit (b + j)) : ∀ {m : Nat}, m ≤ 4 → wq_S r q a x m = wq_S r q b y m
  | 0, _ => rfl
  | m + 1, hm => by
    unfold wq_S
    rw [wq_S_x h (by omega), h m (by omega)]
/-- bits of a state's parts -/
theorem wq_t15 {x j : Nat} (hj : j < 4) : (x &&& 15).testBit j = x.testBit j := by
  have e : (15 : Nat).testBit j = true := by
    match j, hj with
    | 0, _ => rfl
    | 1, _ => rfl
    | 2, _ => rfl
    | 3, _ => rfl
  rw [Nat.testBit_and, e, Bool.and_true]
theorem wq_tdv {x i j : Nat} : (x / 2 ^ i).testBit j = x.testBit (i + j) := by
  rw [Nat.testBit_div_two_pow]
  exact congrArg _ (Nat.add_comm _ _)
theorem wq_ton {x j : Nat} (hj : j < 4) : (x / 2 ^ 4 &&& 15).testBit (0 + j) = x.testBit (4 + j) := by
  rw [Nat.zero_add, wq_t15 hj, wq_tdv]
theorem wq_tsv {x j : Nat} : (x / 2 ^ 8).testBit (0 + j) = x.testBit (8 + j) := by
  rw [Nat.zero_add, wq_tdv]
theorem wq_tsp {x p j : Nat} : (x / 2 ^ 8 ||| 2 ^ p).testBit (0 + j) = (x ||| 2 ^ (8 + p)).testBit (8 + j) := by
  rw [Nat.zero_add, Nat.testBit_or, Nat.testBit_or, wq_tdv, Nat.testBit_two_pow, Nat.testBit_two_pow]
  have : decide (p = j) = decide (8 + p = 8 + j) := by
    by_cases h : p = j
    · rw [h]
      simp
    · rw [decide_eq_false h, decide_eq_false (by omega)]
  rw [this]
/-- an act: the state behind it -/
noncomputable def wq_T (r : Nat → Int) (q s a : Nat) : Option Nat :=
  if a < 4 then (if r 75 ≤ (a : Int) then none else if s.testBit (4 + a) = true then none else if r (371 + a) = 0 ∧ ¬ (s.testBit (r (135 + a)).toNat = true ∧ wq_S r q 8 s (r 73).toNat + r (375 + a) ≤ wq_R r q 4 s (r 75).toNat) then none else some (s ||| 2 ^ (4 + a) ||| 2 ^ (r (135 + a)).toNat))
  else if a < 9 then (if r 74 ≤ ((a - 4 : Nat) : Int) then none else if s.testBit (r (115 + (a - 4))).toNat = s.testBit (r (120 + (a - 4))).toNat then none else some (s ||| 2 ^ (r (115 + (a - 4))).toNat ||| 2 ^ (r (120 + (a - 4))).toNat))
  else (if r 73 ≤ ((a - 9 : Nat) : Int) then none else if ¬ s.testBit (a - 9) = true then none else if s.testBit (8 + (a - 9)) = true then none else if wq_R r q 4 s (r 75).toNat < wq_S r q 8 (s ||| 2 ^ (8 + (a - 9))) (r 73).toNat then none else some (s ||| 2 ^ (8 + (a - 9))))
noncomputable def wq_To : Option Nat → Int
  | none => -1
  | some t => (t : Int)
theorem wq_T_c {r r2 : Nat → Int} (h : ∀ t, (t = 73 ∨ t = 74 ∨ t = 75 ∨ (115 ≤ t ∧ t < 125) ∨ (135 ≤ t ∧ t < 139) ∨ (139 ≤ t ∧ t < 143) ∨ (147 ≤ t ∧ t < 151) ∨ (171 ≤ t ∧ t < 203) ∨ (371 ≤ t ∧ t < 379)) → r2 t = r t) {q s a : Nat} (hq : q < 4) (ha : a < 13) (o : wq_ok r) : wq_T r2 q s a = wq_T r q s a := by
  obtain ⟨-, -, -, -, o5, o6, -⟩ := o
  have e1 : r2 75 = r 75 := h _ (by omega)
  have e2 : r2 73 = r 73 := h _ (by omega)
  have e3 : r2 74 = r 74 := h _ (by omega)
  unfold wq_T
  by_cases c : a < 4
  · rw [if_pos c, if_pos c, e1, e2, h (371 + a) (by omega), h (135 + a) (by omega), h (375 + a) (by omega), wq_R_c h hq (by omega), wq_S_c h hq (by omega)]
  · rw [if_neg c, if_neg c]
    by_cases c2 : a < 9
    · rw [if_pos c2, if_pos c2, e3, h (115 + (a - 4)) (by omega), h (120 + (a - 4)) (by omega)]
    · rw [if_neg c2, if_neg c2, e1, e2, wq_R_c h hq (by omega), wq_S_c h hq (by omega)]
