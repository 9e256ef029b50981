/-! PURE TRANSITIONS (1): expressions of numbers, ends of a segment as guarded updates of a state's numbers -/
noncomputable def pt_s1 (r : Nat → Int) (st : List Int) (q : Nat × Nat × Int) : List Int := match q.1 with
  | 0 => r q.2.1 :: st
  | 1 => q.2.2 :: st
  | 2 => (match st with
    | b :: a :: st => ai_op q.2.1 a b :: st
    | _ => [])
  | _ => (match st with
    | a :: st => (a + q.2.2) :: st
    | [] => [])
noncomputable def pt_hd (st : List Int) : Int := match st with
  | x :: _ => x
  | [] => 0
/-- an expression's number: (0, t, _) a symbol, (1, _, c) a number, (2, o, _) an operation, (3, _, c) so much more -/
noncomputable def pt_v (r : Nat → Int) (l : List (Nat × Nat × Int)) : Int := pt_hd (l.foldl (pt_s1 r) [])
noncomputable def pt_x1 (N : Nat) (E : ai_E) (o : Option (List ai_X)) (q : Nat × Nat × Int) : Option (List ai_X) := match o with
  | none => none
  | some st => match q.1 with
    | 0 => (match Nat.blt q.2.1 N with
      | true => some ((q.2.1, 0) :: st)
      | false => none)
    | 1 => some ((0, q.2.2) :: st)
    | 2 => (match st with
      | y :: x :: st => (match ai_find q.2.1 x y E.2.2 with
        | some t => some ((t, 0) :: st)
        | none => none)
      | _ => none)
    | _ => (match st with
      | x :: st => some ((x.1, x.2 + q.2.2) :: st)
      | [] => none)
noncomputable def pt_x (N : Nat) (E : ai_E) (l : List (Nat × Nat × Int)) : Option ai_X := match l.foldl (pt_x1 N E) (some []) with
  | some (x :: _) => some x
  | _ => none
/-- updates -/
noncomputable def pt_up (r : Nat → Int) : List (Nat × List (Nat × Nat × Int)) → Nat → Int
  | [], t => r t
  | q :: W, t => if t = q.1 then pt_v r q.2 else pt_up r W t
noncomputable def pt_ws (N : Nat) (E : ai_E) : List (Nat × List (Nat × Nat × Int)) → Option (List (Nat × ai_X))
  | [] => some []
  | q :: W => match pt_x N E q.2 with
    | none => none
    | some x => match pt_ws N E W with
      | none => none
      | some l => some ((q.1, x) :: l)
/-- a guard: (0, a, b): a is at most b; else a is not b -/
noncomputable def pt_g (r : Nat → Int) (g : Nat × List (Nat × Nat × Int) × List (Nat × Nat × Int)) : Prop := match g.1 with
  | 0 => pt_v r g.2.1 ≤ pt_v r g.2.2
  | _ => pt_v r g.2.1 ≠ pt_v r g.2.2
noncomputable def pt_gc (N : Nat) (E : ai_E) (g : Nat × List (Nat × Nat × Int) × List (Nat × Nat × Int)) : Bool := match pt_x N E g.2.1 with
  | none => false
  | some x => match pt_x N E g.2.2 with
    | none => false
    | some y => match g.1 with
      | 0 => ai_lef x y 0 E.2.2 || (Nat.blt x.1 E.1 && (Nat.blt y.1 E.1 && ai_le (ai_iv E x).2 (ai_iv E y).1))
      | _ => ai_nef x y E.2.2
section PTA
variable {r r' : Nat → Int} {E : ai_E} {N : Nat}
theorem pt_find (hE : ai_gE r E) {o : Nat} {x y : ai_X} {t : Nat} (h : ai_find o x y E.2.2 = some t) : ai_vx r (t, 0) = ai_op o (ai_vx r x) (ai_vx r y) := by
  have := (hE.2.2.2.2 _ (ai_find_ok h)).2.2.2
  show r t + 0 = _
  rw [Int.add_zero]
  exact this
theorem pt_fold_none (l : List (Nat × Nat × Int)) : l.foldl (pt_x1 N E) none = none := by
  induction l with
  | nil => rfl
  | cons q l ih => exact ih
theorem pt_x1_ok (hE : ai_gE r' E) (hx : ai_ext N r r') {st st2 : List ai_X} {q : Nat × Nat × Int} (h : pt_x1 N E (some st) q = some st2) : pt_s1 r (st.map (ai_vx r')) q = st2.map (ai_vx r') := by
  obtain ⟨k, t, c⟩ := q
  match k, h with
  | 0, h =>
    have h : (match Nat.blt t N with
      | true => some ((t, 0) :: st)
      | false => none) = some st2 := h
    cases e : Nat.blt t N with
    | false =>
      rw [e] at h
      cases h
    | true =>
      rw [e] at h
      cases h
      show r t :: st.map (ai_vx r') = (r' t + 0) :: st.map (ai_vx r')
      rw [Int.add_zero, hx t (Nat.le_of_ble_eq_true e)]
  | 1, h =>
    have h : some (((0, c) : ai_X) :: st) = some st2 := h
    cases h
    show c :: st.map (ai_vx r') = (r' 0 + c) :: st.map (ai_vx r')
    rw [hE.1, Int.zero_add]
  | 2, h =>
    match st, h with
    | [], h => cases h
    | [x], h => cases h
    | y :: x :: st, h =>
      have h : (match ai_find t x y E.2.2 with
        | some t => some (((t, 0) : ai_X) :: st)
        | none => none) = some st2 := h
      cases e : ai_find t x y E.2.2 with
      | none =>
        rw [e] at h
        cases h
      | some u =>
        rw [e] at h
        cases h
        show ai_op t (ai_vx r' x) (ai_vx r' y) :: st.map (ai_vx r') = ai_vx r' (u, 0) :: st.map (ai_vx r')
        rw [pt_find hE e]
  | k + 3, h =>
    match st, h with
    | [], h => cases h
    | x :: st, h =>
      have h : some (((x.1, x.2 + c) : ai_X) :: st) = some st2 := h
      cases h
      show (r' x.1 + x.2 + c) :: st.map (ai_vx r') = (r' x.1 + (x.2 + c)) :: st.map (ai_vx r')
      rw [Int.add_assoc]
theorem pt_fold_ok (hE : ai_gE r' E) (hx : ai_ext N r r') : ∀ (l : List (Nat × Nat × Int)) (st st2 : List ai_X), l.foldl (pt_x1 N E) (some st) = some st2 → l.foldl (pt_s1 r) (st.map (ai_vx r')) = st2.map (ai_vx r')
  | [], st, st2, h => by
    cases h
    rfl
  | q :: l, st, st2, h => by
    have h : l.foldl (pt_x1 N E) (pt_x1 N E (some st) q) = some st2 := h
    show l.foldl (pt_s1 r) (pt_s1 r (st.map (ai_vx r')) q) = _
    cases e : pt_x1 N E (some st) q with
    | none =>
      rw [e, pt_fold_none] at h
      cases h
    | some s1 =>
      rw [e] at h
      rw [pt_x1_ok hE hx e]
      exact pt_fold_ok hE hx l s1 st2 h
theorem pt_x_ok (hE : ai_gE r' E) (hx : ai_ext N r r') {l : List (Nat × Nat × Int)} {x : ai_X} (h : pt_x N E l = some x) : pt_v r l = ai_vx r' x := by
  unfold pt_x at h
  split at h
  · rename_i y st e
    cases h
    have g := pt_fold_ok hE hx l [] _ e
    have g : l.foldl (pt_s1 r) [] = (x :: st).map (ai_vx r') := g
    unfold pt_v
    rw [g]
    rfl
  · cases h
theorem pt_ws_ok (hE : ai_gE r' E) (hx : ai_ext N r r') : ∀ {Wr : List (Nat × List (Nat × Nat × Int))} {W : List (Nat × ai_X)}, pt_ws N E Wr = some W → ∀ t, t < N → pt_up r Wr t = cx_r r' W t
  | [], W, h, t, ht => by
    cases h
    show r t = r' t
    rw [hx t ht]
  | q :: Wr, W, h, t, ht => by
    unfold pt_ws at h
    split at h
    · cases h
    · rename_i x ex
      split at h
      · cases h
      · rename_i l el
        cases h
        have ih := pt_ws_ok hE hx el t ht
        unfold pt_up cx_r
        unfold cx_r at ih
        rw [ai_ylook_c]
        by_cases e : t = q.1
        · subst e
          rw [Nat.beq_refl, if_pos rfl, pt_x_ok hE hx ex]
        · rw [if_neg e]
          have e2 : Nat.beq q.1 t = false := by
            cases eb : Nat.beq q.1 t with
            | false => rfl
            | true => exact absurd (Nat.eq_of_beq_eq_true eb).symm e
          rw [e2]
          exact ih
theorem pt_gc_ok (hE : ai_gE r' E) (hx : ai_ext N r r') {g : Nat × List (Nat × Nat × Int) × List (Nat × Nat × Int)} (h : pt_gc N E g = true) : pt_g r g := by
  obtain ⟨k, a, b⟩ := g
  unfold pt_gc at h
  split at h
  · cases h
  · rename_i x ex
    split at h
    · cases h
    · rename_i y ey
      have e1 := pt_x_ok hE hx ex
      have e2 := pt_x_ok hE hx ey
      match k, h with
      | 0, h =>
        have h : (ai_lef x y 0 E.2.2 || (Nat.blt x.1 E.1 && (Nat.blt y.1 E.1 && ai_le (ai_iv E x).2 (ai_iv E y).1))) = true := h
        show pt_v r a ≤ pt_v r b
        have e1 : pt_v r a = ai_vx r' x := e1
        have e2 : pt_v r b = ai_vx r' y := e2
        rw [Bool.or_eq_true] at h
        rw [e1, e2]
        rcases h with h | h
        · have := cy_lef hE h
          omega
        · simp only [Bool.and_eq_true] at h
          obtain ⟨h1, h2, h3⟩ := h
          have b1 := (ai_iv_ok hE (Nat.le_of_ble_eq_true h1)).2
          have b2 := (ai_iv_ok hE (Nat.le_of_ble_eq_true h2)).1
          have b3 := ai_le_iff.mp h3
          omega
      | k + 1, h =>
        have h : ai_nef x y E.2.2 = true := h
        show pt_v r a ≠ pt_v r b
        have e1 : pt_v r a = ai_vx r' x := e1
        have e2 : pt_v r b = ai_vx r' y := e2
        rw [e1, e2]
        exact ai_nef_ok hE.1 (cy_ds hE) h
end PTA
