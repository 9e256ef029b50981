/-! GLUE (5): a system's cells out of the world's -/
/-- a system's array: each place told by the world's number for it or by one of the extra ones -/
noncomputable def gl_aq (p : Nat → Bool) (X : List (Nat × Nat × Nat)) (q : Nat) (l : List (ai_X × ai_X)) (z : ai_X × ai_X) : Bool := (Nat.beq z.1.1 0 && ai_eq z.2.2 0) && ((p z.2.1 && (match l.find? (fun y => ai_eq y.1.2 z.1.2) with
  | some y => Nat.beq y.1.1 0 && (Nat.beq y.2.1 z.2.1 && ai_eq y.2.2 0)
  | none => false)) || X.any (fun x => Nat.beq x.1 z.2.1 && (Nat.beq x.2.1 q && ai_eq (.ofNat x.2.2) z.1.2)))
section GLE
variable {N2 : Nat} {r r2 : Nat → Int} {c : Nat → Nat → Int} {p : Nat → Bool} {X : List (Nat × Nat × Nat)} {lo hi : Int}
theorem gl_aq_ok {q : Nat} {l : List (ai_X × ai_X)} {z : ai_X × ai_X} (h0 : r 0 = 0) (hl : ∀ y ∈ l, y.1.1 = 0) (hp : ∀ t, p t = true → r2 t = r t) (hX : ∀ x ∈ X, r2 x.1 = c x.2.1 x.2.2) (h : gl_aq p X q l z = true) {j : Nat} (hz : z.1.2 = (j : Int)) (g : ai_ov r lo hi l j (c q j)) : c q j = ai_vx r2 z.2 := by
  unfold gl_aq at h
  rw [Bool.and_eq_true, Bool.or_eq_true] at h
  obtain ⟨h1, h2⟩ := h
  rw [Bool.and_eq_true] at h1
  have e0 := ai_eq_iff.mp h1.2
  show c q j = r2 z.2.1 + z.2.2
  rw [e0, Int.add_zero]
  rcases h2 with h2 | h2
  · rw [Bool.and_eq_true] at h2
    obtain ⟨a, b⟩ := h2
    rw [hz] at b
    cases ef : l.find? (fun y => ai_eq y.1.2 (j : Int)) with
    | none =>
      rw [ef] at b
      cases b
    | some y =>
      rw [ef] at b
      simp only [Bool.and_eq_true] at b
      obtain ⟨b1, b2, b3⟩ := b
      have y1 := List.find?_some ef
      have y1 := ai_eq_iff.mp y1
      obtain ⟨⟨ya, yb⟩, yc⟩ := y
      have b1 := Nat.eq_of_beq_eq_true b1
      have b2 := Nat.eq_of_beq_eq_true b2
      have b3 := ai_eq_iff.mp b3
      subst b1
      have y1 : yb = (j : Int) := y1
      subst y1
      rw [gl_at h0 hl ef g]
      show r yc.1 + yc.2 = r2 z.2.1
      rw [show yc.2 = 0 from b3, Int.add_zero, show yc.1 = z.2.1 from b2]
      exact (hp _ a).symm
  · obtain ⟨x, hx, w⟩ := List.any_eq_true.mp h2
    simp only [Bool.and_eq_true] at w
    obtain ⟨w1, w2, w3⟩ := w
    have w1 := Nat.eq_of_beq_eq_true w1
    have w2 := Nat.eq_of_beq_eq_true w2
    have w3 := ai_eq_iff.mp w3
    rw [hz] at w3
    have w3 : ((x.2.2 : Nat) : Int) = (j : Int) := w3
    have w3 : x.2.2 = j := by omega
    rw [← w1, hX x hx, w2, w3]
end GLE
