/-! LAW GLUE (2): stacks, locals, bounds -/
noncomputable def gq_sx (AL : List (Nat × ai_X)) (a b : ai_V) : Bool := match b with
  | .inl y => (match a with
    | .inl x => ai_eq y.2 0 && AL.any (fun q => Nat.beq q.1 y.1 && cx_q q.2 x)
    | _ => false)
  | .inr (.inl _) => false
  | .inr (.inr none) => true
  | .inr (.inr (some none)) => (match a with
    | .inr (.inr (some none)) => true
    | _ => false)
  | .inr (.inr (some (some q))) => (match a with
    | .inr (.inr (some (some z))) => Nat.beq z q
    | _ => false)
noncomputable def gq_ss (AL : List (Nat × ai_X)) : List ai_V → List ai_V → Bool
  | [], [] => true
  | a :: S, b :: S2 => gq_sx AL a b && gq_ss AL S S2
  | _, _ => false
noncomputable def gq_lo (l : List Nat) (L : List ai_V) : Bool := L.all (gl_cV (fun t => l.elem t))
section GQD
variable {r r2 : Nat → Int} {ad : Nat → Nat} {N N2 : Nat} {AL : List (Nat × ai_X)}
theorem gq_sx_ok (hA : ∀ q ∈ AL, q.1 < N2 ∧ r2 q.1 = ai_vx r q.2) {a b : ai_V} {v : Value} (h : gq_sx AL a b = true) (g : ai_gV r ad N 336 a v) : ai_gV r2 ad N2 336 b v := by
  rcases b with y | y | _ | _ | q
  · rcases a with x | x | _ | _ | q
    · have h : (ai_eq y.2 0 && AL.any (fun q => Nat.beq q.1 y.1 && cx_q q.2 x)) = true := h
      rw [Bool.and_eq_true] at h
      obtain ⟨h1, h2⟩ := h
      obtain ⟨q, hq, w⟩ := List.any_eq_true.mp h2
      rw [Bool.and_eq_true] at w
      have w1 := Nat.eq_of_beq_eq_true w.1
      have w2 := cx_q_ok w.2
      obtain ⟨a1, a2⟩ := hA q hq
      obtain ⟨g1, i, g2, g3⟩ := g
      refine ⟨by rw [← w1]; exact a1, i, g2, ?_⟩
      show i.toInt = r2 y.1 + y.2
      rw [ai_eq_iff.mp h1, Int.add_zero, ← w1, a2, w2, g3]
    · cases h
    · cases h
    · cases h
    · cases h
  · cases h
  · trivial
  · rcases a with x | x | _ | _ | z
    · cases h
    · cases h
    · cases h
    · exact g
    · cases h
  · rcases a with x | x | _ | _ | z
    · cases h
    · cases h
    · cases h
    · cases h
    · have h : Nat.beq z q = true := h
      rw [← Nat.eq_of_beq_eq_true h]
      exact g
theorem gq_ss_ok (hA : ∀ q ∈ AL, q.1 < N2 ∧ r2 q.1 = ai_vx r q.2) : ∀ {S S2 : List ai_V} {st : List Value}, gq_ss AL S S2 = true → ai_gF r ad N 336 S st → ai_gF r2 ad N2 336 S2 st
  | [], [], [], _, _ => trivial
  | [], [], _ :: _, _, g => g.elim
  | [], _ :: _, _, h, _ => by cases h
  | _ :: _, [], _, h, _ => by cases h
  | _ :: _, _ :: _, [], _, g => g.elim
  | _ :: _, _ :: _, _ :: _, h, g => by
    unfold gq_ss at h
    rw [Bool.and_eq_true] at h
    exact ⟨gq_sx_ok hA h.1 g.1, gq_ss_ok hA h.2 g.2⟩
theorem gq_lo_ok {l : List Nat} {L : List ai_V} {ls : Array Slot} {nL : Nat} (h : gq_lo l L = true) (e : ∀ t, t ∈ l → t < N2 ∧ r2 t = r t) (g : ai_gL r ad N 336 nL L ls) : ai_gL r2 ad N2 336 nL L ls := by
  obtain ⟨g1, g2, g3, g4⟩ := g
  refine ⟨g1, g2, g3, fun i hi => ?_⟩
  obtain ⟨v, v1, v2⟩ := g4 i hi
  have w : ∀ {L : List ai_V} {i : Nat}, L.all (gl_cV (fun t => l.elem t)) = true → ai_lget L i ≠ .inr (.inr none) → gl_cV (fun t => l.elem t) (ai_lget L i) = true := by
    intro L
    induction L with
    | nil =>
      intro i _ hi
      cases i <;> exact absurd rfl hi
    | cons a L ih =>
      intro i ha hi
      rw [List.all_cons, Bool.and_eq_true] at ha
      cases i with
      | zero => exact ha.1
      | succ i => exact ih ha.2 hi
  exact ⟨v, v1, gl_gV (gl_cV_ok (w h hi) (fun t ht => e t (List.elem_iff.mp ht))) v2⟩
end GQD
