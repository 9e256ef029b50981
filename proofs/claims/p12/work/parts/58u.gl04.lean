/-! GLUE (6): a system's array out of the world's, and back -/
section GLF
variable {tyc : Nat → ClassId} {ad : Nat → Nat} {N2 : Nat} {r r2 : Nat → Int} {c : Nat → Nat → Int} {p : Nat → Bool} {X : List (Nat × Nat × Nat)} {lo hi lo2 hi2 : Int}
theorem gl_rng {v : Int} {j : Nat} : ∀ {l : List (ai_X × ai_X)}, (∀ q ∈ l, lo ≤ ai_vx r q.2 ∧ ai_vx r q.2 ≤ hi) → ai_ov r lo hi l j v → lo ≤ v ∧ v ≤ hi
  | [], _, g => g
  | (i, x) :: l, h, g => by
    by_cases e : ai_vx r i = (j : Int)
    · rw [g.1 e]
      exact h _ List.mem_cons_self
    · exact gl_rng (fun q hq => h q (List.mem_cons_of_mem _ hq)) (g.2 e)
theorem gl_arr {q ty m : Nat} {l l2 : List (ai_X × ai_X)} {x : va_E} (h0 : r 0 = 0) (h02 : r2 0 = 0) (hN : 0 < N2) (hl : ∀ y ∈ l, y.1.1 = 0) (hp : ∀ t, p t = true → r2 t = r t) (hX : ∀ z ∈ X, r2 z.1 = c z.2.1 z.2.2) (g : ∀ j, j < m → ai_ov r lo hi l j (c q j)) (gx : ∀ (r2 : Nat → Int) (N2 : Nat) (lo2 hi2 : Int) (l2 : List (ai_X × ai_X)), (∀ z ∈ l2, z.1.1 < N2 ∧ z.2.1 < N2) → (∀ j, j < m → ai_ov r2 lo2 hi2 l2 j (c q j)) → ai_gC tyc r2 ad N2 336 (.inr (.inl (ty, m, lo2, hi2, l2))) x) (hck : ∀ z ∈ l2, gl_aq p X q l z = true) (hlt : ∀ z ∈ l2, z.2.1 < N2) (hb : ∀ j, j < m → lo2 ≤ c q j ∧ c q j ≤ hi2) : ai_gC tyc r2 ad N2 336 (.inr (.inl (ty, m, lo2, hi2, l2))) x := by
  have z0 : ∀ z ∈ l2, z.1.1 = 0 := fun z hz => by
    have w := hck z hz
    unfold gl_aq at w
    simp only [Bool.and_eq_true] at w
    exact Nat.eq_of_beq_eq_true w.1.1
  refine gx r2 N2 lo2 hi2 l2 (fun z hz => ⟨by rw [z0 z hz]; exact hN, hlt z hz⟩) (fun j hj => gl_ov h02 z0 (fun z hz e => gl_aq_ok h0 hl hp hX (hck z hz) e (g j hj)) (hb j hj))
end GLF
