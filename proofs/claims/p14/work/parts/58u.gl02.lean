/-! GLUE (3): what all arrays hold -/
section GLD
variable {tyc : Nat → ClassId} {ws : va_W} {N : Nat} {r : Nat → Int} {ad : Nat → Nat}
theorem gl_all {h : ai_H} (K : gl_K tyc ws r ad N h (fun _ => true)) : ∃ c : Nat → Nat → Int, ∀ (q ty m : Nat) (lo hi : Int) (l : List (ai_X × ai_X)), 16 ≤ q → q < 336 → ai_cell h q = some (.inr (.inl (ty, m, lo, hi, l))) → (∀ j, j < m → ai_ov r lo hi l j (c q j)) ∧ ∃ a x, ws[q - 16]? = some (a, x) ∧ ∀ (r2 : Nat → Int) (N2 : Nat) (lo2 hi2 : Int) (l2 : List (ai_X × ai_X)), (∀ z ∈ l2, z.1.1 < N2 ∧ z.2.1 < N2) → (∀ j, j < m → ai_ov r2 lo2 hi2 l2 j (c q j)) → ai_gC tyc r2 ad N2 336 (.inr (.inl (ty, m, lo2, hi2, l2))) x := by
  have H : ∀ q : Nat, ∃ g : Nat → Int, ∀ (ty m : Nat) (lo hi : Int) (l : List (ai_X × ai_X)), 16 ≤ q → q < 336 → ai_cell h q = some (.inr (.inl (ty, m, lo, hi, l))) → (∀ j, j < m → ai_ov r lo hi l j (g j)) ∧ ∃ a x, ws[q - 16]? = some (a, x) ∧ ∀ (r2 : Nat → Int) (N2 : Nat) (lo2 hi2 : Int) (l2 : List (ai_X × ai_X)), (∀ z ∈ l2, z.1.1 < N2 ∧ z.2.1 < N2) → (∀ j, j < m → ai_ov r2 lo2 hi2 l2 j (g j)) → ai_gC tyc r2 ad N2 336 (.inr (.inl (ty, m, lo2, hi2, l2))) x := fun q => by
    by_cases e : ∃ ty m lo hi l, 16 ≤ q ∧ q < 336 ∧ ai_cell h q = some (.inr (.inl (ty, m, lo, hi, l)))
    · obtain ⟨ty, m, lo, hi, l, h1, h2, h3⟩ := e
      obtain ⟨a, x, w, g⟩ := K q h1 h2 rfl _ h3
      obtain ⟨c, c1, c2⟩ := gl_tell g
      refine ⟨c, fun ty' m' lo' hi' l' _ _ h4 => ?_⟩
      rw [h3] at h4
      cases h4
      exact ⟨c1, a, x, w, c2⟩
    · exact ⟨fun _ => 0, fun ty m lo hi l h1 h2 h3 => absurd ⟨ty, m, lo, hi, l, h1, h2, h3⟩ e⟩
  exact ⟨fun q => Classical.choose (H q), fun q => Classical.choose_spec (H q)⟩
end GLD
