/-! what is kept of texts that are not here -/
theorem pw_cg {f f' : Nat → Int} {j : Nat} (hf : ∀ q, q < j → f' q = f q) : ∀ {n i d : Nat}, pw_cv f n i j d → pw_cv f' n i j d
  | 0, i, d, h => h
  | n + 1, i, d, h => by
    rcases h with h | ⟨h1, h⟩
    · exact Or.inl h
    · refine Or.inr ⟨h1, ?_⟩
      rw [hf i h1]
      rcases h with ⟨a, b, c, e⟩ | ⟨a, b, c, e⟩ | ⟨a, b, c, e⟩ | ⟨a, b, c, g, e⟩
      · exact Or.inl ⟨a, b, c, pw_cg hf e⟩
      · exact Or.inr (Or.inl ⟨a, b, c, pw_cg hf e⟩)
      · exact Or.inr (Or.inr (Or.inl ⟨a, b, c, pw_cg hf e⟩))
      · exact Or.inr (Or.inr (Or.inr ⟨a, b, c, g, pw_cg hf e⟩))
theorem iz_dc : decode (ct_mt 191).2.1 16 = .ok (.invokevirtual 333, 3) ∧ decode (ct_mt 191).2.1 45 = .ok (.invokevirtual 333, 3) ∧ decode (ct_mt 191).2.1 53 = .ok (.invokevirtual 337, 3) ∧ (ct_mt 191).1.cls = "LightsMarketModel" := by decide +kernel
