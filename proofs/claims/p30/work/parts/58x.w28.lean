/-! WAY: what was found, told of acts that are alike -/
theorem wm_BT {T T' : Nat → Nat → Option Nat} {V V' : Nat → Prop} {c n : Nat} {q κ d : Nat → Nat} {b : Nat → Int} (hT : ∀ s a, a < 13 → T' s a = T s a) (hV : ∀ s, V s → V' s) (h : wm_B T V c n q κ d b) : wm_B T' V' c n q κ d b := by
  obtain ⟨h1, h2, h3, h4, h5, h6, h7⟩ := h
  refine ⟨h1, fun j hj => ⟨(h2 j hj).1, hV _ (h2 j hj).2⟩, h3, fun j a1 a2 => ?_, h5, fun e he hn t ht => ?_, h7⟩
  · obtain ⟨b1, b2, b3, b4, b5⟩ := h4 j a1 a2
    exact ⟨b1, b2, by rw [hT _ _ (Nat.mod_lt _ (by omega))]; exact b3, b4, b5⟩
  · rw [hT _ _ (Nat.mod_lt _ (by omega))] at ht
    exact h6 e he hn t ht
theorem wm_FT {T T' : Nat → Nat → Option Nat} {fin fin' : Nat → Prop} {F : Nat → Int} (hT : ∀ s a, a < 13 → T' s a = T s a) (hf : ∀ s, fin' s ↔ fin s) (h : wm_F T fin F) : wm_F T' fin' F := fun s hs => by
  obtain ⟨h1, h2, h3⟩ := h s hs
  refine ⟨h1, fun e => h2 ((hf s).mp e), fun e => ?_⟩
  obtain ⟨h4, h5⟩ := h3 (fun w => e ((hf s).mpr w))
  refine ⟨fun a t ha ht => h4 a t ha (by rw [← hT s a ha]; exact ht), fun g => ?_⟩
  obtain ⟨a, t, a1, a2, a3⟩ := h5 g
  exact ⟨a, t, a1, by rw [hT s a a1]; exact a2, a3⟩
