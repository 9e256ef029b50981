/-! WAY: the reference's way: the least of what the acts give -/
noncomputable def wm_I (T : Nat → Nat → Option Nat) (F : Nat → Int) (s a : Nat) (v : Int) : Prop := (∀ b t, b < a → T s b = some t → F t ≠ -1 → v ≠ -1 ∧ v ≤ F t + 1) ∧ (v ≠ -1 → ∃ b t, b < a ∧ T s b = some t ∧ F t ≠ -1 ∧ v = F t + 1)
section WMI
variable {T : Nat → Nat → Option Nat} {fin V : Nat → Prop} {F : Nat → Int} {s a : Nat} {v : Int}
theorem wm_I0 : wm_I T F s 0 (-1) := ⟨fun b t h => absurd h (by omega), fun h => absurd rfl h⟩
theorem wm_Is (hn : ∀ t, T s a = some t → F t ≠ -1 → v ≠ -1 ∧ v ≤ F t + 1) (h : wm_I T F s a v) : wm_I T F s (a + 1) v := by
  refine ⟨fun b t hb ht hF => ?_, fun hv => ?_⟩
  · by_cases e : b = a
    · subst e
      exact hn t ht hF
    · exact h.1 b t (by omega) ht hF
  · obtain ⟨b, t, h1, h2⟩ := h.2 hv
    exact ⟨b, t, by omega, h2⟩
theorem wm_In {t : Nat} (ht : T s a = some t) (hF : 0 ≤ F t) (hv : v = -1 ∨ F t + 1 < v) (h : wm_I T F s a v) : wm_I T F s (a + 1) (F t + 1) := by
  refine ⟨fun b u hb hu hF2 => ?_, fun _ => ⟨a, t, by omega, ht, by omega, rfl⟩⟩
  by_cases e : b = a
  · subst e
    rw [ht] at hu
    cases hu
    omega
  · have := h.1 b u (by omega) hu hF2
    omega
theorem wm_Ie (hF : wm_F T fin F) (hs : s < 4096) (hn : ¬ fin s) (h : wm_I T F s 13 v) : v = F s := by
  obtain ⟨-, -, f3⟩ := hF s hs
  obtain ⟨f4, f5⟩ := f3 hn
  by_cases e : F s = -1
  · by_cases ev : v = -1
    · rw [e, ev]
    · obtain ⟨b, t, h1, h2, h3, -⟩ := h.2 ev
      exact absurd e (f4 b t h1 h2 h3).1
  · obtain ⟨b, t, h1, h2, h3, h4⟩ := f5 e
    have g := h.1 b t h1 h2 h3
    obtain ⟨c, u, k1, k2, k3, k4⟩ := h.2 g.1
    have := (f4 c u k1 k2 k3).2
    omega
end WMI
