/-! WAY: the row that distances lead to -/
section WAYG
variable {T : Nat → Nat → Option Nat} {fin V : Nat → Prop} {F : Nat → Int}
/-- a row of acts that each come nearer, each the first that does -/
noncomputable def wm_G (T : Nat → Nat → Option Nat) (F : Nat → Int) (N : Nat) (σ α : Nat → Nat) : Prop := ∀ m, m < N → α m < 13 ∧ T (σ m) (α m) = some (σ (m + 1)) ∧ F (σ (m + 1)) + 1 = F (σ m) ∧ ∀ a t, a < α m → T (σ m) a = some t → F t + 1 ≠ F (σ m)
theorem wm_first (p : Nat → Prop) : ∀ a, p a → ∃ b, b ≤ a ∧ p b ∧ ∀ c, c < b → ¬ p c := fun a h => by
  induction a using Nat.strongRecOn with
  | _ a ih =>
    by_cases e : ∃ c, c < a ∧ p c
    · obtain ⟨c, c1, c2⟩ := e
      obtain ⟨b, b1, b2, b3⟩ := ih c c1 c2
      exact ⟨b, by omega, b2, b3⟩
    · exact ⟨a, Nat.le_refl _, h, fun c hc hp => e ⟨c, hc, hp⟩⟩
theorem wm_row (hT : wm_T T V) (hF : wm_F T fin F) (hO : ∀ s a t, s < 4096 → a < 13 → T s a = some t → s ||| t = t) : ∀ (N s : Nat), s < 4096 → F s = (N : Int) → N + wy_pop 12 s ≤ 12 ∧ ∃ σ α, σ 0 = s ∧ wm_G T F N σ α ∧ ∀ m, m ≤ N → σ m < 4096
  | 0, s, hs, _ => ⟨by have := wy_pop_le 12 s; omega, fun _ => s, fun _ => 0, rfl, fun m hm => by omega, fun _ _ => hs⟩
  | N + 1, s, hs, h => by
    have f := hF s hs
    have e : ¬ fin s := fun w => by
      have := f.2.1 w
      omega
    obtain ⟨a0, t0, a1, a2, a3, a4⟩ := (f.2.2 e).2 (by omega)
    obtain ⟨a, b1, ⟨t, b2, b3⟩, b4⟩ := wm_first (fun a => ∃ t, T s a = some t ∧ F t + 1 = F s) a0 ⟨t0, a2, by omega⟩
    obtain ⟨w1, w2, -⟩ := hT.2 s a t hs (by omega) b2
    obtain ⟨i1, σ, α, i2, i3, i4⟩ := wm_row hT hF hO N t w2 (by omega)
    have pp := wy_pop_or 12 s t (hO s a t hs (by omega) b2) hs w2 (by omega)
    refine ⟨by omega, fun m => if m = 0 then s else σ (m - 1), fun m => if m = 0 then a else α (m - 1), if_pos rfl, fun m hm => ?_, fun m hm => ?_⟩
    · by_cases z : m = 0
      · subst z
        refine ⟨by show a < 13; omega, by show T s a = some (σ 0); rw [i2]; exact b2, by show F (σ 0) + 1 = F s; rw [i2]; exact b3, fun c u hc hu hf => b4 c hc ⟨u, hu, hf⟩⟩
      · obtain ⟨m, rfl⟩ : ∃ k, m = k + 1 := ⟨m - 1, by omega⟩
        exact i3 m (by omega)
    · by_cases z : m = 0
      · subst z
        exact hs
      · obtain ⟨m, rfl⟩ : ∃ k, m = k + 1 := ⟨m - 1, by omega⟩
        exact i4 m (by omega)
end WAYG
theorem wq_TO {r : Nat → Int} {q s a t : Nat} (ha : a < 13) (h : wq_T r q s a = some t) : s ||| t = t := by
  by_cases c : a < 4
  · obtain ⟨-, rfl⟩ := wq_Tmill c h
    rw [Nat.or_assoc, ← Nat.or_assoc, Nat.or_self]
  · by_cases c2 : a < 9
    · obtain ⟨l, rfl⟩ : ∃ l, a = 4 + l := ⟨a - 4, by omega⟩
      obtain ⟨-, rfl⟩ := wq_Tline (by omega) h
      rw [Nat.or_assoc, ← Nat.or_assoc, Nat.or_self]
    · obtain ⟨p, rfl⟩ : ∃ p, a = 9 + p := ⟨a - 9, by omega⟩
      obtain ⟨-, -, rfl⟩ := wq_Tload h
      rw [← Nat.or_assoc, Nat.or_self]
