/-! WAY: distances are there, are one; the row that they lead to -/
section WAYX
variable {T : Nat → Nat → Option Nat} {fin V : Nat → Prop} {F G : Nat → Int}
/-- of a state: what distances say, out of those of greater states -/
noncomputable def wm_F1 (T : Nat → Nat → Option Nat) (fin : Nat → Prop) (F : Nat → Int) (s : Nat) : Prop := -1 ≤ F s ∧ (fin s → F s = 0) ∧ (¬ fin s → (∀ a t, a < 13 → T s a = some t → F t ≠ -1 → F s ≠ -1 ∧ F s ≤ F t + 1) ∧ (F s ≠ -1 → ∃ a t, a < 13 ∧ T s a = some t ∧ F t ≠ -1 ∧ F s = F t + 1))
theorem wm_uniq (hT : wm_T T V) (hF : wm_F T fin F) (hG : wm_F T fin G) : ∀ k s, s + k = 4095 → F s = G s := by
  intro k
  induction k using Nat.strongRecOn with
  | _ k ih =>
    intro s hs
    have eq : ∀ a t, a < 13 → T s a = some t → F t = G t := fun a t ha ht => by
      obtain ⟨w1, w2, -⟩ := hT.2 s a t (by omega) ha ht
      exact ih (4095 - t) (by omega) t (by omega)
    obtain ⟨f1, f2, f3⟩ := hF s (by omega)
    obtain ⟨g1, g2, g3⟩ := hG s (by omega)
    by_cases e : fin s
    · rw [f2 e, g2 e]
    obtain ⟨f4, f5⟩ := f3 e
    obtain ⟨g4, g5⟩ := g3 e
    by_cases cF : F s = -1
    · by_cases cG : G s = -1
      · rw [cF, cG]
      · obtain ⟨a, t, a1, a2, a3, a4⟩ := g5 cG
        rw [← eq a t a1 a2] at a3
        exact absurd cF (f4 a t a1 a2 a3).1
    · obtain ⟨a, t, a1, a2, a3, a4⟩ := f5 cF
      have a3' := a3
      rw [eq a t a1 a2] at a3'
      obtain ⟨b1, b2⟩ := g4 a t a1 a2 a3'
      obtain ⟨c, u, c1, c2, c3, c4⟩ := g5 b1
      have c3' := c3
      rw [← eq c u c1 c2] at c3'
      have d := (f4 c u c1 c2 c3').2
      have e1 := eq a t a1 a2
      have e2 := eq c u c1 c2
      omega
/-- the least of what some acts give -/
theorem wm_least (p : Nat → Int → Prop) : ∀ n : Nat, (∃ a d, a < n ∧ 0 ≤ d ∧ p a d) → ∃ a d, a < n ∧ 0 ≤ d ∧ p a d ∧ ∀ b e, b < n → 0 ≤ e → p b e → d ≤ e := fun n h => by
  obtain ⟨a, d, h1, h2, h3⟩ := h
  obtain ⟨m, hm⟩ : ∃ m : Nat, d = (m : Int) := ⟨d.toNat, by omega⟩
  subst hm
  induction m using Nat.strongRecOn generalizing a with
  | _ m ih =>
    by_cases ne : ∃ b e, b < n ∧ 0 ≤ e ∧ p b e ∧ e < (m : Int)
    · obtain ⟨b, e, e1, e2, e3, e4⟩ := ne
      obtain ⟨k, hk⟩ : ∃ k : Nat, e = (k : Int) := ⟨e.toNat, by omega⟩
      subst hk
      exact ih k (by omega) b e1 e2 e3
    · exact ⟨a, m, h1, h2, h3, fun b e e1 e2 e3 => by
        rcases Int.lt_or_le e m with w | w
        · exact absurd ⟨b, e, e1, e2, e3, w⟩ ne
        · exact w⟩
theorem wm_ex0 (hT : wm_T T V) : ∀ k, k ≤ 4096 → ∃ F : Nat → Int, ∀ s, s < 4096 → 4096 ≤ s + k → wm_F1 T fin F s
  | 0, _ => ⟨fun _ => 0, fun s h1 h2 => by omega⟩
  | k + 1, hk => by
    obtain ⟨F, hF⟩ := wm_ex0 hT k (by omega)
    obtain ⟨s, hs⟩ : ∃ s, s = 4095 - k := ⟨_, rfl⟩
    -- a value for s
    obtain ⟨v, hv⟩ : ∃ v : Int, -1 ≤ v ∧ (fin s → v = 0) ∧ (¬ fin s → (∀ a t, a < 13 → T s a = some t → F t ≠ -1 → v ≠ -1 ∧ v ≤ F t + 1) ∧ (v ≠ -1 → ∃ a t, a < 13 ∧ T s a = some t ∧ F t ≠ -1 ∧ v = F t + 1)) := by
      by_cases e : fin s
      · exact ⟨0, by decide, fun _ => rfl, fun h => absurd e h⟩
      by_cases c : ∃ a t, a < 13 ∧ T s a = some t ∧ F t ≠ -1
      · have nn : ∀ a t, a < 13 → T s a = some t → F t ≠ -1 → 0 ≤ F t := fun a t ha ht hf => by
          obtain ⟨w1, w2, -⟩ := hT.2 s a t (by omega) ha ht
          have := (hF t w2 (by omega)).1
          omega
        obtain ⟨a, d, h1, h2, h3, h4⟩ := wm_least (fun a d => ∃ t, T s a = some t ∧ F t ≠ -1 ∧ d = F t) 13 (by
          obtain ⟨a, t, c1, c2, c3⟩ := c
          exact ⟨a, F t, c1, nn a t c1 c2 c3, t, c2, c3, rfl⟩)
        obtain ⟨t, t1, t2, t3⟩ := h3
        refine ⟨d + 1, by omega, fun h => absurd h e, fun _ => ⟨fun b u hb hu hf => ⟨by omega, ?_⟩, fun _ => ⟨a, t, h1, t1, t2, by omega⟩⟩⟩
        have := h4 b (F u) hb (nn b u hb hu hf) ⟨u, hu, hf, rfl⟩
        omega
      · exact ⟨-1, by decide, fun h => absurd h e, fun _ => ⟨fun a t ha ht hf => absurd ⟨a, t, ha, ht, hf⟩ c, fun h => absurd rfl h⟩⟩
    refine ⟨fun x => if x = s then v else F x, fun x hx hx2 => ?_⟩
    have up : ∀ a t, a < 13 → T x a = some t → (if t = s then v else F t) = F t := fun a t ha ht => by
      have := (hT.2 x a t hx ha ht).1
      exact if_neg (by omega)
    by_cases z : x = s
    · subst z
      unfold wm_F1
      dsimp only
      rw [if_pos rfl]
      refine ⟨hv.1, hv.2.1, fun e => ⟨fun a t ha ht hf => ?_, fun h => ?_⟩⟩
      · rw [up a t ha ht] at hf ⊢
        exact (hv.2.2 e).1 a t ha ht hf
      · obtain ⟨a, t, a1, a2, a3, a4⟩ := (hv.2.2 e).2 h
        exact ⟨a, t, a1, a2, by rw [up a t a1 a2]; exact a3, by rw [up a t a1 a2]; exact a4⟩
    · have old := hF x hx (by omega)
      unfold wm_F1 at old ⊢
      dsimp only
      rw [if_neg z]
      refine ⟨old.1, old.2.1, fun e => ⟨fun a t ha ht hf => ?_, fun h => ?_⟩⟩
      · rw [up a t ha ht] at hf ⊢
        exact (old.2.2 e).1 a t ha ht hf
      · obtain ⟨a, t, a1, a2, a3, a4⟩ := (old.2.2 e).2 h
        exact ⟨a, t, a1, a2, by rw [up a t a1 a2]; exact a3, by rw [up a t a1 a2]; exact a4⟩
theorem wm_ex (hT : wm_T T V) : ∃ F, wm_F T fin F := by
  obtain ⟨F, hF⟩ := wm_ex0 (fin := fin) hT 4096 (by omega)
  exact ⟨F, fun s hs => hF s hs (by omega)⟩
end WAYX
