/-! GLUE (1): what an array holds, told more or less -/
section GL
variable {tyc : Nat → ClassId} {r : Nat → Int} {ad : Nat → Nat} {N n ty m : Nat} {lo hi : Int} {l : List (ai_X × ai_X)} {e : va_E}
theorem gl_tell (h : ai_gC tyc r ad N n (.inr (.inl (ty, m, lo, hi, l))) e) : ∃ g : Nat → Int, (∀ j, j < m → ai_ov r lo hi l j (g j)) ∧ ∀ (r2 : Nat → Int) (N2 : Nat) (lo2 hi2 : Int) (l2 : List (ai_X × ai_X)), (∀ q ∈ l2, q.1.1 < N2 ∧ q.2.1 < N2) → (∀ j, j < m → ai_ov r2 lo2 hi2 l2 j (g j)) → ai_gC tyc r2 ad N2 n (.inr (.inl (ty, m, lo2, hi2, l2))) e := by
  rcases h with ⟨e0, f, h1, h2⟩ | ⟨e0, f, h1, h2⟩
  · exact ⟨fun j => (f j).toInt, h2.2, fun r2 N2 lo2 hi2 l2 a b => Or.inl ⟨e0, f, h1, ⟨a, b⟩⟩⟩
  · exact ⟨fun j => (f j).toInt, h2.2, fun r2 N2 lo2 hi2 l2 a b => Or.inr ⟨e0, f, h1, ⟨a, b⟩⟩⟩
noncomputable def gl_is (tyc : Nat → ClassId) (ty m : Nat) (e : va_E) (g : Nat → Int) : Prop := (ty = 0 → ∃ f : Nat → Int32, e = .inl (tyc 0, m, .inl f) ∧ ∀ j, (f j).toInt = g j) ∧ (ty = 1 → ∃ f : Nat → Int64, e = .inl (tyc 1, m, .inr (.inl f)) ∧ ∀ j, (f j).toInt = g j)
theorem gl_tel2 (h : ai_gC tyc r ad N n (.inr (.inl (ty, m, lo, hi, l))) e) : ∃ g : Nat → Int, ((∀ j, j < m → ai_ov r lo hi l j (g j)) ∧ gl_is tyc ty m e g) ∧ ∀ (r2 : Nat → Int) (N2 : Nat) (lo2 hi2 : Int) (l2 : List (ai_X × ai_X)), (∀ q ∈ l2, q.1.1 < N2 ∧ q.2.1 < N2) → (∀ j, j < m → ai_ov r2 lo2 hi2 l2 j (g j)) → ai_gC tyc r2 ad N2 n (.inr (.inl (ty, m, lo2, hi2, l2))) e := by
  rcases h with ⟨e0, f, h1, h2⟩ | ⟨e0, f, h1, h2⟩
  · refine ⟨fun j => (f j).toInt, ⟨h2.2, fun q => ?_, fun _ => ⟨f, h1, fun _ => rfl⟩⟩, fun r2 N2 lo2 hi2 l2 a b => Or.inl ⟨e0, f, h1, ⟨a, b⟩⟩⟩
    rw [e0] at q
    cases q
  · refine ⟨fun j => (f j).toInt, ⟨h2.2, fun q => ?_, fun q => ?_⟩, fun r2 N2 lo2 hi2 l2 a b => Or.inr ⟨e0, f, h1, ⟨a, b⟩⟩⟩
    · subst q
      exact ⟨f, h1, fun _ => rfl⟩
    · subst q
      rcases e0 with w | w <;> cases w
/-- told places (at known places) that are right, bounds for the others -/
theorem gl_ov {v : Int} {j : Nat} (h0 : r 0 = 0) : ∀ {l : List (ai_X × ai_X)}, (∀ q ∈ l, q.1.1 = 0) → (∀ q ∈ l, q.1.2 = (j : Int) → v = ai_vx r q.2) → (lo ≤ v ∧ v ≤ hi) → ai_ov r lo hi l j v
  | [], _, _, hb => hb
  | q :: l, hz, hv, hb => by
    have z : ai_vx r q.1 = q.1.2 := by
      show r q.1.1 + q.1.2 = q.1.2
      rw [hz q List.mem_cons_self, h0, Int.zero_add]
    refine ⟨fun e => hv q List.mem_cons_self (by rw [← z]; exact e), fun _ => gl_ov h0 (fun x hx => hz x (List.mem_cons_of_mem _ hx)) (fun x hx => hv x (List.mem_cons_of_mem _ hx)) hb⟩
/-- what a told place says -/
theorem gl_at {v : Int} {j : Nat} (h0 : r 0 = 0) : ∀ {l : List (ai_X × ai_X)} {x : ai_X}, (∀ q ∈ l, q.1.1 = 0) → (l.find? (fun q => ai_eq q.1.2 (j : Int))) = some ((0, (j : Int)), x) → ai_ov r lo hi l j v → v = ai_vx r x
  | [], _, _, h, _ => by cases h
  | q :: l, x, hz, h, g => by
    have z : ai_vx r q.1 = q.1.2 := by
      show r q.1.1 + q.1.2 = q.1.2
      rw [hz q List.mem_cons_self, h0, Int.zero_add]
    rw [List.find?_cons] at h
    cases e : ai_eq q.1.2 (j : Int) with
    | true =>
      rw [e] at h
      have h : some q = some ((0, (j : Int)), x) := h
      cases h
      exact g.1 z
    | false =>
      rw [e] at h
      have h : l.find? (fun q => ai_eq q.1.2 (j : Int)) = some ((0, (j : Int)), x) := h
      refine gl_at h0 (fun y hy => hz y (List.mem_cons_of_mem _ hy)) h (g.2 (fun w => ?_))
      rw [z] at w
      rw [ai_eq_iff.mpr w] at e
      cases e
end GL
