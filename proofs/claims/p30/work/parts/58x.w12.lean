/-! WAY: behind (the reference): its contract -/
noncomputable def qb_bP (r : Nat → Int) : Prop := (0 ≤ r 402 ∧ r 402 ≤ 4095) ∧ (0 ≤ r 403 ∧ r 403 ≤ 12) ∧ (0 ≤ r 404 ∧ r 404 ≤ 3) ∧ wq_ok r
noncomputable def qb_bV (r : Nat → Int) : Int := wq_To (wq_T r (r 404).toNat (r 402).toNat (r 403).toNat)
theorem qb_bM {n : Nat} (hn : 4 ≤ n) : pt_Met (n + 1 + 1) 251 qbY [wa_r 264, wa_i 402, wa_i 403, wa_i 404] (fun r _ => qb_bP r) (wq_pu 401 qb_bV) 1 := by
  refine pt_intro (L0 := [wa_r 264, wa_i 402, wa_i 403, wa_i 404, wa_u, wa_u, wa_u, wa_u, wa_u, wa_u]) (wq_b0 251 (by decide)).2 (by omega) qbsys (by
    rw [qb_is2.2.2.2.2.2.2]
    rfl) (fun P r M h hp => ?_)
  have h' := h
  obtain ⟨hseg, henv, hrel, -⟩ := h'
  refine henv _ _ _ _ _ (fun hE _ => ?_)
  have h0 : r 0 = 0 := hE.1
  obtain ⟨⟨x1, x2⟩, ⟨a1, a2⟩, ⟨q1, q2⟩, o⟩ := hp
  obtain ⟨q, eq⟩ : ∃ q : Nat, r 404 = (q : Int) := ⟨(r 404).toNat, by omega⟩
  obtain ⟨a, ea⟩ : ∃ a : Nat, r 403 = (a : Int) := ⟨(r 403).toNat, by omega⟩
  obtain ⟨s, es⟩ : ∃ s : Nat, r 402 = (s : Int) := ⟨(r 402).toNat, by omega⟩
  have ev : qb_bV r = wq_To (wq_T r q s a) := by
    unfold qb_bV
    rw [eq, ea, es]
    rfl
  have hz : ∀ r2, (∀ t, t < 401 → r2 t = r t) → wq_pu 401 qb_bV r M r2 M (some (wq_To (wq_T r q s a))) := fun r2 h2 => ⟨by rw [ev], rfl, h2⟩
  refine hrel (0, 0, 0) _ (qb_bL q a) _ [] r M ⟨rfl, ⟨by show 402 < 501; omega, rfl⟩, ⟨by show 0 < 501; omega, by show r 403 + 0 = r 0 + (a : Int); rw [h0, ea]; omega⟩, ⟨by show 0 < 501; omega, by show r 404 + 0 = r 0 + (q : Int); rw [h0, eq]; omega⟩, trivial, trivial, trivial, trivial, trivial, trivial, trivial⟩ trivial ?_
  by_cases c : a < 4
  · exact qb_mill h hn (by omega) c (by omega) es h0 o hz
  · by_cases c2 : a < 9
    · obtain ⟨l, rfl⟩ : ∃ l, a = 4 + l := ⟨a - 4, by omega⟩
      exact qb_line h (by omega) (by omega) (by omega) es h0 o hz
    · obtain ⟨p, rfl⟩ : ∃ p, a = 9 + p := ⟨a - 9, by omega⟩
      exact qb_load h hn (by omega) (by omega) (by omega) es h0 o hz
