/-! way by its contracts: what the world says of the land -/
theorem kv_bdm : (List.range 4).all (fun m => decide ((147 + m, ((0 : Int), (7 : Int))) ∈ gq_E.2.1 ∧ (375 + m, ((0 : Int), (7 : Int))) ∈ gq_E.2.1 ∧ (135 + m, ((0 : Int), (3 : Int))) ∈ gq_E.2.1 ∧ (371 + m, ((0 : Int), (1 : Int))) ∈ gq_E.2.1 ∧ (139 + m, ((0 : Int), (3 : Int))) ∈ gq_E.2.1)) = true := by decide +kernel
theorem kv_bdl : (List.range 5).all (fun l => decide ((115 + l, ((0 : Int), (3 : Int))) ∈ gq_E.2.1 ∧ (120 + l, ((0 : Int), (3 : Int))) ∈ gq_E.2.1)) = true := by decide +kernel
theorem kv_bdp : (73, ((0 : Int), (4 : Int))) ∈ gq_E.2.1 ∧ (75, ((0 : Int), (4 : Int))) ∈ gq_E.2.1 ∧ (74, ((0 : Int), (5 : Int))) ∈ gq_E.2.1 := by decide +kernel
theorem kv_ok {r : Nat → Int} (hE : ai_gE r gq_E) (J : lx_J r) : wq_ok r := by
  have bd : ∀ {t : Nat} {b : Int × Int}, (t, b) ∈ gq_E.2.1 → b.1 ≤ r t ∧ r t ≤ b.2 := fun h => (hE.2.2.2.1 _ h).2
  have h0 : r 0 = 0 := hE.1
  refine ⟨fun k hk => (lx_Jrg J h0 k hk).1, fun k hk => (lx_Jrg J h0 k hk).2, fun m hm => ?_, fun l hl => ?_, bd kv_bdp.1, bd kv_bdp.2.1, bd kv_bdp.2.2⟩
  · have g := of_decide_eq_true (List.all_eq_true.mp kv_bdm m (List.mem_range.mpr hm))
    exact ⟨bd g.1, bd g.2.1, bd g.2.2.1, bd g.2.2.2.1, bd g.2.2.2.2⟩
  · have g := of_decide_eq_true (List.all_eq_true.mp kv_bdl l (List.mem_range.mpr hl))
    exact ⟨bd g.1, bd g.2⟩
theorem kv_H {r : Nat → Int} (hE : ai_gE r gq_E) (J : lx_J r) {q : Nat} (hq : q < 4) : ∃ (N : Nat) (F : Nat → Int) (σ α : Nat → Nat), wq_H r q N F σ α := by
  have h0 : r 0 = 0 := hE.1
  have o := kv_ok hE J
  have hT : wm_T (wq_T r q) (wq_V r) := by
    by_cases p : 1 ≤ r 73
    · exact wq_wm o (lx_Jen J h0 p)
    · obtain ⟨m0, l0⟩ := lx_Jz J h0 (by omega)
      have op := o.2.2.2.2.1
      refine ⟨fun j _ _ => ⟨Nat.zero_testBit _, Nat.zero_testBit _⟩, fun s a t _ ha h => ?_⟩
      exfalso
      unfold wq_T at h
      by_cases c : a < 4
      · rw [if_pos c, if_pos (by omega)] at h
        cases h
      · rw [if_neg c] at h
        by_cases c2 : a < 9
        · rw [if_pos c2, if_pos (by omega)] at h
          cases h
        · rw [if_neg c2, if_pos (by omega)] at h
          cases h
  have pl : ¬ wq_fin r 0 → wq_pl r := fun w => by
    by_cases p : 1 ≤ r 73
    · exact lx_Jen J h0 p
    · exfalso
      have op := o.2.2.2.2.1
      have e : r 73 = 0 := by omega
      refine w ?_
      unfold wq_fin
      rw [e]
      exact ⟨rfl, rfl⟩
  obtain ⟨F, hF⟩ := wm_ex (fin := wq_fin r) hT
  by_cases c : F 0 = -1
  · exact ⟨0, F, fun _ => 0, fun _ => 0, ⟨o, hq⟩, hT, pl, hF, Or.inl c, fun e => by omega⟩
  · have f := (hF 0 (by omega)).1
    obtain ⟨N, hN⟩ : ∃ N : Nat, F 0 = (N : Int) := ⟨(F 0).toNat, by omega⟩
    obtain ⟨g1, σ, α, g2, g3, g4⟩ := wm_row hT hF (fun s a t _ ha e => wq_TO ha e) N 0 (by omega) hN
    exact ⟨N, F, σ, α, ⟨o, hq⟩, hT, pl, hF, Or.inr hN, fun _ => ⟨by omega, g2, g3, g4⟩⟩
noncomputable def kv_jm1 (c : ai_X × ai_X × ai_X × ai_X) : Bool := ([c.1.1, c.2.1.1, c.2.2.1.1, c.2.2.2.1].any (fun t => Nat.beq t 69 || Nat.beq t 112))
theorem kv_jm : lx_jcl.all (fun c => !(kv_jm1 c) || (decide (c = ((0, 0), (112, 0), (69, 0), (112, 0))) || decide (c = ((112, 0), (0, -1), (69, 0), (0, 0))))) = true := by decide +kernel
/-- the invariant behind a row that was found, or none -/
theorem kv_J {r rF : Nat → Int} (J : lx_J r) (h0 : r 0 = 0) (h : ∀ t ∈ lx_Jt, t ≠ 69 → t ≠ 112 → rF t = r t) (e : (rF 69 = r 69 ∧ rF 112 = r 112) ∨ (rF 69 = rF 112 ∧ 0 ≤ rF 112)) : lx_J rF := by
  rcases e with ⟨e1, e2⟩ | ⟨e1, e2⟩
  · refine lx_J_keep J (fun t ht => ?_)
    by_cases a : t = 69
    · rw [a, e1]
    · by_cases b : t = 112
      · rw [b, e2]
      · exact h t ht a b
  · have z : rF 0 = r 0 := h 0 (by decide +kernel) (by omega) (by omega)
    intro c hc hg
    have g := List.all_eq_true.mp kv_jm c hc
    rw [Bool.or_eq_true, Bool.or_eq_true, decide_eq_true_eq, decide_eq_true_eq] at g
    obtain ⟨h1, h2, h3, h4⟩ := lx_jt hc
    rcases g with g | g | g
    · rw [Bool.not_eq_true'] at g
      have no : ∀ x : ai_X, x.1 ∈ [c.1.1, c.2.1.1, c.2.2.1.1, c.2.2.2.1] → x.1 ∈ lx_Jt → ai_vx rF x = ai_vx r x := fun x hx hj => by
        have w : x.1 ≠ 69 ∧ x.1 ≠ 112 := by
          unfold kv_jm1 at g
          have k := fun (b : (Nat.beq x.1 69 || Nat.beq x.1 112) = true) => Bool.eq_false_iff.mp g (List.any_eq_true.mpr ⟨x.1, hx, b⟩)
          refine ⟨fun q => k ?_, fun q => k ?_⟩
          · rw [q]
            rfl
          · rw [q]
            rfl
        show rF x.1 + x.2 = r x.1 + x.2
        rw [h _ hj w.1 w.2]
      rw [no c.1 (by simp) h1, no c.2.1 (by simp) h2] at hg
      rw [no c.2.2.1 (by simp) h3, no c.2.2.2 (by simp) h4]
      exact J c hc hg
    · subst g
      show rF 69 + 0 = rF 112 + 0
      omega
    · subst g
      have hg : rF 112 + 0 ≤ rF 0 + -1 := hg
      omega
