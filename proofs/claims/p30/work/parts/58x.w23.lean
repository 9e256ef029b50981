/-! WAY: trace's first loop, its contract -/
noncomputable def qa_tH (N : Nat) (σ α : Nat → Nat) (M : Nat → Nat → Int) : Prop := N ≤ 12 ∧ σ 0 = 0 ∧ ∀ k, k < N → α k < 13 ∧ 0 < σ (k + 1) ∧ σ (k + 1) < 4096 ∧ M 201 (σ (k + 1)) = ((16 * σ k + α k : Nat) : Int)
section QAT1
variable {n : Nat} {Z : (Nat → Int) → (Nat → Nat → Int) → Option Int → Prop} {P : pt_P} {r0 : Nat → Int} {M0 : Nat → Nat → Int} {N : Nat} {σ α : Nat → Nat}
theorem qa_tloop1 (h : pt_Cl n 121 qaY 1 Z P) (H : qa_tH N σ α M0) (hz : ∀ r2 M2, qa_tI r0 M0 r2 M2 → r2 69 = (N : Int) → M2 199 = (fun x => if x < N then (α x : Int) else M0 199 x) → Z r2 M2 (some (N : Int))) :
    ∀ (k j : Nat) (r : Nat → Int) (M : Nat → Nat → Int), k + j = N → qa_tI r0 M0 r M → r 69 = (k : Int) → r 405 = (k : Int) → r 404 = (σ j : Int) → (∀ x, M 199 x = if x < k then (α (N - 1 - x) : Int) else M0 199 x) → P (9, 0, 0) (qa_tL wa_u) [] r M := by
  have h' := h
  obtain ⟨hseg, henv, -, -, hld, -, hst, -, -, -, hret, -, -, -⟩ := h'
  obtain ⟨-, c2, c3, c4, c5, c6⟩ := qa_t_c1
  obtain ⟨k1, k2, k3, -⟩ := qa_t_k.1
  obtain ⟨H1, H2, H3⟩ := H
  intro k j
  induction j generalizing k with
  | zero =>
    intro r M hk I e1 e2 e3 e4
    have hk : k = N := by omega
    subst hk
    refine hseg _ _ _ _ _ r M _ _ _ _ _ c3 ⟨pt_m0, pt_m2 ⟨by show (0 : Int) ≤ r 404; rw [e3, H2]; decide, by show r 404 ≤ (0 : Int); rw [e3, H2]; decide⟩ ⟨by show (0 : Int) ≤ r 405; omega, by show r 405 ≤ (12 : Int); omega⟩, pt_m0⟩ ⟨fun _ => ?_, trivial⟩
    show P (69, 0, 0) (qa_tL wa_u) [] r M
    refine hseg _ _ _ _ _ r M _ _ _ _ _ qa_t_c2.1 ⟨pt_m0, pt_m0, pt_m0⟩ ⟨fun _ => ?_, trivial⟩
    obtain ⟨r1, hr1⟩ : ∃ r1, r1 = pt_up r [(405, wq_k 0)] := ⟨_, rfl⟩
    show P (71, 0, 0) (qa_tL wa_u) [] (pt_up r [(405, wq_k 0)]) M
    rw [← hr1]
    have n1 : ∀ t, t ≠ 405 → r1 t = r t := fun t ht => by
      rw [hr1]
      exact if_neg ht
    refine qa_tloop2 h H1 (fun x hx => (H3 x hx).1) hz (k / 2) 0 r1 M (by omega) ⟨fun t h1 h2 => (n1 t (by omega)).trans (I.1 t h1 h2), I.2⟩ ((n1 _ (by omega)).trans e1) (by rw [hr1]; rfl) (fun x => ?_)
    rw [e4]
    by_cases w : x < k
    · rw [if_pos w, if_pos w, if_neg (show ¬ (x < 0 ∨ k - 1 - x < 0) by omega)]
    · rw [if_neg w, if_neg w]
  | succ j ih =>
    intro r M hk I e1 e2 e3 e4
    obtain ⟨g1, g2, g3, g4⟩ := H3 j (by omega)
    have hs : σ j < 4096 := by
      cases j with
      | zero => rw [H2]; decide
      | succ i => exact (H3 i (by omega)).2.2.1
    have b : M 201 (σ (j + 1)) = ((16 * σ j + α j : Nat) : Int) := by
      rw [I.2 201 (by omega)]
      exact g4
    obtain ⟨d5, d9⟩ := wq_d16 hs g1
    refine hseg _ _ _ _ _ r M _ _ _ _ _ c2 ⟨pt_m0, pt_m2 ⟨by show (1 : Int) ≤ r 404; omega, by show r 404 ≤ (4095 : Int); omega⟩ ⟨by show (0 : Int) ≤ r 405; omega, by show r 405 ≤ (12 : Int); omega⟩, pt_m0⟩ ⟨fun _ => ?_, trivial⟩
    refine hld (39, 0, 0) _ [wa_i 69, wa_r 199] r M 201 4096 482 (σ (j + 1)) (404, 0) k1 g3 (by show r 404 + 0 = _; omega) ?_
    rw [b]
    obtain ⟨r1, hr1⟩ : ∃ r1, r1 = pt_set r 482 ((16 * σ j + α j : Nat) : Int) := ⟨_, rfl⟩
    rw [← hr1]
    have n1 : ∀ t, t ≠ 482 → r1 t = r t := fun t ht => by
      rw [hr1]
      exact if_neg ht
    have s1 : r1 482 = ((16 * σ j + α j : Nat) : Int) := by
      rw [hr1]
      exact wq_sset
    refine hseg _ _ _ _ _ r1 M _ _ _ _ _ c4 ⟨pt_m0, pt_m0, pt_m0⟩ ⟨fun _ => ?_, trivial⟩
    obtain ⟨r2, hr2⟩ : ∃ r2, r2 = pt_up r1 [(483, [(0, 482, 0), (1, 0, 15), (2, 5, 0)])] := ⟨_, rfl⟩
    show P (43, 0, 0) (qa_tL wa_u) [wa_i 483, wa_i 69, wa_r 199] (pt_up r1 [(483, [(0, 482, 0), (1, 0, 15), (2, 5, 0)])]) M
    rw [← hr2]
    have n2 : ∀ t, t ≠ 483 → r2 t = r1 t := fun t ht => by
      rw [hr2]
      exact if_neg ht
    have s2 : r2 483 = (α j : Int) := by
      rw [hr2]
      show ai_op 5 (r1 482) 15 = _
      rw [s1, d5]
    have l2 : ∀ t, t < 402 → r2 t = r t := fun t ht => (n2 t (by omega)).trans (n1 t (by omega))
    refine hst (43, 0, 0) _ [] r2 M 199 13 k (69, 0) (483, 0) k2 (by omega) (by show r2 69 + 0 = _; rw [l2 _ (by omega)]; omega) ?_
    have v2 : ai_vx r2 (483, 0) = (α j : Int) := by
      show r2 483 + 0 = _
      omega
    rw [v2]
    obtain ⟨M2, hM2⟩ : ∃ M2, M2 = pt_sto M 199 k (α j : Int) := ⟨_, rfl⟩
    rw [← hM2]
    refine hseg _ _ _ _ _ r2 M2 _ _ _ _ _ c5 ⟨pt_m0, pt_m1 ⟨by show (0 : Int) ≤ r2 69; rw [l2 _ (by omega)]; omega, by show r2 69 ≤ (12 : Int); rw [l2 _ (by omega)]; omega⟩, pt_m0⟩ ⟨fun _ => ?_, trivial⟩
    obtain ⟨r3, hr3⟩ : ∃ r3, r3 = pt_up r2 [(69, [(0, 69, 0), (3, 0, 1)])] := ⟨_, rfl⟩
    show P (59, 0, 0) (qa_tL wa_u) [wa_i 404, wa_r 201] (pt_up r2 [(69, [(0, 69, 0), (3, 0, 1)])]) M2
    rw [← hr3]
    have n3 : ∀ t, t ≠ 69 → r3 t = r2 t := fun t ht => by
      rw [hr3]
      exact if_neg ht
    have le3 : r3 69 = ((k + 1 : Nat) : Int) := by
      rw [hr3]
      show r2 69 + 1 = _
      rw [l2 _ (by omega)]
      omega
    have a23 : r3 404 = (σ (j + 1) : Int) := by rw [n3 _ (by omega), n2 _ (by omega), n1 _ (by omega), e3]
    have a33 : r3 405 = (k : Int) := by rw [n3 _ (by omega), n2 _ (by omega), n1 _ (by omega), e2]
    refine hld (59, 0, 0) _ [] r3 M2 201 4096 482 (σ (j + 1)) (404, 0) k3 g3 (by show r3 404 + 0 = _; omega) ?_
    have b2 : M2 201 (σ (j + 1)) = ((16 * σ j + α j : Nat) : Int) := by
      rw [hM2]
      refine Eq.trans ?_ b
      exact if_neg (fun w => absurd w.1 (by decide))
    rw [b2]
    obtain ⟨r4, hr4⟩ : ∃ r4, r4 = pt_set r3 482 ((16 * σ j + α j : Nat) : Int) := ⟨_, rfl⟩
    rw [← hr4]
    have n4 : ∀ t, t ≠ 482 → r4 t = r3 t := fun t ht => by
      rw [hr4]
      exact if_neg ht
    have s4 : r4 482 = ((16 * σ j + α j : Nat) : Int) := by
      rw [hr4]
      exact wq_sset
    refine hseg _ _ _ _ _ r4 M2 _ _ _ _ _ c6 ⟨pt_m0, pt_m1 ⟨by show (0 : Int) ≤ r4 405; rw [n4 _ (by omega)]; omega, by show r4 405 ≤ (12 : Int); rw [n4 _ (by omega)]; omega⟩, pt_m0⟩ ⟨fun _ => ?_, trivial⟩
    obtain ⟨r5, hr5⟩ : ∃ r5, r5 = pt_up r4 [(404, [(0, 482, 0), (1, 0, 4), (2, 9, 0)]), (405, [(0, 405, 0), (3, 0, 1)])] := ⟨_, rfl⟩
    show P (9, 0, 0) (qa_tL wa_u) [] (pt_up r4 [(404, [(0, 482, 0), (1, 0, 4), (2, 9, 0)]), (405, [(0, 405, 0), (3, 0, 1)])]) M2
    rw [← hr5]
    have n5 : ∀ t, t < 402 → r5 t = r4 t := fun t ht => by
      rw [hr5]
      show (if t = 404 then _ else if t = 405 then _ else r4 t) = r4 t
      rw [if_neg (by omega), if_neg (by omega)]
    refine ih (k + 1) r5 M2 (by omega) ⟨fun t h1 h2 => ?_, fun z hz' => ?_⟩ (by rw [n5 _ (by omega), n4 _ (by omega), le3]) (by rw [hr5]; show r4 405 + 1 = _; rw [n4 _ (by omega)]; omega) (by rw [hr5]; show ai_op 9 (r4 482) 4 = _; rw [s4, d9]) (fun x => ?_)
    · rw [n5 t h1, n4 t (by omega), n3 t h2, l2 t h1]
      exact I.1 t h1 h2
    · rw [← I.2 z hz', hM2]
      funext x
      exact if_neg (fun w => hz' w.1)
    · have ex : M2 199 x = if x = k then (α j : Int) else M 199 x := by
        rw [hM2]
        show (if 199 = 199 ∧ x = k then _ else M 199 x) = _
        by_cases w : x = k
        · rw [if_pos ⟨rfl, w⟩, if_pos w]
        · rw [if_neg (fun z => w z.2), if_neg w]
      rw [ex]
      by_cases w : x = k
      · rw [if_pos w, if_pos (show x < k + 1 by omega), show N - 1 - x = j by omega]
      · rw [if_neg w, e4]
        by_cases w2 : x < k
        · rw [if_pos w2, if_pos (show x < k + 1 by omega)]
        · rw [if_neg w2, if_neg (show ¬ x < k + 1 by omega)]
end QAT1
noncomputable def qa_tP (N : Nat) (σ α : Nat → Nat) (r : Nat → Int) (M : Nat → Nat → Int) : Prop := r 403 = (σ N : Int) ∧ qa_tH N σ α M
noncomputable def qa_tQ (N : Nat) (α : Nat → Nat) (r : Nat → Int) (M : Nat → Nat → Int) (r2 : Nat → Int) (M2 : Nat → Nat → Int) (o : Option Int) : Prop := o = some (N : Int) ∧ qa_tI r M r2 M2 ∧ r2 69 = (N : Int) ∧ M2 199 = fun x => if x < N then (α x : Int) else M 199 x
theorem qa_tM {n N : Nat} {σ α : Nat → Nat} (hn : 4 ≤ n) : pt_Met (n + 1) 121 qaY [wa_r 198, wa_i 403] (qa_tP N σ α) (qa_tQ N α) 1 := by
  refine pt_intro (L0 := [wa_r 198, wa_i 403, wa_u, wa_u, wa_u]) (wq_b0 121 (by decide)).2 hn qasys (by
    rw [qa_t_k.2.2.2.2.2]
    rfl) (fun P r M h hp => ?_)
  have h' := h
  obtain ⟨hseg, henv, -⟩ := h'
  obtain ⟨p1, p2⟩ := hp
  refine hseg _ _ _ _ _ r M _ _ _ _ _ qa_t_c1.1 ⟨pt_m0, pt_m0, pt_m0⟩ ⟨fun _ => ?_, trivial⟩
  obtain ⟨r1, hr1⟩ : ∃ r1, r1 = pt_up r [(69, wq_k 0), (404, wq_p 403), (405, wq_k 0)] := ⟨_, rfl⟩
  show P (9, 0, 0) (qa_tL wa_u) [] (pt_up r [(69, wq_k 0), (404, wq_p 403), (405, wq_k 0)]) M
  rw [← hr1]
  refine qa_tloop1 (r0 := r) (M0 := M) h p2 (fun r2 M2 g1 g2 g3 => ⟨rfl, g1, g2, g3⟩) 0 N r1 M (by omega) ⟨fun t h1 h2 => ?_, fun _ _ => rfl⟩ (by rw [hr1]; rfl) (by rw [hr1]; rfl) (by rw [hr1]; exact p1) (fun x => (if_neg (by omega)).symm)
  rw [hr1]
  show (if t = 69 then _ else if t = 404 then _ else if t = 405 then _ else r t) = r t
  rw [if_neg h2, if_neg (by omega), if_neg (by omega)]
