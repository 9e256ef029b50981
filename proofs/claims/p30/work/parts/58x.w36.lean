/-! WAY: LM.way, the law's helper -/
noncomputable def qa_wL : List ai_V := [wa_r 16, wa_i 403]
noncomputable def qa_hL : List ai_V := [wa_r 16, wa_i 403, wa_r 335, wa_u]
noncomputable def qa_hS : List ai_V := [wa_i 403, wa_r 16, .inl (0, 0), wa_r 335]
noncomputable def qa_hT : List ai_V := [.inl (0, 0), wa_r 335]
theorem qa_w_c : pt_row qaY 160 [20] true (0, 0, 0) qa_wL [] [] [(403, (0, 3))] [] [] [((20, 0, 0), (qa_wL, [wa_i 403, wa_r 198]), [], [])] = true := by decide +kernel
theorem qa_w_k : (cy_vk 160 20 119 qaY.2.1 [wa_i 403, wa_r 198] [wa_r 198, wa_i 403] [] && pt_cck qaY 160 119 (20, 0, 0) 1 482 qa_wL [] [wa_r 198, wa_i 403] [wa_r 198, wa_i 403]) = true := by decide +kernel
theorem qa_h_c : pt_row qaY 280 [4] true (0, 0, 0) qa_hL [] [] [] [] [] [((4, 0, 0), (qa_hL, qa_hS), [], [])] = true ∧ pt_row qaY 280 [16] true (7, 1, 6) qa_hL (wa_i 482 :: qa_hT) [] [] [] [] [((16, 1, 6), (qa_hL, [.inl (0, 0)]), [(401, wa_s 482)], [])] = true := by decide +kernel
theorem qa_h_k : (cy_vk 280 4 160 qaY.2.1 qa_hS qa_wL qa_hT && pt_cck qaY 280 160 (4, 0, 0) 1 482 qa_hL qa_hT qa_wL qa_wL) = true := by decide +kernel
theorem qa_h_l : (lh_plain 160 = true ∧ lh_plain 280 = true) ∧ (ct_bud 160 = (1, 6) ∧ ct_bud 280 = (1, 6)) ∧ pt_is 5 160 23 = true ∧ pt_is 5 280 16 = true ∧ (ct_mt 160).2.2.1 = 2 ∧ (ct_mt 280).2.2.1 = 4 := by decide +kernel
theorem qa_wself {r : Nat → Int} (h0 : r 0 = 0) : pt_up r (pt_wc qa_wL qa_wL) = r := wa_up_self h0 (fun q hq => by
  have hq : q ∈ [(403, pt_xr (403, 0))] := hq
  simp only [List.mem_cons, List.not_mem_nil, or_false] at hq
  rcases hq with rfl
  rfl)
theorem qa_wM {m q N : Nat} {F : Nat → Int} {σ α : Nat → Nat} (hm : 4 ≤ m) : pt_Met (m + 1 + 1 + 1 + 1 + 1 + 1) 160 qaY qa_wL (qa_kP q N F σ α) (qa_kQ N F α) 1 := by
  refine pt_intro (L0 := qa_wL) qa_h_l.1.1 (by omega) qasys (by
    rw [qa_h_l.2.2.2.2.1]
    rfl) (fun P r M h hp => ?_)
  obtain ⟨hseg, henv, -, -, -, -, -, -, hcall, -, hret, -, -, -⟩ := h
  refine henv _ _ _ _ _ (fun hE _ => ?_)
  have h0 : r 0 = 0 := hE.1
  have hp' := hp
  obtain ⟨p1, p2⟩ := hp'
  have hq := p2.1.2
  refine hseg _ _ _ _ _ r M _ _ _ _ _ qa_w_c ⟨pt_m0, pt_m1 ⟨by show (0 : Int) ≤ r 403; omega, by show r 403 ≤ (3 : Int); omega⟩, pt_m0⟩ ⟨fun _ => ?_, trivial⟩
  show P (20, 0, 0) qa_wL [wa_i 403, wa_r 198] r M
  have ck := qa_w_k
  rw [Bool.and_eq_true] at ck
  refine hcall (20, 0, 0) _ _ _ _ _ r M 119 1 482 _ _ (wq_b0 119 (by decide)).2 ck.1 ck.2 (qa_kM (q := q) (N := N) (F := F) (σ := σ) (α := α) hm) (by
    rw [wq_self h0]
    exact hp) (fun r1 M1 o hQ => ?_)
  rw [wq_self h0] at hQ
  obtain ⟨rc, rs⟩ := wa_rm (n := m + 1 + 1 + 1 + 1 + 1) (wq_b0 119 (by decide)).1
  rw [rc, rs]
  obtain ⟨f1, f2, f3⟩ := hQ
  obtain ⟨w, ew⟩ : ∃ w, o = some w := by
    rcases f3 with ⟨-, e, -⟩ | ⟨-, e, -⟩
    · exact ⟨_, e⟩
    · exact ⟨_, e⟩
  subst ew
  obtain ⟨r4, hr4⟩ : ∃ r4, r4 = pt_mrg 402 r r1 482 (some w) := ⟨_, rfl⟩
  show P (23, 0, 0) qa_wL [wa_i 482] (pt_mrg 402 r r1 482 (some w)) M1
  rw [← hr4]
  have lo4 : ∀ t, t < 402 → r4 t = r1 t := fun t ht => by
    rw [hr4]
    exact wa_mlt ht
  refine hret (23, 0, 0) _ (482, 0) r4 M1 rfl qa_h_l.2.2.1 (by decide +kernel) (by decide +kernel) ?_
  have z4 : ai_vx r4 (482, 0) = w := by
    show r4 482 + 0 = _
    rw [hr4, wa_mz (by omega), Int.add_zero]
  rw [z4]
  refine ⟨fun t h1 h2 h3 h4 => (lo4 t h1).trans (f1 t h1 h2 h3 h4), f2, ?_⟩
  rcases f3 with ⟨g1, g2, g3, g4⟩ | ⟨g1, g2, g3, g4⟩
  · exact Or.inl ⟨g1, g2, (lo4 _ (by omega)).trans g3, g4⟩
  · exact Or.inr ⟨g1, g2, (lo4 _ (by omega)).trans g3, g4⟩
/-- the helper: nothing thrown, the answer laid into out -/
noncomputable def qa_hQ (N : Nat) (F : Nat → Int) (α : Nat → Nat) (r : Nat → Int) (M : Nat → Nat → Int) (r2 : Nat → Int) (M2 : Nat → Nat → Int) (o : Option Int) : Prop := o = some 0 ∧ (∀ t, t < 402 → t ≠ 71 → t ≠ 69 → t ≠ 70 → t ≠ 401 → r2 t = r t) ∧ (∀ z, z ≠ 199 → z ≠ 200 → z ≠ 201 → M2 z = M z) ∧ qa_kR N F α 69 199 r M r2 M2 (some (r2 401))
theorem qa_hM {m q N : Nat} {F : Nat → Int} {σ α : Nat → Nat} (hm : 4 ≤ m) : pt_Met (m + 1 + 1 + 1 + 1 + 1 + 1 + 1) 280 qaY (qa_wL ++ [wa_r 335]) (qa_kP q N F σ α) (qa_hQ N F α) 1 := by
  refine pt_intro (L0 := qa_hL) qa_h_l.1.2 (by omega) qasys (by
    rw [qa_h_l.2.2.2.2.2]
    rfl) (fun P r M h hp => ?_)
  obtain ⟨hseg, henv, -, -, -, -, -, -, hcall, -, hret, -, -, -⟩ := h
  refine henv _ _ _ _ _ (fun hE _ => ?_)
  have h0 : r 0 = 0 := hE.1
  obtain ⟨c1, c2⟩ := qa_h_c
  refine hseg _ _ _ _ _ _ _ _ _ _ _ _ c1 ⟨pt_m0, pt_m0, pt_m0⟩ ⟨fun _ => ?_, trivial⟩
  show P (4, 0, 0) qa_hL qa_hS r M
  have ck := qa_h_k
  rw [Bool.and_eq_true] at ck
  refine hcall (4, 0, 0) _ _ _ _ _ r M 160 1 482 _ _ qa_h_l.1.1 ck.1 ck.2 (qa_wM (q := q) (N := N) (F := F) (σ := σ) (α := α) hm) (by
    rw [qa_wself h0]
    exact hp) (fun r1 M1 o hQ => ?_)
  rw [qa_wself h0] at hQ
  obtain ⟨rc, rs⟩ := wa_rm (n := m + 1 + 1 + 1 + 1 + 1 + 1) qa_h_l.2.1.1
  rw [rc, rs]
  obtain ⟨f1, f2, f3⟩ := hQ
  obtain ⟨w, ew⟩ : ∃ w, o = some w := by
    rcases f3 with ⟨-, e, -⟩ | ⟨-, e, -⟩
    · exact ⟨_, e⟩
    · exact ⟨_, e⟩
  subst ew
  obtain ⟨r4, hr4⟩ : ∃ r4, r4 = pt_mrg 402 r r1 482 (some w) := ⟨_, rfl⟩
  show P (7, 1, 6) qa_hL (wa_i 482 :: qa_hT) (pt_mrg 402 r r1 482 (some w)) M1
  rw [← hr4]
  have lo4 : ∀ t, t < 402 → r4 t = r1 t := fun t ht => by
    rw [hr4]
    exact wa_mlt ht
  have z4 : r4 482 = w := by
    rw [hr4]
    exact wa_mz (by omega)
  refine henv _ _ _ _ _ (fun hE1 _ => ?_)
  refine hseg _ _ _ _ _ _ _ _ _ _ _ _ c2 ⟨pt_m0, pt_m0, pt_m0⟩ ⟨fun _ => ?_, trivial⟩
  obtain ⟨r5, hr5⟩ : ∃ r5, r5 = pt_up r4 [(401, wa_s 482)] := ⟨_, rfl⟩
  show P (16, 1, 6) qa_hL [.inl (0, 0)] (pt_up r4 [(401, wa_s 482)]) M1
  rw [← hr5]
  have n5 : ∀ t, t ≠ 401 → r5 t = r4 t := fun t ht => by
    rw [hr5]
    exact if_neg ht
  have an5 : r5 401 = w := by
    rw [hr5]
    exact z4
  refine hret (16, 1, 6) _ (0, 0) r5 M1 rfl qa_h_l.2.2.2.1 (by decide +kernel) (by decide +kernel) ?_
  have z5 : ai_vx r5 (0, 0) = 0 := by
    show r5 0 + 0 = 0
    rw [n5 0 (by omega), hE1.1]
    rfl
  rw [z5]
  refine ⟨rfl, fun t h1 h2 h3 h4 h5 => by rw [n5 t h5, lo4 t h1]; exact f1 t h1 h2 h3 h4, f2, ?_⟩
  rw [an5]
  rcases f3 with ⟨g1, g2, g3, g4⟩ | ⟨g1, g2, g3, g4⟩
  · exact Or.inl ⟨g1, g2, (n5 _ (by omega)).trans ((lo4 _ (by omega)).trans g3), g4⟩
  · exact Or.inr ⟨g1, g2, (n5 _ (by omega)).trans ((lo4 _ (by omega)).trans g3), g4⟩
