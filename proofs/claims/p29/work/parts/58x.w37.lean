/-! ACT: LM.act, the law's helper, the reference's -/
theorem qa_g_c : pt_row qaY 161 [31] true (0, 0, 0) qa_wL [] [] [(403, (0, 12))] [((403, 1), (69, 0))] [] [((31, 0, 0), (qa_wL, [wa_i 403, wa_r 199]), [], [])] = true := by decide +kernel
theorem qa_g2_c : pt_row qaY 281 [4] true (0, 0, 0) qa_hL [] [] [] [] [] [((4, 0, 0), (qa_hL, qa_hS), [], [])] = true ∧ pt_row qaY 281 [16] true (7, 1, 6) qa_hL (wa_i 482 :: qa_hT) [] [] [] [] [((16, 1, 6), (qa_hL, [.inl (0, 0)]), [(401, wa_s 482)], [])] = true := by decide +kernel
theorem qa_g2_k : (cy_vk 281 4 161 qaY.2.1 qa_hS qa_wL qa_hT && pt_cck qaY 281 161 (4, 0, 0) 1 482 qa_hL qa_hT qa_wL qa_wL) = true := by decide +kernel
theorem qb_g_c : pt_row qbY 253 [30] true (0, 0, 0) [wa_r 264, wa_i 402] [] [] [(402, (0, 12))] [((402, 1), (112, 0))] [] [((30, 0, 0), ([wa_r 264, wa_i 402], [wa_i 402, wa_r 330]), [(72, wq_k 0)], [])] = true := by decide +kernel
theorem qa_g_l : ((lh_plain 161 = true ∧ lh_plain 281 = true ∧ lh_plain 253 = true) ∧ (ct_bud 161 = (1, 6) ∧ ct_bud 281 = (1, 6) ∧ ct_bud 253 = (0, 0))) ∧ (pt_lck qaY 161 31 1 199 13 0 482 qa_wL [] = true ∧ pt_lck qbY 253 30 1 330 13 0 481 [wa_r 264, wa_i 402] [] = true) ∧ (pt_is 5 161 32 = true ∧ pt_is 5 281 16 = true ∧ pt_is 5 253 31 = true) ∧ (ct_mt 161).2.2.1 = 2 ∧ (ct_mt 281).2.2.1 = 4 ∧ (ct_mt 253).2.2.1 = 2 := by decide +kernel
noncomputable def qa_gP (i : Nat) (r : Nat → Int) (_ : Nat → Nat → Int) : Prop := r 403 = (i : Int) ∧ i < 13 ∧ r 403 + 1 ≤ r 69
noncomputable def qa_gQ (i : Nat) (r : Nat → Int) (M : Nat → Nat → Int) (r2 : Nat → Int) (M2 : Nat → Nat → Int) (o : Option Int) : Prop := o = some (M 199 i) ∧ M2 = M ∧ ∀ t, t < 402 → r2 t = r t
theorem qa_gM {n i : Nat} (hn : 4 ≤ n) : pt_Met (n + 1) 161 qaY qa_wL (qa_gP i) (qa_gQ i) 1 := by
  refine pt_intro (L0 := qa_wL) qa_g_l.1.1.1 hn qasys (by
    rw [qa_g_l.2.2.2.1]
    rfl) (fun P r M h hp => ?_)
  obtain ⟨hseg, henv, -, -, hld, -, -, -, -, -, hret, -, -, -⟩ := h
  obtain ⟨p1, p2, p3⟩ := hp
  refine hseg _ _ _ _ _ r M _ _ _ _ _ qa_g_c ⟨pt_m0, pt_m1 ⟨by show (0 : Int) ≤ r 403; omega, by show r 403 ≤ (12 : Int); omega⟩, pt_m1 (by show r 403 + 1 ≤ r 69 + 0; omega)⟩ ⟨fun _ => ?_, trivial⟩
  show P (31, 0, 0) qa_wL [wa_i 403, wa_r 199] r M
  refine hld (31, 0, 0) _ [] r M 199 13 482 i (403, 0) qa_g_l.2.1.1 p2 (by show r 403 + 0 = _; omega) ?_
  obtain ⟨r1, hr1⟩ : ∃ r1, r1 = pt_set r 482 (M 199 i) := ⟨_, rfl⟩
  rw [← hr1]
  refine hret (32, 0, 0) _ (482, 0) r1 M rfl qa_g_l.2.2.1.1 (by decide +kernel) (by decide +kernel) ?_
  have ev : ai_vx r1 (482, 0) = M 199 i := by
    show r1 482 + 0 = _
    rw [hr1, wq_sset, Int.add_zero]
  rw [ev]
  refine ⟨rfl, rfl, fun t ht => ?_⟩
  rw [hr1]
  exact if_neg (by omega)
noncomputable def qa_g2Q (i : Nat) (r : Nat → Int) (M : Nat → Nat → Int) (r2 : Nat → Int) (M2 : Nat → Nat → Int) (o : Option Int) : Prop := o = some 0 ∧ r2 401 = M 199 i ∧ M2 = M ∧ ∀ t, t < 402 → t ≠ 401 → r2 t = r t
theorem qa_g2M {n i : Nat} (hn : 4 ≤ n) : pt_Met (n + 1 + 1) 281 qaY (qa_wL ++ [wa_r 335]) (qa_gP i) (qa_g2Q i) 1 := by
  refine pt_intro (L0 := qa_hL) qa_g_l.1.1.2.1 (by omega) qasys (by
    rw [qa_g_l.2.2.2.2.1]
    rfl) (fun P r M h hp => ?_)
  obtain ⟨hseg, henv, -, -, -, -, -, -, hcall, -, hret, -, -, -⟩ := h
  refine henv _ _ _ _ _ (fun hE _ => ?_)
  have h0 : r 0 = 0 := hE.1
  obtain ⟨c1, c2⟩ := qa_g2_c
  refine hseg _ _ _ _ _ _ _ _ _ _ _ _ c1 ⟨pt_m0, pt_m0, pt_m0⟩ ⟨fun _ => ?_, trivial⟩
  show P (4, 0, 0) qa_hL qa_hS r M
  have ck := qa_g2_k
  rw [Bool.and_eq_true] at ck
  refine hcall (4, 0, 0) _ _ _ _ _ r M 161 1 482 _ _ qa_g_l.1.1.1 ck.1 ck.2 (qa_gM (i := i) hn) (by
    rw [qa_wself h0]
    exact hp) (fun r1 M1 o hQ => ?_)
  rw [qa_wself h0] at hQ
  obtain ⟨rc, rs⟩ := wa_rm (n := n + 1) qa_g_l.1.2.1
  rw [rc, rs]
  obtain ⟨rfl, rfl, f3⟩ := hQ
  obtain ⟨r4, hr4⟩ : ∃ r4, r4 = pt_mrg 402 r r1 482 (some (M1 199 i)) := ⟨_, rfl⟩
  show P (7, 1, 6) qa_hL (wa_i 482 :: qa_hT) (pt_mrg 402 r r1 482 (some (M1 199 i))) M1
  rw [← hr4]
  have lo4 : ∀ t, t < 402 → r4 t = r t := fun t ht => by
    rw [hr4]
    exact (wa_mlt ht).trans (f3 t ht)
  have z4 : r4 482 = M1 199 i := by
    rw [hr4]
    exact wa_mz (by omega)
  refine hseg _ _ _ _ _ _ _ _ _ _ _ _ c2 ⟨pt_m0, pt_m0, pt_m0⟩ ⟨fun _ => ?_, trivial⟩
  obtain ⟨r5, hr5⟩ : ∃ r5, r5 = pt_up r4 [(401, wa_s 482)] := ⟨_, rfl⟩
  show P (16, 1, 6) qa_hL [.inl (0, 0)] (pt_up r4 [(401, wa_s 482)]) M1
  rw [← hr5]
  have n5 : ∀ t, t ≠ 401 → r5 t = r4 t := fun t ht => by
    rw [hr5]
    exact if_neg ht
  have an5 : r5 401 = M1 199 i := by
    rw [hr5]
    exact z4
  refine hret (16, 1, 6) _ (0, 0) r5 M1 rfl qa_g_l.2.2.1.2.1 (by decide +kernel) (by decide +kernel) ?_
  have z5 : ai_vx r5 (0, 0) = 0 := by
    show r5 0 + 0 = 0
    rw [n5 0 (by omega), lo4 0 (by omega), h0]
    rfl
  rw [z5]
  exact ⟨rfl, an5, rfl, fun t h1 h2 => (n5 t h2).trans (lo4 t h1)⟩
noncomputable def qb_gP (i : Nat) (r : Nat → Int) (_ : Nat → Nat → Int) : Prop := r 402 = (i : Int) ∧ i < 13 ∧ r 402 + 1 ≤ r 112
noncomputable def qb_gQ (i : Nat) (r : Nat → Int) (M : Nat → Nat → Int) (r2 : Nat → Int) (M2 : Nat → Nat → Int) (o : Option Int) : Prop := o = some (M 330 i) ∧ M2 = M ∧ r2 72 = 0 ∧ ∀ t, t < 401 → t ≠ 72 → r2 t = r t
theorem qb_gM {n i : Nat} (hn : 4 ≤ n) : pt_Met (n + 1) 253 qbY [wa_r 264, wa_i 402] (qb_gP i) (qb_gQ i) 1 := by
  refine pt_intro (L0 := [wa_r 264, wa_i 402]) qa_g_l.1.1.2.2 hn qbsys (by
    rw [qa_g_l.2.2.2.2.2]
    rfl) (fun P r M h hp => ?_)
  obtain ⟨hseg, henv, -, -, hld, -, -, -, -, -, hret, -, -, -⟩ := h
  obtain ⟨p1, p2, p3⟩ := hp
  refine hseg _ _ _ _ _ r M _ _ _ _ _ qb_g_c ⟨pt_m0, pt_m1 ⟨by show (0 : Int) ≤ r 402; omega, by show r 402 ≤ (12 : Int); omega⟩, pt_m1 (by show r 402 + 1 ≤ r 112 + 0; omega)⟩ ⟨fun _ => ?_, trivial⟩
  obtain ⟨r2, hr2⟩ : ∃ r2, r2 = pt_up r [(72, wq_k 0)] := ⟨_, rfl⟩
  show P (30, 0, 0) [wa_r 264, wa_i 402] [wa_i 402, wa_r 330] (pt_up r [(72, wq_k 0)]) M
  rw [← hr2]
  have n2 : ∀ t, t ≠ 72 → r2 t = r t := fun t ht => by
    rw [hr2]
    exact if_neg ht
  have c2 : r2 72 = 0 := by
    rw [hr2]
    rfl
  refine hld (30, 0, 0) _ [] r2 M 330 13 481 i (402, 0) qa_g_l.2.1.2 p2 (by show r2 402 + 0 = _; rw [n2 _ (by omega)]; omega) ?_
  obtain ⟨r1, hr1⟩ : ∃ r1, r1 = pt_set r2 481 (M 330 i) := ⟨_, rfl⟩
  rw [← hr1]
  have n1 : ∀ t, t ≠ 481 → r1 t = r2 t := fun t ht => by
    rw [hr1]
    exact if_neg ht
  refine hret (31, 0, 0) _ (481, 0) r1 M rfl qa_g_l.2.2.1.2.2 (by decide +kernel) (by decide +kernel) ?_
  have ev : ai_vx r1 (481, 0) = M 330 i := by
    show r1 481 + 0 = _
    rw [hr1, wq_sset, Int.add_zero]
  rw [ev]
  exact ⟨rfl, rfl, (n1 _ (by omega)).trans c2, fun t h1 h2 => (n1 t (by omega)).trans (n2 t h2)⟩
