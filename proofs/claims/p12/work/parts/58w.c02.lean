/-! write: LM.write, the law's helper -/
noncomputable def wa_wL : List ai_V := [wa_r 16, wa_i 392, wa_i 393, wa_i 394]
noncomputable def wa_wS : List ai_V := [wa_i 394, wa_i 393, wa_i 392, wa_r 68]
noncomputable def wa_wB : List ai_V := [wa_r 68, wa_i 392, wa_i 393, wa_i 394]
theorem wa_w_c : pt_row waY 137 [26] true (0, 0, 0) wa_wL [] [] [(392, (0, 11))] [((392, 1), (74, 0))] [] [((26, 0, 0), (wa_wL, wa_wS), [], [])] = true := by decide +kernel
theorem wa_w_k : (cy_vk 137 26 115 waY.2.1 wa_wS wa_wB [] && pt_cck waY 137 115 (26, 0, 0) 1 471 wa_wL [] wa_wB wa_wB) = true := by decide +kernel
theorem wa_self {r : Nat → Int} (h0 : r 0 = 0) : pt_up r (pt_wc wa_wB wa_wB) = r := wa_up_self h0 (fun q hq => by
  have hq : q ∈ [(392, pt_xr (392, 0)), (393, pt_xr (393, 0)), (394, pt_xr (394, 0))] := hq
  simp only [List.mem_cons, List.not_mem_nil, or_false] at hq
  rcases hq with rfl | rfl | rfl <;> rfl)
theorem wa_write {n : Nat} (hn : 5 ≤ n) : pt_Met (n + 1) 137 waY wa_wL (fun r _ => wa_P r) wa_pQ 1 := by
  obtain ⟨n, rfl⟩ : ∃ m, n = m + 1 := ⟨n - 1, by omega⟩
  refine pt_intro (L0 := wa_wL) wa_pl.2.1 (by omega) wasys (by
    rw [wa_ml.2.1]
    rfl) (fun P r M h hp => ?_)
  obtain ⟨hseg, henv, -, -, -, -, -, -, hcall, -, hret, -, -, -⟩ := h
  refine henv _ _ _ _ _ (fun hE _ => ?_)
  have h0 : r 0 = 0 := hE.1
  have hp' := hp
  obtain ⟨s, hs, e1, e2⟩ := hp'
  refine hseg _ _ _ _ _ _ _ _ _ _ _ _ wa_w_c ⟨pt_m0, pt_m1 ⟨by show (0 : Int) ≤ r 392; omega, by show r 392 ≤ (11 : Int); omega⟩, pt_m1 (by show r 392 + 1 ≤ r 74 + 0; omega)⟩ ⟨fun _ => ?_, trivial⟩
  show P (26, 0, 0) wa_wL wa_wS r M
  have ck := wa_w_k
  rw [Bool.and_eq_true] at ck
  refine hcall (26, 0, 0) _ _ _ _ _ r M 115 1 471 _ _ wa_pl.1 ck.1 ck.2 (wa_put (by omega)) (by
    rw [wa_self h0]
    exact hp) (fun r1 M1 o hq => ?_)
  rw [wa_self h0] at hq
  obtain ⟨rc, rs⟩ := wa_rm (n := n + 1) wa_bu.1
  rw [rc, rs]
  obtain ⟨s', q1, q2, q3, q4, q5⟩ := hq
  subst q3
  refine hret (29, 0, 0) _ (471, 0) _ M1 rfl wa_is.2.2.2.2.1 (by decide +kernel) (by decide +kernel) ⟨s', q1, q2, congrArg some ?_, q4, fun t ht => (wa_mlt ht).trans (q5 t ht)⟩
  exact (Int.add_zero _).trans (wa_mz (NL := 391) (by omega))
noncomputable def wa_hL : List ai_V := [wa_r 16, wa_i 392, wa_i 393, wa_i 394, wa_r 335, wa_u]
noncomputable def wa_hS : List ai_V := [wa_i 394, wa_i 393, wa_i 392, wa_r 16, .inl (0, 0), wa_r 335]
noncomputable def wa_hT : List ai_V := [.inl (0, 0), wa_r 335]
theorem wa_h_c : pt_row waY 260 [7] true (0, 0, 0) wa_hL [] [] [] [] [] [((7, 0, 0), (wa_hL, wa_hS), [], [])] = true ∧ pt_row waY 260 [20] true (10, 1, 6) wa_hL (wa_i 471 :: wa_hT) [] [] [] [] [((20, 1, 6), (wa_hL, [.inl (0, 0)]), [(390, wa_s 471)], [])] = true := ⟨by decide +kernel, by decide +kernel⟩
theorem wa_h_k : (cy_vk 260 7 137 waY.2.1 wa_hS wa_wL wa_hT && pt_cck waY 260 137 (7, 0, 0) 1 471 wa_hL wa_hT wa_wL wa_wL) = true := by decide +kernel
/-- the helper: nothing thrown, the answer laid into out -/
noncomputable def wa_hQ (r : Nat → Int) (M : Nat → Nat → Int) (r2 : Nat → Int) (M2 : Nat → Nat → Int) (o : Option Int) : Prop := o = some 0 ∧ ∃ s : Nat, s < 12 ∧ r 392 = (s : Int) ∧ r2 390 = wv_r (r (213 + s)) (r (201 + s)) (r 393) (r 394) ∧ (M2 = if wv_r (r (213 + s)) (r (201 + s)) (r 393) (r 394) = 0 then pt_sto M (70 + s) (r 393).toNat (r 394) else M) ∧ ∀ t, t < 391 → t ≠ 390 → r2 t = r t
theorem wa_self2 {r : Nat → Int} (h0 : r 0 = 0) : pt_up r (pt_wc wa_wL wa_wL) = r := wa_self h0
theorem wa_help {n : Nat} (hn : 6 ≤ n) : pt_Met (n + 1) 260 waY (wa_wL ++ [wa_r 335]) (fun r _ => wa_P r) wa_hQ 1 := by
  obtain ⟨n, rfl⟩ : ∃ m, n = m + 1 := ⟨n - 1, by omega⟩
  refine pt_intro (L0 := wa_hL) wa_pl.2.2.1 (by omega) wasys (by
    rw [wa_ml.2.2.1]
    rfl) (fun P r M h hp => ?_)
  obtain ⟨hseg, henv, -, -, -, -, -, -, hcall, -, hret, -, -, -⟩ := h
  refine henv _ _ _ _ _ (fun hE _ => ?_)
  have h0 : r 0 = 0 := hE.1
  obtain ⟨c1, c2⟩ := wa_h_c
  refine hseg _ _ _ _ _ _ _ _ _ _ _ _ c1 ⟨pt_m0, pt_m0, pt_m0⟩ ⟨fun _ => ?_, trivial⟩
  show P (7, 0, 0) wa_hL wa_hS r M
  have ck := wa_h_k
  rw [Bool.and_eq_true] at ck
  refine hcall (7, 0, 0) _ _ _ _ _ r M 137 1 471 _ _ wa_pl.2.1 ck.1 ck.2 (wa_write (by omega)) (by
    rw [wa_self2 h0]
    exact hp) (fun r1 M1 o hq => ?_)
  rw [wa_self2 h0] at hq
  obtain ⟨rc, rs⟩ := wa_rm (n := n + 1) wa_bu.2.1
  rw [rc, rs]
  obtain ⟨s', q1, q2, q3, q4, q5⟩ := hq
  subst q3
  obtain ⟨w, hw⟩ : ∃ w, w = wv_r (r (213 + s')) (r (201 + s')) (r 393) (r 394) := ⟨_, rfl⟩
  rw [← hw] at q4 ⊢
  obtain ⟨s1, hs1⟩ : ∃ s1, s1 = pt_mrg 391 r r1 471 (some w) := ⟨_, rfl⟩
  show P (10, 1, 6) wa_hL (wa_i 471 :: wa_hT) (pt_mrg 391 r r1 471 (some w)) M1
  have ez : s1 471 = w := by rw [hs1]; exact wa_mz (by omega)
  have m1 : ∀ t, t < 391 → s1 t = r1 t := fun t ht => by rw [hs1]; exact wa_mlt ht
  rw [← hs1]
  refine henv _ _ _ _ _ (fun hE1 _ => ?_)
  refine hseg _ _ _ _ _ _ _ _ _ _ _ _ c2 ⟨pt_m0, pt_m0, pt_m0⟩ ⟨fun _ => ?_, trivial⟩
  refine hret (20, 1, 6) _ (0, 0) _ M1 rfl wa_is.2.2.2.2.2.1 (by decide +kernel) (by decide +kernel) ⟨congrArg some ?_, s', q1, q2, ?_, by rw [← hw]; exact q4, fun t ht hn => ?_⟩
  · show s1 0 + 0 = 0
    rw [hE1.1, Int.add_zero]
  · rw [← hw]
    show s1 471 = w
    exact ez
  · refine Eq.trans ?_ ((m1 t ht).trans (q5 t ht))
    exact if_neg hn
