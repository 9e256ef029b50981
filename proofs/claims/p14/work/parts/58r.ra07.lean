/-! LM.place, LM.line, the law's helper -/
theorem ra_p_c : pt_row raY 133 [4] true (0, 0, 0) [ra_16] [] [] [] [] [] [((4, 0, 0), ([ra_16], [ra_17]), [], [])] = true := by decide +kernel
theorem ra_p_k : (cy_vk 133 4 27 raY.2.1 [ra_17] [ra_17] [] && pt_cck raY 133 27 (4, 0, 0) 1 405 [ra_16] [] [ra_17] [ra_17]) = true := by decide +kernel
theorem ra_place {n : Nat} (hn : 7 ≤ n) : pt_Met (n + 1) 133 raY [ra_16] (fun r _ => ra_ok r ∧ r 122 ≤ 3) ra_aQ 1 := by
  obtain ⟨n, rfl⟩ : ∃ m, n = m + 1 := ⟨n - 1, by omega⟩
  refine pt_intro (L0 := [ra_16]) ra_plx.2.2.1 (by omega) rasys (by
    have e : (ct_mt 133).2.2.1 = 1 := by decide +kernel
    rw [e]
    rfl) (fun P r M h hp => ?_)
  obtain ⟨hseg, henv, -, -, -, -, -, -, hcall, -, hret, -, -, -⟩ := h
  refine hseg _ _ _ _ _ _ _ _ _ _ _ _ ra_p_c ⟨pt_m0, pt_m0, pt_m0⟩ ⟨fun _ => ?_, trivial⟩
  show P (4, 0, 0) [ra_16] [ra_17] r M
  have ck := ra_p_k
  rw [Bool.and_eq_true] at ck
  refine hcall (4, 0, 0) _ _ _ _ _ r M 27 1 405 _ _ ra_plx.1 ck.1 ck.2 (ra_addPlace (by omega)) hp (fun r1 M1 o hq => ?_)
  have hq : ra_aQ r M r1 M1 o := hq
  obtain ⟨rc, rs⟩ := ra_rm0 (n := n + 1) ra_bud0.1
  rw [rc, rs]
  obtain ⟨o1, hq2⟩ := hq
  subst o1
  refine hret (7, 0, 0) _ (405, 0) _ M1 rfl (by decide +kernel) (by decide +kernel) (by decide +kernel) ⟨congrArg some ?_, ra_rQ_c hq2 (fun t ht => ra_mlt ht)⟩
  show pt_mrg 325 r r1 405 (some (r 122)) 405 + 0 = r 122
  rw [ra_mz (by omega), Int.add_zero]
noncomputable def ra_nL : List ai_V := [ra_16, ra_i 326, ra_i 327, ra_i 328, ra_i 329]
noncomputable def ra_nS : List ai_V := [ra_i 329, ra_i 328, ra_i 327, ra_i 326, ra_17]
noncomputable def ra_nE : List pt_E := [((61, 0, 0), (ra_nL, ra_nS), [], [])]
theorem ra_n_c : (pt_row raY 134 [61] true (0, 0, 0) ra_nL [] [] [(326, (0, 3)), (327, (0, 3)), (328, (1, 9)), (329, (0, 99))] [((326, 1), (122, 0)), ((327, 1), (122, 0)), ((326, 1), (327, 0))] [] ra_nE && pt_row raY 134 [61] true (0, 0, 0) ra_nL [] [] [(326, (0, 3)), (327, (0, 3)), (328, (1, 9)), (329, (0, 99))] [((326, 1), (122, 0)), ((327, 1), (122, 0)), ((327, 1), (326, 0))] [] ra_nE) = true := by decide +kernel
theorem ra_n_k : (cy_vk 134 61 28 raY.2.1 ra_nS ra_lL [] && pt_cck raY 134 28 (61, 0, 0) 1 405 ra_nL [] ra_lL ra_lL) = true := by decide +kernel
noncomputable def ra_nP (r : Nat → Int) : Prop := ra_ok r ∧ r 123 ≤ 4 ∧ (0 ≤ r 326 ∧ r 326 ≤ 3) ∧ (0 ≤ r 327 ∧ r 327 ≤ 3) ∧ (1 ≤ r 328 ∧ r 328 ≤ 9) ∧ (0 ≤ r 329 ∧ r 329 ≤ 99) ∧ r 326 ≠ r 327 ∧ r 326 + 1 ≤ r 122 ∧ r 327 + 1 ≤ r 122
theorem ra_lself {r : Nat → Int} (h0 : r 0 = 0) : pt_up r (pt_wc ra_lL ra_lL) = r := ra_up_self h0 (fun q hq => by
  have hq : q ∈ [(326, pt_xr (326, 0)), (327, pt_xr (327, 0)), (328, pt_xr (328, 0)), (329, pt_xr (329, 0))] := hq
  simp only [List.mem_cons, List.not_mem_nil, or_false] at hq
  rcases hq with rfl | rfl | rfl | rfl <;> rfl)
theorem ra_line {n : Nat} (hn : 7 ≤ n) : pt_Met (n + 1) 134 raY ra_nL (fun r _ => ra_nP r) ra_lQ 1 := by
  obtain ⟨n, rfl⟩ : ∃ m, n = m + 1 := ⟨n - 1, by omega⟩
  refine pt_intro (L0 := ra_nL) ra_plx.2.2.2.1 (by omega) rasys (by
    have e : (ct_mt 134).2.2.1 = 5 := by decide +kernel
    rw [e]
    rfl) (fun P r M h hp => ?_)
  obtain ⟨hseg, henv, -, -, -, -, -, -, hcall, -, hret, -, -, -⟩ := h
  refine henv _ _ _ _ _ (fun hE _ => ?_)
  have h0 : r 0 = 0 := hE.1
  obtain ⟨p1, p2, p3, p4, p5, p6, p7, p8, p9⟩ := hp
  have rows := ra_n_c
  rw [Bool.and_eq_true] at rows
  have next : P (61, 0, 0) ra_nL ra_nS r M := by
    have ck := ra_n_k
    rw [Bool.and_eq_true] at ck
    refine hcall (61, 0, 0) _ _ _ _ _ r M 28 1 405 _ _ ra_plx.2.1 ck.1 ck.2 (ra_addLine (by omega)) (by
      rw [ra_lself h0]
      exact ⟨p1, p2, p3, p4, ⟨by omega, p5.2⟩, p6, p7⟩) (fun r1 M1 o hq => ?_)
    rw [ra_lself h0] at hq
    obtain ⟨rc, rs⟩ := ra_rm0 (n := n + 1) ra_bud0.2.1
    rw [rc, rs]
    have hq := hq
    obtain ⟨ln, q1, q2, q3, q4⟩ := hq
    subst q3
    refine hret (64, 0, 0) _ (405, 0) _ M1 rfl (by decide +kernel) (by decide +kernel) (by decide +kernel) ⟨ln, q1, q2, congrArg some ?_, ra_rQ_c q4 (fun t ht => ra_mlt ht)⟩
    show pt_mrg 325 r r1 405 (some (r 123)) 405 + 0 = r 123
    rw [ra_mz (by omega), Int.add_zero]
  have cps : ∀ q ∈ [(326, ((0 : Int), (3 : Int))), (327, ((0 : Int), (3 : Int))), (328, ((1 : Int), (9 : Int))), (329, ((0 : Int), (99 : Int)))], q.2.1 ≤ r q.1 ∧ r q.1 ≤ q.2.2 := pt_m4 p3 p4 p5 p6
  rcases (by omega : r 326 + 1 ≤ r 327 ∨ r 327 + 1 ≤ r 326) with q | q
  · exact hseg _ _ _ _ _ _ _ _ _ _ _ _ rows.1 ⟨pt_m0, cps, pt_m3 (by show r 326 + 1 ≤ r 122 + 0; omega) (by show r 327 + 1 ≤ r 122 + 0; omega) (by show r 326 + 1 ≤ r 327 + 0; omega)⟩ ⟨fun _ => next, trivial⟩
  · exact hseg _ _ _ _ _ _ _ _ _ _ _ _ rows.2 ⟨pt_m0, cps, pt_m3 (by show r 326 + 1 ≤ r 122 + 0; omega) (by show r 327 + 1 ≤ r 122 + 0; omega) (by show r 327 + 1 ≤ r 326 + 0; omega)⟩ ⟨fun _ => next, trivial⟩
noncomputable def ra_hL : List ai_V := [ra_16, ra_i 326, ra_i 327, ra_i 328, ra_i 329, ra_335, ra_u]
noncomputable def ra_hS : List ai_V := [ra_i 329, ra_i 328, ra_i 327, ra_i 326, ra_16, .inl (0, 0), ra_335]
noncomputable def ra_hT : List ai_V := [.inl (0, 0), ra_335]
theorem ra_h_c (mi : Nat) (h : mi = 258 ∨ mi = 265) : pt_row raY mi [9] true (0, 0, 0) ra_hL [] [] [] [] [] [((9, 0, 0), (ra_hL, ra_hS), [], [])] = true ∧ pt_row raY mi [22] true (12, 1, 6) ra_hL (ra_i 405 :: ra_hT) [] [] [] [] [((22, 1, 6), (ra_hL, [.inl (0, 0)]), [(319, ra_s 405)], [])] = true := by
  rcases h with rfl | rfl
  · exact ⟨by decide +kernel, by decide +kernel⟩
  · exact ⟨by decide +kernel, by decide +kernel⟩
theorem ra_h_k : (cy_vk 258 9 134 raY.2.1 ra_hS ra_nL ra_hT && pt_cck raY 258 134 (9, 0, 0) 1 405 ra_hL ra_hT ra_nL ra_nL) = true := by decide +kernel
noncomputable def ra_hQ (r : Nat → Int) (M : Nat → Nat → Int) (r2 : Nat → Int) (M2 : Nat → Nat → Int) (o : Option Int) : Prop := o = some 0 ∧ ∃ r1 w, ra_lQ r M r1 M2 (some w) ∧ r2 319 = w ∧ ∀ t, t < 325 → t ≠ 319 → r2 t = r1 t
theorem ra_nself {r : Nat → Int} (h0 : r 0 = 0) : pt_up r (pt_wc ra_nL ra_nL) = r := ra_lself h0
theorem ra_helpLine {n : Nat} (hn : 8 ≤ n) : pt_Met (n + 1) 258 raY (ra_nL ++ [ra_335]) (fun r _ => ra_nP r) ra_hQ 1 := by
  obtain ⟨n, rfl⟩ : ∃ m, n = m + 1 := ⟨n - 1, by omega⟩
  refine pt_intro (L0 := ra_hL) ra_plx.2.2.2.2.1 (by omega) rasys (by
    have e : (ct_mt 258).2.2.1 = 7 := by decide +kernel
    rw [e]
    rfl) (fun P r M h hp => ?_)
  obtain ⟨hseg, henv, -, -, -, -, -, -, hcall, -, hret, -, -, -⟩ := h
  refine henv _ _ _ _ _ (fun hE _ => ?_)
  have h0 : r 0 = 0 := hE.1
  obtain ⟨c1, c2⟩ := ra_h_c 258 (Or.inl rfl)
  refine hseg _ _ _ _ _ _ _ _ _ _ _ _ c1 ⟨pt_m0, pt_m0, pt_m0⟩ ⟨fun _ => ?_, trivial⟩
  show P (9, 0, 0) ra_hL ra_hS r M
  have ck := ra_h_k
  rw [Bool.and_eq_true] at ck
  refine hcall (9, 0, 0) _ _ _ _ _ r M 134 1 405 _ _ ra_plx.2.2.2.1 ck.1 ck.2 (ra_line (by omega)) (by
    rw [ra_nself h0]
    exact hp) (fun r1 M1 o hq => ?_)
  rw [ra_nself h0] at hq
  obtain ⟨rc, rs⟩ := ra_rmk (n := n + 1) ra_bud1.1
  rw [rc, rs]
  have hq := hq
  obtain ⟨ln, q1, q2, q3, q4⟩ := hq
  subst q3
  obtain ⟨s1, hs1⟩ : ∃ s1, s1 = pt_mrg 325 r r1 405 (some (r 123)) := ⟨_, rfl⟩
  show P (12, 1, 6) ra_hL (ra_i 405 :: ra_hT) (pt_mrg 325 r r1 405 (some (r 123))) M1
  have ez : s1 405 = r 123 := by rw [hs1]; exact ra_mz (by omega)
  have m1 : ∀ t, t < 325 → s1 t = r1 t := fun t ht => by rw [hs1]; exact ra_mlt ht
  rw [← hs1]
  refine henv _ _ _ _ _ (fun hE1 _ => ?_)
  refine hseg _ _ _ _ _ _ _ _ _ _ _ _ c2 ⟨pt_m0, pt_m0, pt_m0⟩ ⟨fun _ => ?_, trivial⟩
  refine hret (22, 1, 6) _ (0, 0) _ M1 rfl (by decide +kernel) (by decide +kernel) (by decide +kernel) ⟨congrArg some ?_, r1, r 123, ⟨ln, q1, q2, rfl, q4⟩, ?_, fun t ht hn => ?_⟩
  · show s1 0 + 0 = 0
    rw [hE1.1, Int.add_zero]
  · show s1 405 = r 123
    exact ez
  · refine Eq.trans ?_ (m1 t ht)
    exact if_neg hn
