/-! addLine -/
noncomputable def ra_lL : List ai_V := [ra_17, ra_i 326, ra_i 327, ra_i 328, ra_i 329]
noncomputable def ra_l2 (ln : Nat) : List (Nat × pt_X) := [(123, ra_c (ln + 1)), (164 + ln, ra_s 326), (169 + ln, ra_s 327), (174 + ln, ra_s 328), (320 + ln, ra_s 329)]
theorem ra_l_c : (List.range 5).all (fun ln => pt_row raY 28 [62] true (0, 0, 0) ra_lL [] [(123, .ofNat ln)] [(326, (0, 3)), (327, (0, 3)), (328, (0, 9)), (329, (0, 99))] [] [24, 25, 26, 27] [((62, 0, 0), (ra_lL, [ra_17]), ra_l2 ln, [])]) = true := by decide +kernel
theorem ra_l_d : pt_row raY 28 [71] true (65, 0, 0) ra_lL [] [] [(123, (1, 5))] [] [] [((71, 0, 0), (ra_lL, [ra_i 405]), [(405, [(0, 123, 0), (3, 0, -1)])], [])] = true := by decide +kernel
theorem ra_l_k : (cy_vk 28 62 38 raY.2.1 [ra_17] [ra_17] [] && pt_cck raY 28 38 (62, 0, 0) 0 330 ra_lL [] [ra_17] [ra_17]) = true := by decide +kernel
theorem ra_l2_v (r : Nat → Int) {ln : Nat} (h : ln < 5) : pt_up r (ra_l2 ln) 123 = ((ln + 1 : Nat) : Int) ∧ pt_up r (ra_l2 ln) (164 + ln) = r 326 ∧ pt_up r (ra_l2 ln) (169 + ln) = r 327 ∧ pt_up r (ra_l2 ln) (174 + ln) = r 328 ∧ ∀ t, t ≠ 123 → t ≠ 164 + ln → t ≠ 169 + ln → t ≠ 174 + ln → t ≠ 320 + ln → pt_up r (ra_l2 ln) t = r t := by
  refine ⟨?_, ?_, ?_, ?_, fun t h1 h2 h3 h4 h5 => ?_⟩
  · show (if 123 = 123 then pt_v r (ra_c (ln + 1)) else _) = _
    rw [if_pos rfl]
    rfl
  · show (if 164 + ln = 123 then _ else if 164 + ln = 164 + ln then pt_v r (ra_s 326) else _) = _
    rw [if_neg (by omega), if_pos rfl]
    rfl
  · show (if 169 + ln = 123 then _ else if 169 + ln = 164 + ln then _ else if 169 + ln = 169 + ln then pt_v r (ra_s 327) else _) = _
    rw [if_neg (by omega), if_neg (by omega), if_pos rfl]
    rfl
  · show (if 174 + ln = 123 then _ else if 174 + ln = 164 + ln then _ else if 174 + ln = 169 + ln then _ else if 174 + ln = 174 + ln then pt_v r (ra_s 328) else _) = _
    rw [if_neg (by omega), if_neg (by omega), if_neg (by omega), if_pos rfl]
    rfl
  · refine ra_up_ne (fun q hq => ?_)
    unfold ra_l2 at hq
    simp only [List.mem_cons, List.not_mem_nil, or_false] at hq
    rcases hq with rfl | rfl | rfl | rfl | rfl
    · exact h1
    · exact h2
    · exact h3
    · exact h4
    · exact h5
noncomputable def ra_lP (r : Nat → Int) : Prop := ra_ok r ∧ r 123 ≤ 4 ∧ (0 ≤ r 326 ∧ r 326 ≤ 3) ∧ (0 ≤ r 327 ∧ r 327 ≤ 3) ∧ (0 ≤ r 328 ∧ r 328 ≤ 9) ∧ (0 ≤ r 329 ∧ r 329 ≤ 99) ∧ r 326 ≠ r 327
noncomputable def ra_lQ (r : Nat → Int) (M : Nat → Nat → Int) (r2 : Nat → Int) (M2 : Nat → Nat → Int) (o : Option Int) : Prop := ∃ ln : Nat, ln < 5 ∧ r 123 = (ln : Int) ∧ o = some (r 123) ∧ ra_rQ (pt_up r (ra_l2 ln)) M r2 M2 none
theorem ra_lQ_c {r r1 r2 : Nat → Int} {M M2 : Nat → Nat → Int} {o : Option Int} (h : ra_lQ r M r1 M2 o) (e : ∀ t, t < 325 → r2 t = r1 t) : ra_lQ r M r2 M2 o := by
  obtain ⟨ln, h1, h2, h3, h4⟩ := h
  exact ⟨ln, h1, h2, h3, ra_rQ_c h4 e⟩
theorem ra_addLine {n : Nat} (hn : 6 ≤ n) : pt_Met (n + 1) 28 raY ra_lL (fun r _ => ra_lP r) ra_lQ 1 := by
  obtain ⟨n, rfl⟩ : ∃ m, n = m + 1 := ⟨n - 1, by omega⟩
  refine pt_intro (L0 := ra_lL) ra_plx.2.1 (by omega) rasys (by
    have e : (ct_mt 28).2.2.1 = 5 := by decide +kernel
    rw [e]
    rfl) (fun P r M h hp => ?_)
  obtain ⟨hseg, henv, -, -, -, -, -, -, hcall, -, hret, -, -, -⟩ := h
  refine henv _ _ _ _ _ (fun hE _ => ?_)
  have b := ra_eb hE ra_bnd.1
  obtain ⟨p1, p2, p3, p4, p5, p6, p7⟩ := hp
  obtain ⟨ln, hln⟩ : ∃ ln : Nat, r 123 = (ln : Int) := ⟨(r 123).toNat, by omega⟩
  have h5 : ln < 5 := by omega
  refine hseg _ _ _ _ _ _ _ _ _ _ _ _ (List.all_eq_true.mp ra_l_c ln (List.mem_range.mpr h5)) ⟨pt_m1 hln, pt_m4 p3 p4 p5 p6, pt_m0⟩ ⟨fun _ => ?_, trivial⟩
  obtain ⟨r0, hr0⟩ : ∃ r0, r0 = pt_up r (ra_l2 ln) := ⟨_, rfl⟩
  show P (62, 0, 0) ra_lL [ra_17] (pt_up r (ra_l2 ln)) M
  obtain ⟨v1, v2, v3, v4, v5⟩ := ra_l2_v r h5
  have ck := ra_l_k
  rw [Bool.and_eq_true] at ck
  have ok1 : ra_ok (pt_up r (ra_l2 ln)) := fun l hl w => by
    rw [v1] at w
    by_cases q : l = ln
    · subst q
      rw [v2, v3]
      exact p7
    · rw [v5 _ (by omega) (by omega) (by omega) (by omega) (by omega), v5 _ (by omega) (by omega) (by omega) (by omega) (by omega)]
      exact p1 l hl (by omega)
  refine hcall (62, 0, 0) _ _ _ _ _ _ M 38 0 330 _ _ ra_rpl ck.1 ck.2 (ra_rework (by omega)) ok1 (fun r1 M1 o hq => ?_)
  have hq : ra_rQ (pt_up r (ra_l2 ln)) M r1 M1 o := hq
  obtain ⟨rc, rs⟩ := ra_rm0 (n := n + 1) ra_r_b.2.2
  have o1 := hq.1
  have o2 := hq.2.1
  subst o1 o2
  rw [rc, rs]
  obtain ⟨s1, hs1⟩ : ∃ s1, s1 = pt_mrg 325 (pt_up r (ra_l2 ln)) r1 330 none := ⟨_, rfl⟩
  show P (65, 0, 0) ra_lL [] (pt_mrg 325 (pt_up r (ra_l2 ln)) r1 330 none) M1
  rw [← hs1]
  have m1 : ∀ t, t < 325 → s1 t = r1 t := fun t ht => by rw [hs1]; exact ra_mlt ht
  have ep : s1 123 = (ln : Int) + 1 := by
    rw [m1 _ (by omega), hq.2.2.2 _ (by unfold ra_keep; omega), v1]
    rfl
  refine hseg _ _ _ _ _ _ _ _ _ _ _ _ ra_l_d ⟨pt_m0, pt_m1 ⟨by show 1 ≤ s1 123; omega, by show s1 123 ≤ 5; omega⟩, pt_m0⟩ ⟨fun _ => ?_, trivial⟩
  refine hret (71, 0, 0) _ (405, 0) _ M1 rfl (by decide +kernel) (by decide +kernel) (by decide +kernel) ⟨ln, h5, hln, congrArg some ?_, ra_rQ_c hq (fun t ht => ?_)⟩
  · show (s1 123 + -1) + 0 = r 123
    omega
  · refine Eq.trans ?_ (m1 t ht)
    exact if_neg (by omega)
