/-! TEXTS (the reference): offer's contract -/
noncomputable def go_W : List (Nat × pt_X) := [(70, gz_k 0), (75, gz_k 0), (76, gz_k 0), (77, gz_p 393), (83, gz_k 0), (86, gz_k 0)]
theorem go_c : pt_row gbY 203 [68] true (0, 0, 0) [wa_r 264, wa_i 392, wa_i 393, wa_u] [] [] [(392, (0, 3)), (393, (0, 200))] [((392, 1), (73, 0)), ((393, 0), (75, 0))] [] [((68, 0, 0), (gb_oL, [gz_n 0, gz_n 4, wa_r 286]), go_W, [])] = true ∧
    gb_rw 203 [128, 129] true 98 gb_oL [] [(83, (1, 3))] 128 gb_oL [wa_i 83] [(85, gz_p 84)] = true ∧ gb_rw 203 [128, 129] true 98 gb_oL [] [(83, (0, 0))] 129 gb_oL [] [(85, gz_k (-1))] = true := by decide +kernel
theorem go_k : (pt_is 5 203 128 = true ∧ pt_is 5 203 261 = true) ∧ (ct_mt 203).2.2.1 = 4 := by decide +kernel
theorem go_g : ((286, 5, 0) ∈ gbY.2.2.1 ∧ (288, 40, 0) ∈ gbY.2.2.1) ∧ (289, 40, 0) ∈ gbY.2.2.1 ∧ (290, 2000, 0) ∈ gbY.2.2.1 := by decide +kernel
noncomputable def go_ch (t : Nat) : Bool := gb_pch t || [70, 75, 77, 85].elem t
theorem go_ch_n {t : Nat} (h : go_ch t = false) : gb_pch t = false ∧ t ≠ 70 ∧ t ≠ 75 ∧ t ≠ 77 ∧ t ≠ 85 ∧ t ≠ 76 ∧ t ≠ 83 ∧ t ≠ 86 := by
  unfold go_ch at h
  rw [Bool.or_eq_false_iff] at h
  obtain ⟨h1, h2⟩ := h
  have key : ∀ u ∈ [70, 75, 77, 85], t ≠ u := fun u hu e => by
    subst e
    rw [List.elem_eq_true_of_mem hu] at h2
    cases h2
  have key2 : ∀ u, gb_pch u = true → t ≠ u := fun u hu e => by
    subst e
    rw [hu] at h1
    cases h1
  exact ⟨h1, key _ (by simp), key _ (by simp), key _ (by simp), key _ (by simp), key2 _ (by decide), key2 _ (by decide), key2 _ (by decide)⟩
noncomputable def go_P (v : Nat) (A : Nat → Int) (N : Nat) (r : Nat → Int) (M : Nat → Nat → Int) : Prop := ((r 392 = (v : Int) ∧ (v : Int) + 1 ≤ r 73) ∧ r 393 = (N : Int) ∧ (N : Int) ≤ r 75) ∧ (ps_A A N ∧ ∀ j, j < N → M 285 j = A j) ∧ gz_pw M
/-- a mill's offer in the reference's arrays -/
noncomputable def go_K (v : Nat) (l : List Int) (M : Nat → Nat → Int) : Prop := l.length ≤ 200 ∧ ((gb_tb l 0 0).length ≤ 8 ∧ M 286 v = ((gb_tb l 0 0).length : Int)) ∧ (∀ k, k < (gb_tb l 0 0).length → M 287 (8 * v + k) = ((gb_tb l 0 0).getD k (0, 0, 0)).1 ∧ M 288 (8 * v + k) = (((gb_tb l 0 0).getD k (0, 0, 0)).2.1 : Int) ∧ M 289 (8 * v + k) = (((gb_tb l 0 0).getD k (0, 0, 0)).2.2 : Int)) ∧ ∀ j, j < (gb_cs l).length → M 290 (400 * v + j) = (gb_cs l).getD j 0
noncomputable def go_Q (v : Nat) (A : Nat → Int) (N : Nat) (r : Nat → Int) (M : Nat → Nat → Int) (r2 : Nat → Int) (M2 : Nat → Nat → Int) (o : Option Int) : Prop := o = some (ps_read A N).2.2.1 ∧ (r2 70 = 0 ∧ r2 75 = 0 ∧ r2 85 = (ps_read A N).2.2.2) ∧ (gz_pw M2 ∧ (∀ t, t < 391 → go_ch t = false → t ≠ 369 + v → r2 t = r t) ∧ r2 (369 + v) = if (ps_read A N).2.2.1 = 0 then 1 else r (369 + v)) ∧ ((ps_read A N).2.2.1 ≠ 0 → ∀ z j, ¬ gb_tmq z j → M2 z j = M z j) ∧ ((ps_read A N).2.2.1 = 0 → (go_K v (ps_read A N).2.1 M2 ∧ ps_gc (ps_read A N).2.1) ∧ ∀ z j, ¬ gb_tmq z j → ¬ go_own v z j → M2 z j = M z j)
theorem go_hs : ∀ v, v < 4 → go_ch (369 + v) = false := by decide
set_option maxHeartbeats 1000000 in
theorem go_M {n v N : Nat} {A : Nat → Int} (hn : 58 ≤ n) (hv : v < 4) : pt_Met (n + 1) 203 gbY [wa_r 264, wa_i 392, wa_i 393] (go_P v A N) (go_Q v A N) 1 := by
  refine pt_introP (L0 := [wa_r 264, wa_i 392, wa_i 393, wa_u]) (gb_b0 203 (by decide)).2 (by omega) gbsys (by
    rw [go_k.2]
    rfl) go_g (by decide +kernel) (fun P P0 r M h hST hT0 hp => ?_)
  have h' := h
  obtain ⟨hseg, henv, hrel, -, -, -, -, -, -, -, hret, -⟩ := h'
  obtain ⟨c1, c2, c3⟩ := go_c
  refine henv _ _ _ _ _ (fun hE _ => ?_)
  have h0 : r 0 = 0 := hE.1
  obtain ⟨⟨⟨p1, p2⟩, p3, p4⟩, ⟨pA, pM⟩, pW⟩ := hp
  have N200 := pA.1
  refine hseg _ _ _ _ _ r M _ _ _ _ _ c1 ⟨pt_m0, pt_m2 ⟨by show (0 : Int) ≤ r 392; omega, by show r 392 ≤ 3; omega⟩ ⟨by show (0 : Int) ≤ r 393; omega, by show r 393 ≤ 200; omega⟩, pt_m2 (by show r 392 + 1 ≤ r 73 + 0; omega) (by show r 393 + 0 ≤ r 75 + 0; omega)⟩ ⟨fun _ => ?_, trivial⟩
  obtain ⟨r1, hr1⟩ : ∃ r1, r1 = pt_up r go_W := ⟨_, rfl⟩
  show P (68, 0, 0) gb_oL [gz_n 0, gz_n 4, wa_r 286] (pt_up r go_W) M
  rw [← hr1]
  have v1 : ∀ t, r1 t = if t = 70 then 0 else if t = 75 then 0 else if t = 76 then 0 else if t = 77 then r 393 else if t = 83 then 0 else if t = 86 then 0 else r t := fun t => by
    rw [hr1]
    rfl
  have k1 : r1 76 = 0 ∧ r1 83 = 0 ∧ r1 86 = 0 := by
    rw [hr1]
    exact ⟨rfl, rfl, rfl⟩
  have k2 : r1 70 = 0 ∧ r1 75 = 0 ∧ r1 77 = (N : Int) := by
    rw [hr1]
    exact ⟨rfl, rfl, p3⟩
  refine gb_oread (A := A) (N := N) h hST hn (show gb_T A N r1 M from ⟨k2.2.2, pA, pM⟩) k1 (fun r2 M2 g1 g2 g3 g4 g5 => ?_)
  have fB : r2 392 = (v : Int) := by
    rw [g5 _ (by omega) (by omega), v1]
    rw [if_neg (by omega), if_neg (by omega), if_neg (by omega), if_neg (by omega), if_neg (by omega), if_neg (by omega)]
    exact p1
  have f2 : ∀ t, t < 391 → go_ch t = false → r2 t = r t := fun t a b => by
    obtain ⟨b1, b2, b3, b4, b5, b6, b7, b8⟩ := go_ch_n b
    rw [g4.1 t a b1, v1, if_neg b2, if_neg b3, if_neg b6, if_neg b4, if_neg b7, if_neg b8]
  have s2 : r2 70 = 0 ∧ r2 75 = 0 := ⟨(g4.1 _ (by omega) (by decide)).trans k2.1, (g4.1 _ (by omega) (by decide)).trans k2.2.1⟩
  obtain ⟨e0, e1, e2, e3⟩ := g1.2.1
  have pwc : gz_pw M2 := gz_pw_c pW (fun z x w => g4.2 z x (by unfold gb_tmq; omega))
  by_cases w : (ps_read A N).2.2.1 = 0
  · obtain ⟨-, hc1, hc2⟩ := g1.2.2 w
    obtain ⟨i, hi, hTB⟩ := g3 w
    have z := g2 w
    have l200 : (ps_read A N).2.1.length ≤ 200 := by omega
    have c400 : (gb_cs (ps_read A N).2.1).length ≤ 400 := by
      have := gb_cs_l (l := (ps_read A N).2.1)
      omega
    have gc := ps_read_gc pA w
    refine hseg _ _ _ _ _ r2 M2 _ _ _ _ _ c3 ⟨pt_m0, pt_m1 ⟨by show (0 : Int) ≤ r2 83; omega, by show r2 83 ≤ 0; omega⟩, pt_m0⟩ ⟨fun _ => ?_, trivial⟩
    obtain ⟨r3, hr3⟩ : ∃ r3, r3 = pt_up r2 [(85, gz_k (-1))] := ⟨_, rfl⟩
    show P (129, 0, 0) gb_oL [] (pt_up r2 [(85, gz_k (-1))]) M2
    rw [← hr3]
    have n3 : ∀ t, t ≠ 85 → r3 t = r2 t := fun t x => by
      rw [hr3]
      exact if_neg x
    have s3 : r3 85 = -1 := by
      rw [hr3]
      rfl
    refine henv _ _ _ _ _ (fun hE3 _ => ?_)
    have h30 : r3 0 = 0 := hE3.1
    refine hrel (129, 0, 0) _ (gb_oT v) [] [] r3 M2 ⟨rfl, ⟨by show 0 < 491; omega, by show r3 392 + 0 = r3 0 + (v : Int); rw [n3 _ (by omega)]; omega⟩, trivial, trivial, trivial⟩ trivial ?_
    refine hT0.1 _ _ _ _ _ ?_
    refine gb_tail (c := (gb_cs (ps_read A N).2.1).length) hT0 hv c400 ((n3 _ (by omega)).trans hc1) h30 (fun r4 f4 f5 => ?_)
    have hW : gz_pw (gb_cq v 8 8 8 1 (gb_cs (ps_read A N).2.1).length M2) := go_pw hv pwc hTB hi gc l200 rfl hc2
    refine hT0.2.2.2.2.2 _ _ _ _ _ hW ?_
    obtain ⟨⟨t1, t2⟩, t3, t4⟩ := hTB
    refine hret (261, 0, 0) _ (0, 0) r4 _ rfl go_k.1.2 (by decide +kernel) (by decide +kernel) ⟨congrArg some ?_, ⟨(f4 _ (by omega) (by omega)).trans ((n3 _ (by omega)).trans s2.1), (f4 _ (by omega) (by omega)).trans ((n3 _ (by omega)).trans s2.2), (f4 _ (by omega) (by omega)).trans (s3.trans (ps_read_pl w).symm)⟩, ⟨hW, fun t a b b' => ?_, ?_⟩, fun q => absurd w q, fun _ => ⟨⟨⟨l200, ⟨by omega, ?_⟩, fun k hk => ?_, fun j hj => ?_⟩, gc⟩, fun z j a b => ?_⟩⟩
    · show r4 0 + 0 = _
      rw [f4 0 (by omega) (by omega), h30, w]
      rfl
    · obtain ⟨b1, b2, b3, b4, b5, b6, b7, b8⟩ := go_ch_n b
      rw [f4 t a b', n3 t b5]
      exact f2 t a b
    · rw [f5, if_pos w]
    · rw [go_cq0, t3, t1]
    · obtain ⟨u1, u2, u3⟩ := t4 k (by omega)
      rw [go_cq1 (by omega), go_cq2 (by omega), go_cq3 (by omega)]
      exact ⟨u1, u2, u3⟩
    · rw [go_cq4 hj]
      exact hc2 j hj
    · rw [go_cqn c400 b]
      exact g4.2 z j a
  · refine hseg _ _ _ _ _ r2 M2 _ _ _ _ _ c2 ⟨pt_m0, pt_m1 ⟨by show (1 : Int) ≤ r2 83; omega, by show r2 83 ≤ 3; omega⟩, pt_m0⟩ ⟨fun _ => ?_, trivial⟩
    obtain ⟨r3, hr3⟩ : ∃ r3, r3 = pt_up r2 [(85, gz_p 84)] := ⟨_, rfl⟩
    show P (128, 0, 0) gb_oL [wa_i 83] (pt_up r2 [(85, gz_p 84)]) M2
    rw [← hr3]
    have n3 : ∀ t, t ≠ 85 → r3 t = r2 t := fun t x => by
      rw [hr3]
      exact if_neg x
    have s3 : r3 85 = (ps_read A N).2.2.2 := by
      rw [hr3]
      exact e1 w
    refine hret (128, 0, 0) _ (83, 0) r3 M2 rfl go_k.1.1 (by decide +kernel) (by decide +kernel) ⟨congrArg some ?_, ⟨(n3 _ (by omega)).trans s2.1, (n3 _ (by omega)).trans s2.2, s3⟩, ⟨pwc, fun t a b _ => ?_, ?_⟩, fun _ => g4.2, fun q => absurd q w⟩
    · show r3 83 + 0 = _
      rw [n3 _ (by omega), e0, Int.add_zero]
    · obtain ⟨b1, b2, b3, b4, b5, b6, b7, b8⟩ := go_ch_n b
      rw [n3 t b5]
      exact f2 t a b
    · rw [if_neg w, n3 _ (by omega)]
      exact f2 _ (by omega) (go_hs v hv)
