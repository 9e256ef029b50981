/-! TEXTS (the reference): readClause -/
noncomputable def gb_tmq (z j : Nat) : Prop := (z = 286 ∧ j = 4) ∨ ((z = 287 ∨ z = 288 ∨ z = 289) ∧ 32 ≤ j) ∨ (z = 290 ∧ 1600 ≤ j)
noncomputable def gb_frc (r : Nat → Int) (M : Nat → Nat → Int) (r2 : Nat → Int) (M2 : Nat → Nat → Int) : Prop := (∀ t, t < 391 → gb_pch t = false → r2 t = r t) ∧ ∀ z j, ¬ gb_tmq z j → M2 z j = M z j
theorem gb_frc.tr {r r2 r3 : Nat → Int} {M M2 M3 : Nat → Nat → Int} (h : gb_frc r M r2 M2) (g : gb_frc r2 M2 r3 M3) : gb_frc r M r3 M3 := ⟨fun t h1 h2 => (g.1 t h1 h2).trans (h.1 t h1 h2), fun z j hz => (g.2 z j hz).trans (h.2 z j hz)⟩
theorem gb_frc.of {r r2 : Nat → Int} {M M2 : Nat → Nat → Int} (h : gb_fr r M r2 M2) : gb_frc r M r2 M2 := ⟨h.1, fun z j hz => by
  by_cases e : z = 290
  · subst e
    exact h.2.2 j (by
      rcases Nat.lt_or_ge j 1600 with w | w
      · exact w
      · exact absurd (Or.inr (Or.inr ⟨rfl, w⟩)) hz)
  · rw [h.2.1 z e]⟩
theorem gb_frc.st {r r2 : Nat → Int} {M : Nat → Nat → Int} {q j : Nat} {v : Int} (e : ∀ t, t < 391 → r2 t = r t) (h : gb_tmq q j) : gb_frc r M r2 (pt_sto M q j v) := ⟨fun t h1 _ => e t h1, fun z x hz => if_neg (fun w => hz (by rw [w.1, w.2]; exact h))⟩
theorem gb_frc.cg {r0 r r2 : Nat → Int} {M0 M : Nat → Nat → Int} (h : gb_frc r0 M0 r M) (e : ∀ t, t < 391 → r2 t = r t) : gb_frc r0 M0 r2 M := ⟨fun t h1 h2 => (e t h1).trans (h.1 t h1 h2), h.2⟩
theorem gb_R_st {A : Nat → Int} {N : Nat} {σ : ps_S} {r : Nat → Int} {M : Nat → Nat → Int} {q j : Nat} {v : Int} (hq : q = 286 ∨ q = 287 ∨ q = 288 ∨ q = 289) (h : gb_R A N σ r M) : gb_R A N σ r (pt_sto M q j v) := by
  have e : ∀ z, z ≠ q → pt_sto M q j v z = M z := fun z hz => by
    funext x
    exact if_neg (fun w => hz w.1)
  refine ⟨gb_T_c rfl (e 285 (by omega)) h.1, h.2.1, fun k => ?_⟩
  obtain ⟨a1, a2, a3⟩ := h.2.2 k
  exact ⟨a1, a2, fun x hx => by rw [e 290 (by omega)]; exact a3 x hx⟩
noncomputable def gb_c3 (u v : ai_V) : List ai_V := [wa_r 264, u, v]
noncomputable def gb_cb : List ai_V := gb_c3 (wa_i 392) wa_u
noncomputable def gb_cc : List ai_V := gb_c3 (wa_i 392) (wa_i 393)
noncomputable def gb_cS : List ai_V := [gz_n 4, wa_r 286]
noncomputable abbrev gb_cr2 (st : List Nat) (pc : Nat) (L S : List ai_V) (cp : List (Nat × Int × Int)) (pc2 : Nat) (L2 S2 : List ai_V) (W : List (Nat × pt_X)) : Bool := gb_rw 202 st false pc L S cp pc2 L2 S2 W
theorem gb_c_c : (gb_rw 202 [4] true 0 (gb_c3 wa_u wa_u) [] [] 4 (gb_c3 wa_u wa_u) [rd_ref 9, wa_r 264] [] = true ∧ gb_cr2 [16, 35] 7 (gb_c3 wa_u wa_u) [wa_i 471] [(471, (1, 1))] 35 gb_cb gb_cS [(392, gz_p 471)] = true ∧ gb_cr2 [16, 35] 7 (gb_c3 wa_u wa_u) [wa_i 471] [(471, (0, 0))] 16 gb_cb [rd_ref 10, wa_r 264] [(392, gz_p 471)] = true ∧
      gb_cr2 [35, 53] 19 gb_cb [wa_i 471] [(471, (1, 1))] 35 gb_cb gb_cS [] = true ∧ gb_cr2 [35, 53] 19 gb_cb [wa_i 471] [(471, (0, 0)), (83, (0, 0))] 53 gb_cb [] (gb_bad 1) = true) ∧
    (gb_cr2 [53, 55] 36 gb_cb [wa_i 471] [(471, (8, 8)), (83, (0, 0))] 53 gb_cb [] (gb_bad 2) = true ∧ gb_cr2 [53, 55] 36 gb_cb [wa_i 471] [(471, (0, 7)), (83, (0, 0))] 55 gb_cb [wa_r 264] [] = true ∧ gb_cr2 [65] 58 gb_cb [] [] 65 gb_cb [gz_n 4, wa_r 286, gz_n 32] [] = true ∧ gb_cr2 [74] 66 gb_cb [wa_i 471, gz_n 32] [(471, (0, 7))] 74 gb_cc [gz_n 4, wa_r 286, gz_n 4, wa_r 286] [(393, gz_d 471 32)] = true ∧ gb_cr2 [77] 75 gb_cc [wa_i 471, gz_n 4, wa_r 286] [(471, (0, 7))] 77 gb_cc [.inl (471, 1), gz_n 4, wa_r 286] [] = true) ∧
    (gb_cr2 [92] 78 gb_cc [] [(392, (0, 0))] 92 gb_cc [gz_n 1, wa_i 393, wa_r 287] [] = true ∧ gb_cr2 [92] 78 gb_cc [] [(392, (1, 1))] 92 gb_cc [gz_n 0, wa_i 393, wa_r 287] [] = true ∧ gb_cr2 [102] 93 gb_cc [] [] 102 gb_cc [wa_i 86, wa_i 393, wa_r 288] [] = true ∧ gb_cr2 [105] 103 gb_cc [] [] 105 gb_cc [gz_n 0, wa_r 264] [] = true ∧ gb_cr2 [117] 108 gb_cc [] [] 117 gb_cc [wa_i 86, wa_i 393, wa_r 289] [] = true ∧ gb_cr2 [121] 118 gb_cc [] [] 121 gb_cc [gz_n 59, wa_r 264] [] = true) := by decide +kernel
noncomputable def gb_ik (mi pc k : Nat) (L : List ai_V) : Bool := cy_vk mi pc 191 gbY.2.1 [rd_ref (k + 1), wa_r 264] [wa_r 264, rd_ref (k + 1)] [] && pt_cck gbY mi 191 (pc, 0, 0) 1 471 L [] [wa_r 264, rd_ref (k + 1)] [wa_r 264, rd_ref (k + 1)]
theorem gb_c_k : (gb_ik 202 4 8 (gb_c3 wa_u wa_u) = true ∧ gb_ik 202 16 9 gb_cb = true) ∧ (pt_lck gbY 202 35 1 286 5 0 471 gb_cb [] = true ∧ pt_lck gbY 202 65 1 286 5 0 471 gb_cb [gz_n 32] = true ∧ pt_lck gbY 202 74 1 286 5 0 471 gb_cc [gz_n 4, wa_r 286] = true) ∧ (pt_tck gbY 202 77 286 5 = true ∧ pt_sck gbY 202 92 2 287 40 0 = true ∧ pt_tck gbY 202 102 288 40 = true ∧ pt_tck gbY 202 117 289 40 = true) ∧ (gb_ca 202 55 gb_cb = true ∧ gb_ck 202 105 201 gb_cc (0, 0) = true ∧ gb_ck 202 121 192 gb_cc (0, 59) = true) ∧ (pt_is 7 202 53 = true ∧ pt_is 7 202 124 = true) ∧ (ct_mt 202).2.2.1 = 3 := by decide +kernel
theorem ps_fl_c {A : Nat → Int} {N : Nat} {k : Int} {σ : ps_S} : (ps_fl A N k σ).2.1 = σ.2.1 := by
  unfold ps_fl
  split <;> rfl
theorem gb_cM {A : Nat → Int} {N n i : Nat} {σ : ps_S} (hn : 57 ≤ n) (hi : i ≤ 8) (q : σ.2.2.1 = 0) : pt_Met (n + 1) 202 gbY [wa_r 264] (fun r M => (gb_R A N σ r M ∧ ga_Zs N σ) ∧ gb_TB i σ.2.1 M) (fun r M r2 M2 o => (o = none ∧ gb_frc r M r2 M2) ∧ gb_R A N (ps_cl A N i σ) r2 M2 ∧ ((ps_cl A N i σ).2.2.1 = 0 → gb_TB (i + 1) (ps_cl A N i σ).2.1 M2)) 0 := by
  refine pt_introT (L0 := gb_c3 wa_u wa_u) (gb_b0 202 (by decide)).2 (by omega) gbsys (by
    rw [gb_c_k.2.2.2.2.2]
    rfl) (fun P r M h hST hp => ?_)
  have h' := h
  obtain ⟨hseg, henv, -, -, hld, -, hst, -, -, -, -, -, -, hvret⟩ := h'
  obtain ⟨⟨hR, hz⟩, ⟨tl, tp⟩, tc, tt⟩ := hp
  obtain ⟨h1, ⟨h2, h3, h4, h4'⟩, h5⟩ := id hR
  have hA := h1.2.1
  obtain ⟨⟨c1, c2, c3, c4, c5⟩, ⟨c6, c7, c8, c9, c10⟩, ⟨c11, c12, c13, c14, c15, c16⟩⟩ := gb_c_c
  obtain ⟨⟨k1, k2⟩, ⟨l1, l2, l3⟩, ⟨s1, s2, s3, s4⟩, ⟨k3, k4, k5⟩, ⟨i1, i2⟩, -⟩ := gb_c_k
  have w8 : ps_wc 8 = -15 := by decide
  have w9 : ps_wc 9 = -16 := by decide
  obtain ⟨z1, z2⟩ := hz q
  -- gone wrong: no head, or a clause too many
  have bad : ∀ (k : Int) (r2 : Nat → Int), 1 ≤ k ∧ k ≤ 3 → ps_cl A N i σ = ps_fl A N k σ → (∀ t, t < 391 → r2 t = r t) → P (53, 0, 0) gb_cb [] (pt_up r2 (gb_bad k)) M := fun k r2 hk e l2 => by
    obtain ⟨g1, g2, -⟩ := gb_R_bad (k := k) hk (gb_R_c l2 hR) q rfl
    refine hvret (53, 0, 0) _ _ M rfl i1 (Nat.ble_eq_true_of_le (Nat.zero_le _)) (Nat.ble_eq_true_of_le (Nat.zero_le _)) ⟨⟨rfl, gb_frc.of (gb_fr.cl l2 g2)⟩, by rw [e]; exact g1, fun w => ?_⟩
    rw [e] at w
    unfold ps_fl at w
    rw [if_pos q] at w
    have w : k = 0 := w
    omega
  -- a head is there
  have go : ∀ (r2 : Nat → Int), (∀ t, t < 391 → r2 t = r t) → (r2 392 = 16 + ps_vl A N σ.1) → ps_tk A N σ.1 = 2 → (ps_vl A N σ.1 = -15 ∨ ps_vl A N σ.1 = -16) → P (35, 0, 0) gb_cb gb_cS r2 M := fun r2 e2 b2 t2 v => by
    have hd : ps_hd A N σ := ⟨t2, v⟩
    refine henv _ _ _ _ _ (fun hE2 _ => ?_)
    have y2 : r2 0 = 0 := hE2.1
    refine hld (35, 0, 0) _ [] r2 M 286 5 471 4 (0, 4) l1 (by omega) (by show r2 0 + 4 = _; rw [y2]; rfl) ?_
    rw [tc]
    obtain ⟨r3, hr3⟩ : ∃ r3, r3 = pt_set r2 471 (i : Int) := ⟨_, rfl⟩
    rw [← hr3]
    have n3 : ∀ t, t ≠ 471 → r3 t = r2 t := fun t x => by
      rw [hr3]
      exact if_neg x
    have t3 : r3 471 = (i : Int) := by
      rw [hr3]
      exact gz_sset
    have l3r : ∀ t, t < 391 → r3 t = r t := fun t ht => (n3 t (by omega)).trans (e2 t ht)
    have bd3 : (0 : Int) ≤ r3 83 ∧ r3 83 ≤ 0 := by rw [l3r _ (by omega)]; omega
    show P (36, 0, 0) gb_cb [wa_i 471] r3 M
    by_cases i8 : i < 8
    · have ecl : ps_cl A N i σ = ps_em (ps_vl A N σ.1) (ps_pa A N 59 (ps_ex A N 6 (ps_av A N σ))) := by
        unfold ps_cl
        rw [if_pos hd, if_pos i8]
      refine hseg _ _ _ _ _ r3 M _ _ _ _ _ c7 ⟨pt_m0, pt_mc ⟨by show (0 : Int) ≤ r3 471; omega, by show r3 471 ≤ 7; omega⟩ (pt_m1 bd3), pt_m0⟩ ⟨fun _ => ?_, trivial⟩
      show P (55, 0, 0) gb_cb (wa_r 264 :: []) r3 M
      refine gb_useA h (by omega) k3 (gb_R_c l3r hR) z1 q (fun r4 g1 g2 g3 => ?_)
      have zav := ga_Zs_ok (ps_o1_ok (ps_o1_av (σ := σ) hA (by omega))) hz
      have b4 : r4 392 = 16 + ps_vl A N σ.1 := by rw [g3 _ (by omega), n3 _ (by omega), b2]
      have f4 : gb_frc r M r4 M := gb_frc.of (gb_fr.cl l3r g2)
      refine hseg _ _ _ _ _ r4 M _ _ _ _ _ c8 ⟨pt_m0, pt_m0, pt_m0⟩ ⟨fun _ => ?_, trivial⟩
      refine henv _ _ _ _ _ (fun hE4 _ => ?_)
      have y4 : r4 0 = 0 := hE4.1
      refine hld (65, 0, 0) _ [gz_n 32] r4 M 286 5 471 4 (0, 4) l2 (by omega) (by show r4 0 + 4 = _; rw [y4]; rfl) ?_
      rw [tc]
      obtain ⟨r5, hr5⟩ : ∃ r5, r5 = pt_set r4 471 (i : Int) := ⟨_, rfl⟩
      rw [← hr5]
      have n5 : ∀ t, t ≠ 471 → r5 t = r4 t := fun t x => by
        rw [hr5]
        exact if_neg x
      have t5 : r5 471 = (i : Int) := by
        rw [hr5]
        exact gz_sset
      refine hseg _ _ _ _ _ r5 M _ _ _ _ _ c9 ⟨pt_m0, pt_m1 ⟨by show (0 : Int) ≤ r5 471; omega, by show r5 471 ≤ 7; omega⟩, pt_m0⟩ ⟨fun _ => ?_, trivial⟩
      obtain ⟨r6, hr6⟩ : ∃ r6, r6 = pt_up r5 [(393, gz_d 471 32)] := ⟨_, rfl⟩
      show P (74, 0, 0) gb_cc [gz_n 4, wa_r 286, gz_n 4, wa_r 286] (pt_up r5 [(393, gz_d 471 32)]) M
      rw [← hr6]
      have n6 : ∀ t, t ≠ 393 → r6 t = r5 t := fun t x => by
        rw [hr6]
        exact if_neg x
      have b6 : r6 393 = (i : Int) + 32 := by
        rw [hr6]
        show r5 471 + 32 = _
        rw [t5]
      have y6 : r6 0 = 0 := by rw [n6 _ (by omega), n5 _ (by omega), y4]
      refine hld (74, 0, 0) _ [gz_n 4, wa_r 286] r6 M 286 5 471 4 (0, 4) l3 (by omega) (by show r6 0 + 4 = _; rw [y6]; rfl) ?_
      rw [tc]
      obtain ⟨r7, hr7⟩ : ∃ r7, r7 = pt_set r6 471 (i : Int) := ⟨_, rfl⟩
      rw [← hr7]
      have n7 : ∀ t, t ≠ 471 → r7 t = r6 t := fun t x => by
        rw [hr7]
        exact if_neg x
      have t7 : r7 471 = (i : Int) := by
        rw [hr7]
        exact gz_sset
      have l7 : ∀ t, t < 391 → r7 t = r4 t := fun t ht => by rw [n7 t (by omega), n6 t (by omega), n5 t (by omega)]
      have b17 : r7 392 = 16 + ps_vl A N σ.1 := by rw [n7 _ (by omega), n6 _ (by omega), n5 _ (by omega), b4]
      have b27 : r7 393 = (i : Int) + 32 := by rw [n7 _ (by omega), b6]
      have y7 : r7 0 = 0 := (n7 _ (by omega)).trans y6
      have R7 := gb_R_c l7 g1
      refine hseg _ _ _ _ _ r7 M _ _ _ _ _ c10 ⟨pt_m0, pt_m1 ⟨by show (0 : Int) ≤ r7 471; omega, by show r7 471 ≤ 7; omega⟩, pt_m0⟩ ⟨fun _ => ?_, trivial⟩
      show P (77, 0, 0) gb_cc (.inl (471, 1) :: .inl (0, 4) :: .inr (.inr (some (some 286))) :: []) r7 M
      refine hST (77, 0, 0) _ [] r7 M 286 5 4 (0, 4) (471, 1) s1 (by omega) (by show r7 0 + 4 = _; rw [y7]; rfl) (Or.inl ⟨rfl, rfl⟩) ?_
      have ev : ai_vx r7 (471, 1) = ((i + 1 : Nat) : Int) := by
        show r7 471 + 1 = _
        rw [t7]
        rfl
      rw [ev]
      obtain ⟨M1, hM1⟩ : ∃ M1, M1 = pt_sto M 286 4 ((i + 1 : Nat) : Int) := ⟨_, rfl⟩
      rw [← hM1]
      have R1 : gb_R A N (ps_av A N σ) r7 M1 := by
        rw [hM1]
        exact gb_R_st (by omega) R7
      have F1 : gb_frc r M r7 M1 := (f4.cg l7).tr (by rw [hM1]; exact gb_frc.st (fun _ _ => rfl) (Or.inl ⟨rfl, rfl⟩))
      obtain ⟨kd, hkd⟩ : ∃ kd : Int, kd = -15 - ps_vl A N σ.1 := ⟨_, rfl⟩
      -- the kind, and what follows
      have on : P (92, 0, 0) gb_cc [gz_n kd, wa_i 393, wa_r 287] r7 M1 := by
        show P (92, 0, 0) gb_cc (.inl (0, kd) :: .inl (393, 0) :: .inr (.inr (some (some 287))) :: []) r7 M1
        refine hst (92, 0, 0) _ [] r7 M1 287 40 (32 + i) (393, 0) (0, kd) s2 (by omega) (by show r7 393 + 0 = _; omega) ?_
        have ev : ai_vx r7 (0, kd) = kd := by
          show r7 0 + kd = kd
          omega
        rw [ev]
        obtain ⟨M3, hM3⟩ : ∃ M3, M3 = pt_sto M1 287 (32 + i) kd := ⟨_, rfl⟩
        rw [← hM3]
        have R3 : gb_R A N (ps_av A N σ) r7 M3 := by
          rw [hM3]
          exact gb_R_st (by omega) R1
        have F3 : gb_frc r M r7 M3 := F1.tr (by rw [hM3]; exact gb_frc.st (fun _ _ => rfl) (Or.inr (Or.inl ⟨Or.inl rfl, by omega⟩)))
        refine hseg _ _ _ _ _ r7 M3 _ _ _ _ _ c13 ⟨pt_m0, pt_m0, pt_m0⟩ ⟨fun _ => ?_, trivial⟩
        show P (102, 0, 0) gb_cc (.inl (86, 0) :: .inl (393, 0) :: .inr (.inr (some (some 288))) :: []) r7 M3
        refine hST (102, 0, 0) _ [] r7 M3 288 40 (32 + i) (393, 0) (86, 0) s3 (by omega) (by show r7 393 + 0 = _; omega) (Or.inr (Or.inl ⟨rfl, by omega⟩)) ?_
        have ev : ai_vx r7 (86, 0) = ((gb_cs σ.2.1).length : Int) := by
          show r7 86 + 0 = _
          rw [(R3.2.2 q).2.1, Int.add_zero]
          rfl
        rw [ev]
        obtain ⟨M4, hM4⟩ : ∃ M4, M4 = pt_sto M3 288 (32 + i) ((gb_cs σ.2.1).length : Int) := ⟨_, rfl⟩
        rw [← hM4]
        have R4 : gb_R A N (ps_av A N σ) r7 M4 := by
          rw [hM4]
          exact gb_R_st (by omega) R3
        have F4 : gb_frc r M r7 M4 := F3.tr (by rw [hM4]; exact gb_frc.st (fun _ _ => rfl) (Or.inr (Or.inl ⟨Or.inr (Or.inl rfl), by omega⟩)))
        refine hseg _ _ _ _ _ r7 M4 _ _ _ _ _ c14 ⟨pt_m0, pt_m0, pt_m0⟩ ⟨fun _ => ?_, trivial⟩
        show P (105, 0, 0) gb_cc (.inl (0, 0) :: wa_r 264 :: []) r7 M4
        refine gb_use h (gb_b0 201 (by decide)) k4 (gb_xM hA 6 (by omega) n (by omega) (ps_av A N σ)) R4 zav (by show r7 0 + 0 = (6 : Int) - ((6 : Nat) : Int); omega) (fun r8 M5 d1 d2 d3 => ?_)
        obtain ⟨σ2, hσ2⟩ : ∃ σ2, σ2 = ps_ex A N 6 (ps_av A N σ) := ⟨_, rfl⟩
        rw [← hσ2] at d1
        have zs2 : ga_Zs N σ2 := by
          rw [hσ2]
          exact ga_Zs_ok (ps_ok_ex hA 6 _) zav
        refine hseg _ _ _ _ _ r8 M5 _ _ _ _ _ c15 ⟨pt_m0, pt_m0, pt_m0⟩ ⟨fun _ => ?_, trivial⟩
        show P (117, 0, 0) gb_cc (.inl (86, 0) :: .inl (393, 0) :: .inr (.inr (some (some 289))) :: []) r8 M5
        have b28 : r8 393 = (i : Int) + 32 := by rw [d3 _ (by omega) (by omega), b27]
        refine hST (117, 0, 0) _ [] r8 M5 289 40 (32 + i) (393, 0) (86, 0) s4 (by omega) (by show r8 393 + 0 = _; omega) (Or.inr (Or.inr (Or.inl ⟨rfl, by omega⟩))) ?_
        have ev : ai_vx r8 (86, 0) = r8 86 := by
          show r8 86 + 0 = _
          omega
        rw [ev]
        obtain ⟨M6, hM6⟩ : ∃ M6, M6 = pt_sto M5 289 (32 + i) (r8 86) := ⟨_, rfl⟩
        rw [← hM6]
        have R6 : gb_R A N σ2 r8 M6 := by
          rw [hM6]
          exact gb_R_st (by omega) d1
        have F6 : gb_frc r M r8 M6 := (F4.tr (gb_frc.of d2)).tr (by rw [hM6]; exact gb_frc.st (fun _ _ => rfl) (Or.inr (Or.inl ⟨Or.inr (Or.inr rfl), by omega⟩)))
        refine hseg _ _ _ _ _ r8 M6 _ _ _ _ _ c16 ⟨pt_m0, pt_m0, pt_m0⟩ ⟨fun _ => ?_, trivial⟩
        refine henv _ _ _ _ _ (fun hE8 _ => ?_)
        have y8 : r8 0 = 0 := hE8.1
        show P (121, 0, 0) gb_cc (.inl (0, 59) :: wa_r 264 :: []) r8 M6
        obtain ⟨n, rfl⟩ : ∃ m, n = m + 1 := ⟨n - 1, by omega⟩
        refine gb_use h (gb_b0 192 (by decide)) k5 (gb_pM (A := A) (N := N) (σ := σ2) (c := 59) (by omega) (Or.inr rfl)) R6 zs2 (by show r8 0 + 59 = 59; omega) (fun r9 M7 d4 d5 d6 => ?_)
        have ecl2 : ps_cl A N i σ = ps_em (ps_vl A N σ.1) (ps_pa A N 59 σ2) := by
          rw [ecl, hσ2]
        have pa2 : (ps_pa A N 59 σ2).2.1 = σ2.2.1 := by
          unfold ps_pa
          split
          · split
            · rfl
            · exact ps_fl_c
          · rfl
        have hv : gb_enc (ps_vl A N σ.1) = [] := gb_enc_h v
        refine hvret (124, 0, 0) _ r9 M7 rfl i2 (Nat.ble_eq_true_of_le (Nat.zero_le _)) (Nat.ble_eq_true_of_le (Nat.zero_le _)) ⟨⟨rfl, F6.tr (gb_frc.of d5)⟩, ?_, fun k => ?_⟩
        · rw [ecl2]
          refine ⟨d4.1, d4.2.1, fun k => ?_⟩
          obtain ⟨x1, x2⟩ := d4.2.2 k
          refine ⟨x1, ?_⟩
          show gb_C (gb_cs ((ps_pa A N 59 σ2).2.1 ++ [ps_vl A N σ.1])) r9 M7
          rw [gb_cs_a, hv, List.append_nil]
          exact x2
        · rw [ecl2] at k ⊢
          have k : (ps_pa A N 59 σ2).2.2.1 = 0 := k
          have k2 : σ2.2.2.1 = 0 := (ps_ok_pa (n := N) (c := 59) hA k).1
          obtain ⟨m, hm1, hm2⟩ := ps_sf_ex (A := A) (n := N) 6 (ps_av A N σ)
          rw [← hσ2] at hm1
          have hm1 : σ2.2.1 = σ.2.1 ++ m := hm1
          obtain ⟨x1, x2⟩ := gb_tb_s tp hm2 v
          show gb_TB (i + 1) ((ps_pa A N 59 σ2).2.1 ++ [ps_vl A N σ.1]) M7
          rw [pa2, hm1]
          have cd8 : r8 86 = ((gb_cs (σ.2.1 ++ m)).length : Int) := by
            rw [(d1.2.2 k2).2.1, hm1]
          have m7 : ∀ z, z ≠ 290 → M7 z = M6 z := d5.2.1
          have m5 : ∀ z, z ≠ 290 → M5 z = M4 z := d2.2.1
          have a286 : ∀ j, M7 286 j = M1 286 j := fun j => by
            rw [m7 286 (by decide), hM6]
            show pt_sto M5 289 (32 + i) (r8 86) 286 j = _
            have s : ∀ (Mx : Nat → Nat → Int) (q x : Nat) (v : Int), q ≠ 286 → pt_sto Mx q x v 286 j = Mx 286 j := fun Mx q x v hq => if_neg (fun w => hq w.1.symm)
            rw [s _ _ _ _ (by decide), m5 286 (by decide), hM4, s _ _ _ _ (by decide), hM3, s _ _ _ _ (by decide)]
          have a287 : ∀ j, M7 287 j = if j = 32 + i then kd else M 287 j := fun j => by
            have s : ∀ (Mx : Nat → Nat → Int) (q x : Nat) (v : Int), q ≠ 287 → pt_sto Mx q x v 287 j = Mx 287 j := fun Mx q x v hq => if_neg (fun w => hq w.1.symm)
            rw [m7 287 (by decide), hM6, s _ _ _ _ (by decide), m5 287 (by decide), hM4, s _ _ _ _ (by decide), hM3]
            show (if 287 = 287 ∧ j = 32 + i then kd else M1 287 j) = _
            by_cases e : j = 32 + i
            · rw [if_pos ⟨rfl, e⟩, if_pos e]
            · rw [if_neg (fun w => e w.2), if_neg e, hM1, s _ _ _ _ (by decide)]
          have a288 : ∀ j, M7 288 j = if j = 32 + i then ((gb_cs σ.2.1).length : Int) else M 288 j := fun j => by
            have s : ∀ (Mx : Nat → Nat → Int) (q x : Nat) (v : Int), q ≠ 288 → pt_sto Mx q x v 288 j = Mx 288 j := fun Mx q x v hq => if_neg (fun w => hq w.1.symm)
            rw [m7 288 (by decide), hM6, s _ _ _ _ (by decide), m5 288 (by decide), hM4]
            show (if 288 = 288 ∧ j = 32 + i then ((gb_cs σ.2.1).length : Int) else M3 288 j) = _
            by_cases e : j = 32 + i
            · rw [if_pos ⟨rfl, e⟩, if_pos e]
            · rw [if_neg (fun w => e w.2), if_neg e, hM3, s _ _ _ _ (by decide), hM1, s _ _ _ _ (by decide)]
          have a289 : ∀ j, M7 289 j = if j = 32 + i then r8 86 else M 289 j := fun j => by
            have s : ∀ (Mx : Nat → Nat → Int) (q x : Nat) (v : Int), q ≠ 289 → pt_sto Mx q x v 289 j = Mx 289 j := fun Mx q x v hq => if_neg (fun w => hq w.1.symm)
            rw [m7 289 (by decide), hM6]
            show (if 289 = 289 ∧ j = 32 + i then r8 86 else M5 289 j) = _
            by_cases e : j = 32 + i
            · rw [if_pos ⟨rfl, e⟩, if_pos e]
            · rw [if_neg (fun w => e w.2), if_neg e, m5 289 (by decide), hM4, s _ _ _ _ (by decide), hM3, s _ _ _ _ (by decide), hM1, s _ _ _ _ (by decide)]
          refine ⟨⟨by rw [x1, List.length_append, List.length_singleton, tl], x2⟩, ?_, fun j hj => ?_⟩
          · rw [a286, hM1]
            exact if_pos ⟨rfl, rfl⟩
          · rw [x1, a287, a288, a289]
            by_cases e : j = i
            · subst e
              rw [if_pos rfl, if_pos rfl, if_pos rfl, ← tl, ps_ge, hkd, cd8]
              exact ⟨rfl, rfl, rfl⟩
            · rw [if_neg (by omega), if_neg (by omega), if_neg (by omega), ps_gl (by omega)]
              exact tt j (by omega)
      rcases v with v | v
      · have e0 : kd = 0 := by omega
        rw [e0] at on
        exact hseg _ _ _ _ _ r7 M1 _ _ _ _ _ c12 ⟨pt_m0, pt_m1 ⟨by show (1 : Int) ≤ r7 392; omega, by show r7 392 ≤ 1; omega⟩, pt_m0⟩ ⟨fun _ => on, trivial⟩
      · have e0 : kd = 1 := by omega
        rw [e0] at on
        exact hseg _ _ _ _ _ r7 M1 _ _ _ _ _ c11 ⟨pt_m0, pt_m1 ⟨by show (0 : Int) ≤ r7 392; omega, by show r7 392 ≤ 0; omega⟩, pt_m0⟩ ⟨fun _ => on, trivial⟩
    · have ecl : ps_cl A N i σ = ps_fl A N 2 σ := by
        unfold ps_cl
        rw [if_pos hd, if_neg i8]
      refine hseg _ _ _ _ _ r3 M _ _ _ _ _ c6 ⟨pt_m0, pt_mc ⟨by show (8 : Int) ≤ r3 471; omega, by show r3 471 ≤ 8; omega⟩ (pt_m1 bd3), pt_m0⟩ ⟨fun _ => ?_, trivial⟩
      exact bad 2 r3 (by omega) ecl l3r
  refine hseg _ _ _ _ _ r M _ _ _ _ _ c1 ⟨pt_m0, pt_m0, pt_m0⟩ ⟨fun _ => ?_, trivial⟩
  refine gb_icall (k := 8) (S' := []) h (by omega) (by omega) k1 hR hz (fun _ y r3 s3 f3 => ?_) (fun y r3 s3 f3 => ?_)
  · rw [w8] at y
    obtain ⟨t2, v⟩ := ps_iw_iff.mp y
    refine hseg _ _ _ _ _ r3 M _ _ _ _ _ c2 ⟨pt_m0, pt_m1 ⟨by show (1 : Int) ≤ r3 471; omega, by show r3 471 ≤ 1; omega⟩, pt_m0⟩ ⟨fun _ => ?_, trivial⟩
    refine go _ (fun t ht => (if_neg (by omega)).trans (f3 t (by omega))) ?_ t2 (Or.inl v)
    show r3 471 = _
    omega
  · rw [w8] at y
    refine hseg _ _ _ _ _ r3 M _ _ _ _ _ c3 ⟨pt_m0, pt_m1 ⟨by show (0 : Int) ≤ r3 471; omega, by show r3 471 ≤ 0; omega⟩, pt_m0⟩ ⟨fun _ => ?_, trivial⟩
    obtain ⟨r4, hr4⟩ : ∃ r4, r4 = pt_up r3 [(392, gz_p 471)] := ⟨_, rfl⟩
    show P (16, 0, 0) gb_cb [rd_ref 10, wa_r 264] (pt_up r3 [(392, gz_p 471)]) M
    rw [← hr4]
    have n4 : ∀ t, t ≠ 392 → r4 t = r3 t := fun t x => by
      rw [hr4]
      exact if_neg x
    have b4 : r4 392 = 0 := by
      rw [hr4]
      exact s3
    have l4 : ∀ t, t < 391 → r4 t = r t := fun t ht => (n4 t (by omega)).trans (f3 t (by omega))
    refine gb_icall (k := 9) (S' := []) h (by omega) (by omega) k2 (gb_R_c l4 hR) hz (fun _ y9 r5 s5 f5 => ?_) (fun y9 r5 s5 f5 => ?_)
    · rw [w9] at y9
      obtain ⟨t2, v⟩ := ps_iw_iff.mp y9
      refine hseg _ _ _ _ _ r5 M _ _ _ _ _ c4 ⟨pt_m0, pt_m1 ⟨by show (1 : Int) ≤ r5 471; omega, by show r5 471 ≤ 1; omega⟩, pt_m0⟩ ⟨fun _ => ?_, trivial⟩
      refine go r5 (fun t ht => (f5 t (by omega)).trans (l4 t ht)) ?_ t2 (Or.inr v)
      rw [f5 _ (by omega), b4]
      omega
    · rw [w9] at y9
      have nh : ¬ ps_hd A N σ := fun w => by
        rcases w.2 with v | v
        · exact y ⟨q, ps_iw_iff.mpr ⟨w.1, v⟩⟩
        · exact y9 ⟨q, ps_iw_iff.mpr ⟨w.1, v⟩⟩
      have ecl : ps_cl A N i σ = ps_fl A N 1 σ := by
        unfold ps_cl
        rw [if_neg nh]
      have l5 : ∀ t, t < 391 → r5 t = r t := fun t ht => (f5 t (by omega)).trans (l4 t ht)
      refine hseg _ _ _ _ _ r5 M _ _ _ _ _ c5 ⟨pt_m0, pt_mc ⟨by show (0 : Int) ≤ r5 471; omega, by show r5 471 ≤ 0; omega⟩ (pt_m1 ⟨by show (0 : Int) ≤ r5 83; rw [l5 _ (by omega)]; omega, by show r5 83 ≤ 0; rw [l5 _ (by omega)]; omega⟩), pt_m0⟩ ⟨fun _ => ?_, trivial⟩
      exact bad 1 r5 (by omega) ecl l5
