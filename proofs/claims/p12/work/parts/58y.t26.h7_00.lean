/-! TEXTS (the reference): valueNow, readPart -/
noncomputable def gb_v_r (k : Nat) : Bool := pt_row gbY 195 [25] false (21, 0, 0) (gb_l1 (.inl (0, .ofNat k))) [wa_i 471] [] [(471, (1, 1))] [] [] [((25, 0, 0), (gb_l1 wa_u, [.inl (0, .ofNat k)]), [], [])] && (cy_vk 195 18 191 gbY.2.1 [rd_ref (k + 1), wa_r 264] [wa_r 264, rd_ref (k + 1)] [] && pt_cck gbY 195 191 (18, 0, 0) 1 471 (gb_l1 (.inl (0, .ofNat k))) [] [wa_r 264, rd_ref (k + 1)] [wa_r 264, rd_ref (k + 1)])
theorem gb_v_c : ((List.range 5).all gb_v_r = true ∧ pt_row gbY 195 [18] true (0, 0, 0) (gb_l1 wa_u) [] [] [] [] [] [((18, 0, 0), (gb_l1 (.inl (0, .ofNat 0)), [rd_ref 1, wa_r 264]), [], [])] = true) ∧ (List.range 4).all (fun k => pt_row gbY 195 [18, 33] false (21, 0, 0) (gb_l1 (.inl (0, .ofNat k))) [wa_i 471] [] [(471, (0, 0))] [] [] [((18, 0, 0), (gb_l1 (.inl (0, .ofNat (k + 1))), [rd_ref (k + 2), wa_r 264]), [], [])]) = true ∧ pt_row gbY 195 [18, 33] false (21, 0, 0) (gb_l1 (.inl (0, .ofNat 4))) [wa_i 471] [] [(471, (0, 0))] [] [] [((33, 0, 0), (gb_l1 wa_u, [gz_n (-1)]), [], [])] = true ∧ pt_is 5 195 25 = true ∧ pt_is 5 195 33 = true ∧ (ct_mt 195).2.2.1 = 2 := by decide +kernel
theorem gb_b5 : ct_bud 195 = (0, 0) ∧ lh_plain 195 = true := gb_b0 195 (by decide)
theorem ps_wc5 : ∀ k, k < 5 → ps_wc k = -1 - (k : Int) := by decide
/-- which value a word is -/
noncomputable def gb_vv (v : Int) : Int := if -5 ≤ v then -1 - v else -1
theorem gb_vM {A : Nat → Int} {N n : Nat} {σ : ps_S} (hn : 6 ≤ n) (q : σ.2.2.1 = 0) (t2 : ps_tk A N σ.1 = 2) : pt_Met (n + 1) 195 gbY [wa_r 264] (fun r M => gb_R A N σ r M ∧ ga_Zs N σ) (gz_pu 391 (fun _ => gb_vv (ps_vl A N σ.1))) 1 := by
  refine pt_intro (L0 := gb_l1 wa_u) gb_b5.2 (by omega) gbsys (by
    rw [gb_v_c.2.2.2.2.2]
    rfl) (fun P r M h hp => ?_)
  have h' := h
  obtain ⟨hseg, henv, -, -, -, -, -, -, -, -, hret, -⟩ := h'
  obtain ⟨hR, hz⟩ := hp
  obtain ⟨⟨c1, c2⟩, c3, c4, i1, i2, -⟩ := gb_v_c
  have hA := hR.1.2.1
  have rg := (ps_vl_rg hA σ.1).2 t2
  refine henv _ _ _ _ _ (fun hE _ => ?_)
  have h00 : r 0 = 0 := hE.1
  have lp : ∀ (d k : Nat), k + d = 4 → (∀ j, j < k → ps_vl A N σ.1 ≠ -1 - (j : Int)) → ∀ r2, (∀ t, t < 391 → r2 t = r t) → P (18, 0, 0) (gb_l1 (.inl (0, .ofNat k))) [rd_ref (k + 1), wa_r 264] r2 M := by
    intro d
    induction d with
    | zero =>
      intro k hk no r2 e2
      have k4 : k = 4 := by omega
      subst k4
      have row := List.all_eq_true.mp c1 4 (List.mem_range.mpr (by omega))
      unfold gb_v_r at row
      rw [Bool.and_eq_true] at row
      have w5 := ps_wc5 4 (by omega)
      refine gb_icall (k := 4) (S' := []) h (by omega) (by omega) row.2 (gb_R_c e2 hR) hz (fun _ y r3 s3 f3 => ?_) (fun y r3 s3 f3 => ?_)
      · have vk := (ps_iw_iff.mp y).2
        refine hseg _ _ _ _ _ r3 M _ _ _ _ _ row.1 ⟨pt_m0, pt_m1 ⟨by show (1 : Int) ≤ r3 471; omega, by show r3 471 ≤ 1; omega⟩, pt_m0⟩ ⟨fun _ => ?_, trivial⟩
        refine hret (25, 0, 0) _ (0, .ofNat 4) r3 M rfl i1 (by decide +kernel) (by decide +kernel) ⟨congrArg some ?_, rfl, fun t ht => (f3 t (by omega)).trans (e2 t ht)⟩
        show r3 0 + 4 = gb_vv (ps_vl A N σ.1)
        rw [f3 0 (by omega), e2 0 (by omega), h00, vk, w5]
        rfl
      · have nv : ps_vl A N σ.1 ≠ -1 - (4 : Nat) := fun e => y ⟨q, ps_iw_iff.mpr ⟨t2, by rw [w5]; exact e⟩⟩
        refine hseg _ _ _ _ _ r3 M _ _ _ _ _ c4 ⟨pt_m0, pt_m1 ⟨by show (0 : Int) ≤ r3 471; omega, by show r3 471 ≤ 0; omega⟩, pt_m0⟩ ⟨fun _ => ?_, trivial⟩
        refine hret (33, 0, 0) _ (0, -1) r3 M rfl i2 (by decide +kernel) (by decide +kernel) ⟨congrArg some ?_, rfl, fun t ht => (f3 t (by omega)).trans (e2 t ht)⟩
        show r3 0 + -1 = gb_vv (ps_vl A N σ.1)
        have n0 := no 0 (by omega)
        have n1 := no 1 (by omega)
        have n2 := no 2 (by omega)
        have n3 := no 3 (by omega)
        unfold gb_vv
        rw [f3 0 (by omega), e2 0 (by omega), h00, if_neg (by omega)]
        rfl
    | succ d ih =>
      intro k hk no r2 e2
      have row := List.all_eq_true.mp c1 k (List.mem_range.mpr (by omega))
      have row2 := List.all_eq_true.mp c3 k (List.mem_range.mpr (by omega))
      unfold gb_v_r at row
      rw [Bool.and_eq_true] at row
      have w5 := ps_wc5 k (by omega)
      refine gb_icall (k := k) (S' := []) h (by omega) (by omega) row.2 (gb_R_c e2 hR) hz (fun _ y r3 s3 f3 => ?_) (fun y r3 s3 f3 => ?_)
      · have vk := (ps_iw_iff.mp y).2
        refine hseg _ _ _ _ _ r3 M _ _ _ _ _ row.1 ⟨pt_m0, pt_m1 ⟨by show (1 : Int) ≤ r3 471; omega, by show r3 471 ≤ 1; omega⟩, pt_m0⟩ ⟨fun _ => ?_, trivial⟩
        refine hret (25, 0, 0) _ (0, .ofNat k) r3 M rfl i1 (by decide +kernel) (by decide +kernel) ⟨congrArg some ?_, rfl, fun t ht => (f3 t (by omega)).trans (e2 t ht)⟩
        show r3 0 + Int.ofNat k = gb_vv (ps_vl A N σ.1)
        have ek : Int.ofNat k = (k : Int) := rfl
        unfold gb_vv
        rw [f3 0 (by omega), e2 0 (by omega), h00, vk, w5, if_pos (by omega)]
        omega
      · refine hseg _ _ _ _ _ r3 M _ _ _ _ _ row2 ⟨pt_m0, pt_m1 ⟨by show (0 : Int) ≤ r3 471; omega, by show r3 471 ≤ 0; omega⟩, pt_m0⟩ ⟨fun _ => ?_, trivial⟩
        refine ih (k + 1) (by omega) (fun j hj e => ?_) r3 (fun t ht => (f3 t (by omega)).trans (e2 t ht))
        by_cases ej : j = k
        · subst ej
          exact y ⟨q, ps_iw_iff.mpr ⟨t2, by rw [w5]; exact e⟩⟩
        · exact no j (by omega) e
  refine hseg _ _ _ _ _ r M _ _ _ _ _ c2 ⟨pt_m0, pt_m0, pt_m0⟩ ⟨fun _ => ?_, trivial⟩
  exact lp 4 0 rfl (fun j hj => absurd hj (by omega)) r (fun _ _ => rfl)
noncomputable def gb_Rl (A : Nat → Int) (N : Nat) (σ : ps_S) (l : List Int) (r : Nat → Int) (M : Nat → Nat → Int) : Prop := gb_T A N r M ∧ (r 83 = σ.2.2.1 ∧ (σ.2.2.1 ≠ 0 → r 84 = σ.2.2.2) ∧ 0 ≤ σ.2.2.1 ∧ σ.2.2.1 ≤ 3) ∧ (σ.2.2.1 = 0 → gb_tok A N σ.1 r ∧ gb_C l r M)
theorem gb_Rl_c {A : Nat → Int} {N : Nat} {σ : ps_S} {l : List Int} {r r2 : Nat → Int} {M : Nat → Nat → Int} (e : ∀ t, t < 391 → r2 t = r t) (h : gb_Rl A N σ l r M) : gb_Rl A N σ l r2 M := by
  obtain ⟨h1, ⟨h2, h3, h4⟩, h5⟩ := h
  refine ⟨gb_T_c (e _ (by omega)) rfl h1, ⟨(e _ (by omega)).trans h2, fun w => (e _ (by omega)).trans (h3 w), h4⟩, fun k => ?_⟩
  obtain ⟨a1, a2, a3⟩ := h5 k
  exact ⟨gb_tok_c (fun t _ h => e t (by omega)) a1, (e _ (by omega)).trans a2, a3⟩
section GBF
variable {n mi : Nat} {rt : Nat} {Z : (Nat → Int) → (Nat → Nat → Int) → Option Int → Prop} {P : pt_P} {A : Nat → Int} {N : Nat} {σ : ps_S} {l : List Int} {r : Nat → Int} {M : Nat → Nat → Int} {pc : Nat} {L S' : List ai_V} {y : ai_X}
theorem gb_useEl (h : pt_Cl n mi gbY rt Z P) (hn : 5 ≤ n) {c : Int} (hck : (cy_vk mi pc 194 gbY.2.1 (.inl y :: wa_r 264 :: S') [wa_r 264, .inl y] S' && pt_cck gbY mi 194 (pc, 0, 0) 0 471 L S' [wa_r 264, .inl y] [wa_r 264, wa_i 392]) = true) (hR : gb_Rl A N σ l r M) (hl : σ.2.2.1 = 0 → l.length < 400) (ha : ai_vx r y = c)
    (go : ∀ r2 M2, gb_Rl A N σ (l ++ [c]) r2 M2 → gb_fr r M r2 M2 → (∀ t, 391 ≤ t → t ≠ 471 → r2 t = r t) → P (pc + 3, 0, 0) L S' r2 M2) : P (pc, 0, 0) L (.inl y :: wa_r 264 :: S') r M := by
  obtain ⟨n, rfl⟩ : ∃ m, n = m + 1 := ⟨n - 1, by omega⟩
  have hR' := hR
  obtain ⟨h1, ⟨h2, h3, h4⟩, h5⟩ := hR'
  refine gb_call h (gb_b0 194 (by decide)) hck (gb_eM (l := l) (c := c) (by omega)) (fun rc e1 e2 => ⟨fun w => ?_, e2.trans ha⟩) (fun rc r2 M2 r3 e1 e2 ho e3 e4 => ?_)
  · have k : σ.2.2.1 = 0 := by rw [← h2, ← e1 _ (by omega)]; exact w
    obtain ⟨a1, a2, a3⟩ := h5 k
    exact ⟨⟨(e1 _ (by omega)).trans a2, a3⟩, hl k⟩
  · obtain ⟨o, rfl, ⟨g1, g2, g3⟩, g4⟩ := ho
    have v3 : ∀ t, t < 391 → t ≠ 86 → r3 t = r t := fun t a b => by rw [e3 t a, g1 t a b, e1 t a]
    refine go r3 M2 ⟨gb_T_c (v3 _ (by omega) (by omega)) (g2 285 (by decide)) h1, ⟨(v3 _ (by omega) (by omega)).trans h2, fun w => (v3 _ (by omega) (by omega)).trans (h3 w), h4⟩, fun k => ?_⟩ ⟨fun t a b => v3 t a (gb_pch_n b).2.2.2, g2, g3⟩ e4
    obtain ⟨a1, a2, a3⟩ := h5 k
    have g4 := g4 (by rw [e1 _ (by omega), h2, k])
    exact ⟨gb_tok_c (fun t b1 b2 => v3 t (by omega) (by omega)) a1, (e3 _ (by omega)).trans g4.1, g4.2⟩
end GBF
noncomputable def gb_q (u : ai_V) : List ai_V := [wa_r 264, wa_i 392, u]
noncomputable abbrev gb_qr (cp : List (Nat × Int × Int)) (pc : Nat) (S : List ai_V) (W : List (Nat × pt_X)) : Bool := pt_row gbY 196 [7, 17, 43, 89, 113] true (0, 0, 0) (gb_q wa_u) [] [] cp [] [] [((pc, 0, 0), (gb_q wa_u, S), W, [])]
noncomputable abbrev gb_qs (pc : Nat) (L S : List ai_V) (cp : List (Nat × Int × Int)) (pc2 : Nat) (L2 S2 : List ai_V) (W : List (Nat × pt_X)) : Bool := pt_row gbY 196 [pc2] false (pc, 0, 0) L S [] cp [] [] [((pc2, 0, 0), (L2, S2), W, [])]
theorem gb_q_c : gb_qr [(83, (1, 3))] 7 [] [] = true ∧ (gb_qr [(83, (0, 0)), (78, (2, 2))] 17 [wa_r 264] [] = true ∧ gb_qr [(83, (0, 0)), (78, (1, 1))] 43 [wa_r 264] [] = true ∧ gb_qr [(83, (0, 0)), (78, (3, 3)), (79, (40, 40))] 89 [wa_r 264] [] = true) ∧
    (gb_qr [(83, (0, 0)), (78, (3, 3)), (79, (0, 39))] 113 [] (gb_bad 1) = true ∧ gb_qr [(83, (0, 0)), (78, (3, 3)), (79, (41, 255))] 113 [] (gb_bad 1) = true ∧ gb_qr [(83, (0, 0)), (78, (0, 0))] 113 [] (gb_bad 1) = true ∧ gb_qr [(83, (0, 0)), (78, (4, 4))] 113 [] (gb_bad 1) = true) ∧
    (gb_qs 20 (gb_q wa_u) [wa_i 471] [] 23 (gb_q (wa_i 393)) [gz_n 0, wa_r 264] [(393, gz_p 471)] = true ∧ gb_qs 26 (gb_q (wa_i 393)) [] [] 28 (gb_q (wa_i 393)) [wa_i 393, wa_r 264] [] = true ∧ gb_qs 31 (gb_q (wa_i 393)) [] [] 113 (gb_q wa_u) [] [] = true) ∧
    (gb_qs 46 (gb_q wa_u) [wa_i 471] [(471, (-1, -1)), (83, (0, 0))] 62 (gb_q wa_u) [.inl (393, 20), wa_r 264] ((393, gz_p 471) :: gb_bad 3) = true ∧ gb_qs 46 (gb_q wa_u) [wa_i 471] [(471, (0, 4))] 62 (gb_q wa_u) [.inl (393, 20), wa_r 264] [(393, gz_p 471)] = true ∧ gb_qs 65 (gb_q wa_u) [] [(83, (0, 0))] 73 (gb_q wa_u) [wa_r 264] [] = true ∧ gb_qs 65 (gb_q wa_u) [] [(83, (1, 3))] 113 (gb_q wa_u) [] [] = true ∧ gb_qs 76 (gb_q wa_u) [] [] 113 (gb_q wa_u) [] [] = true) ∧
    (gb_qs 92 (gb_q wa_u) [] [(392, (0, 5))] 96 (gb_q wa_u) [.inl (392, 1), wa_r 264] [] = true ∧ gb_qs 99 (gb_q wa_u) [] [] 102 (gb_q wa_u) [gz_n 41, wa_r 264] [] = true ∧ gb_qs 105 (gb_q wa_u) [] [] 113 (gb_q wa_u) [] [] = true) := by decide +kernel
noncomputable def gb_ck (mi pc mj : Nat) (L : List ai_V) (y : ai_X) : Bool := cy_vk mi pc mj gbY.2.1 [.inl y, wa_r 264] [wa_r 264, .inl y] [] && pt_cck gbY mi mj (pc, 0, 0) 0 471 L [] [wa_r 264, .inl y] [wa_r 264, wa_i 392]
noncomputable def gb_ca (mi pc : Nat) (L : List ai_V) : Bool := cy_vk mi pc 188 gbY.2.1 [wa_r 264] [wa_r 264] [] && pt_cck gbY mi 188 (pc, 0, 0) 0 471 L [] [wa_r 264] [wa_r 264]
noncomputable def gb_cr (mi pc mj : Nat) (L : List ai_V) : Bool := cy_vk mi pc mj gbY.2.1 [wa_r 264] [wa_r 264] [] && pt_cck gbY mi mj (pc, 0, 0) 1 471 L [] [wa_r 264] [wa_r 264]
theorem gb_q_k : (gb_cr 196 17 193 (gb_q wa_u) = true ∧ gb_cr 196 43 195 (gb_q wa_u) = true) ∧ (gb_ca 196 89 (gb_q wa_u) = true ∧ gb_ca 196 73 (gb_q wa_u) = true) ∧ (gb_ck 196 23 194 (gb_q (wa_i 393)) (0, 0) = true ∧ gb_ck 196 28 194 (gb_q (wa_i 393)) (393, 0) = true ∧ gb_ck 196 62 194 (gb_q wa_u) (393, 20) = true) ∧ (gb_ck 196 96 201 (gb_q wa_u) (392, 1) = true ∧ gb_ck 196 102 192 (gb_q wa_u) (0, 41) = true) ∧ (pt_is 7 196 7 = true ∧ pt_is 7 196 113 = true) ∧ (ct_mt 196).2.2.1 = 3 := by decide +kernel
