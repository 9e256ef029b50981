/-! TEXTS (the class): advance -/
noncomputable def ga_vI : List (Int × Int × Int) := [(0, 39, 4), (40, 43, 3), (44, 44, 4), (45, 45, 3), (46, 46, 4), (47, 47, 3), (58, 58, 4), (59, 61, 3), (62, 96, 4), (123, 255, 4)]
theorem ga_v_c : pt_row gaY 103 [2] true (0, 0, 0) (ga_L wa_u) [] [] [] [] [] [((2, 0, 0), (ga_L (wa_i 392), []), [(392, gz_k 0)], [])] = true ∧
    pt_row gaY 103 [14, 51] true (2, 0, 0) (ga_L (wa_i 392)) [] [] [(392, (0, 199))] [] [] [((14, 0, 0), (ga_L (wa_i 392), [wa_i 40, wa_r 84]), [], [])] = true ∧
    pt_row gaY 103 [14, 51] true (2, 0, 0) (ga_L (wa_i 392)) [] [] [(392, (200, 200))] [] [] [((51, 0, 0), (ga_L wa_u, []), [], [])] = true ∧
    (pt_row gaY 103 [27, 35] false (17, 0, 0) (ga_L (wa_i 392)) [wa_i 471] [] [(471, (32, 32))] [] [] [((35, 0, 0), (ga_L (wa_i 392), []), [], [])] = true ∧ pt_row gaY 103 [27, 35] false (17, 0, 0) (ga_L (wa_i 392)) [wa_i 471] [] [(471, (-1, 31))] [] [] [((27, 0, 0), (ga_L (wa_i 392), [wa_i 40, wa_r 84]), [], [])] = true ∧ pt_row gaY 103 [27, 35] false (17, 0, 0) (ga_L (wa_i 392)) [wa_i 471] [] [(471, (33, 255))] [] [] [((27, 0, 0), (ga_L (wa_i 392), [wa_i 40, wa_r 84]), [], [])] = true) ∧
    (pt_row gaY 103 [35, 51] false (30, 0, 0) (ga_L (wa_i 392)) [wa_i 471] [] [(471, (10, 10))] [] [] [((35, 0, 0), (ga_L (wa_i 392), []), [], [])] = true ∧ pt_row gaY 103 [35, 51] false (30, 0, 0) (ga_L (wa_i 392)) [wa_i 471] [] [(471, (-1, 9))] [] [] [((51, 0, 0), (ga_L wa_u, []), [], [])] = true ∧ pt_row gaY 103 [35, 51] false (30, 0, 0) (ga_L (wa_i 392)) [wa_i 471] [] [(471, (11, 255))] [] [] [((51, 0, 0), (ga_L wa_u, []), [], [])] = true) ∧
    pt_row gaY 103 [2] false (35, 0, 0) (ga_L (wa_i 392)) [] [] [(392, (0, 199)), (40, (0, 199))] [] [] [((2, 0, 0), (ga_L (wa_i 392), []), [(40, gz_d 40 1), (392, gz_d 392 1)], [])] = true ∧
    pt_row gaY 103 [64] true (51, 0, 0) (ga_L wa_u) [] [] [] [] [] [((64, 0, 0), (ga_L wa_u, [wa_i 40, wa_r 84]), [(41, gz_p 40)], [])] = true ∧
    (pt_row gaY 103 [89, 103, 140] false (67, 0, 0) (ga_L wa_u) [wa_i 471] [] [(471, (-1, -1))] [] [] [((140, 0, 0), (ga_L wa_u, []), [(42, gz_k 0)], [])] = true ∧ pt_row gaY 103 [89, 103, 140] false (67, 0, 0) (ga_L wa_u) [wa_i 471] [] [(471, (97, 122))] [] [] [((89, 0, 0), (ga_L wa_u, [wa_r 84]), [], [])] = true ∧ pt_row gaY 103 [89, 103, 140] false (67, 0, 0) (ga_L wa_u) [wa_i 471] [] [(471, (48, 57))] [] [] [((103, 0, 0), (ga_L wa_u, [wa_r 84]), [], [])] = true) ∧
    pt_row gaY 103 [140] false (92, 0, 0) (ga_L wa_u) [] [] [] [] [] [((140, 0, 0), (ga_L wa_u, []), [], [])] = true ∧ pt_row gaY 103 [140] false (106, 0, 0) (ga_L wa_u) [] [] [] [] [] [((140, 0, 0), (ga_L wa_u, []), [], [])] = true := by decide +kernel
theorem ga_v_i : ga_vI.all (fun z => pt_row gaY 103 [89, 103, 140] false (67, 0, 0) (ga_L wa_u) [wa_i 471] [] [(471, (z.1, z.2.1)), (40, (0, 199))] [] [] [((140, 0, 0), (ga_L wa_u, []), [(43, gz_p 471), (42, gz_k z.2.2), (40, gz_d 40 1)], [])]) = true := by decide +kernel
theorem ga_v_k : (cy_vk 103 14 102 gaY.2.1 [wa_i 40, wa_r 84] [wa_r 84, wa_i 40] [] && pt_cck gaY 103 102 (14, 0, 0) 1 471 (ga_L (wa_i 392)) [] [wa_r 84, wa_i 40] [wa_r 84, wa_i 392]) = true ∧ (cy_vk 103 27 102 gaY.2.1 [wa_i 40, wa_r 84] [wa_r 84, wa_i 40] [] && pt_cck gaY 103 102 (27, 0, 0) 1 471 (ga_L (wa_i 392)) [] [wa_r 84, wa_i 40] [wa_r 84, wa_i 392]) = true ∧ (cy_vk 103 64 102 gaY.2.1 [wa_i 40, wa_r 84] [wa_r 84, wa_i 40] [] && pt_cck gaY 103 102 (64, 0, 0) 1 471 (ga_L wa_u) [] [wa_r 84, wa_i 40] [wa_r 84, wa_i 392]) = true ∧
    (cy_vk 103 89 108 gaY.2.1 [wa_r 84] [wa_r 84] [] && pt_cck gaY 103 108 (89, 0, 0) 0 471 (ga_L wa_u) [] [wa_r 84] [wa_r 84]) = true ∧ (cy_vk 103 103 107 gaY.2.1 [wa_r 84] [wa_r 84] [] && pt_cck gaY 103 107 (103, 0, 0) 0 471 (ga_L wa_u) [] [wa_r 84] [wa_r 84]) = true ∧ pt_is 7 103 140 = true ∧ (ct_mt 103).2.2.1 = 2 := by decide +kernel
/-- which of the intervals a byte is in that is neither a letter nor a digit -/
theorem ga_vin {c : Int} (h1 : 0 ≤ c ∧ c ≤ 255) (h2 : ps_al c = false) (h3 : ps_dg c = false) : ∃ z ∈ ga_vI, (z.1 ≤ c ∧ c ≤ z.2.1) ∧ z.2.2 = (if ps_sg c = true then 3 else 4) := by
  have a2 : ¬ (97 ≤ c ∧ c ≤ 122) := fun w => by rw [ps_al_iff.mpr w] at h2; cases h2
  have a3 : ¬ (48 ≤ c ∧ c ≤ 57) := fun w => by rw [ps_dg_iff.mpr w] at h3; cases h3
  obtain ⟨k, hk⟩ : ∃ k : Nat, c = (k : Int) := ⟨c.toNat, by omega⟩
  have hk' : k < 256 := by omega
  have g : (List.range 256).all (fun k => ps_al (k : Int) || (ps_dg (k : Int) || ga_vI.any (fun z => (decide (z.1 ≤ (k : Int)) && decide ((k : Int) ≤ z.2.1)) && decide (z.2.2 = (if ps_sg (k : Int) = true then 3 else 4))))) = true := by decide +kernel
  have g := List.all_eq_true.mp g k (List.mem_range.mpr hk')
  rw [← hk, h2, h3] at g
  have g : ga_vI.any (fun z => (decide (z.1 ≤ c) && decide (c ≤ z.2.1)) && decide (z.2.2 = (if ps_sg c = true then 3 else 4))) = true := g
  obtain ⟨z, hz, w⟩ := List.any_eq_true.mp g
  rw [Bool.and_eq_true, Bool.and_eq_true, decide_eq_true_eq, decide_eq_true_eq, decide_eq_true_eq] at w
  exact ⟨z, hz, w⟩
section GAV
variable {n : Nat} {Z : (Nat → Int) → (Nat → Nat → Int) → Option Int → Prop} {P : pt_P} {r0 : Nat → Int} {M : Nat → Nat → Int} {A : Nat → Int} {N s : Nat}
theorem ga_vloop (h : pt_Cl (n + 1) 103 gaY 0 Z P) (hn : 4 ≤ n) (hT : ga_T A N r0 M) (hs : s ≤ N)
    (hk : ∀ r e, ps_W ps_bl A N s e → r 40 = (e : Int) → (∀ t, t < 391 → t ≠ 40 → r t = r0 t) → P (51, 0, 0) (ga_L wa_u) [] r M) :
    ∀ (d i : Nat) (r : Nat → Int), i + d = 200 → r 392 = (i : Int) → r 40 = ((s + i : Nat) : Int) → s + i ≤ N → (∀ t, t < 391 → t ≠ 40 → r t = r0 t) → (∀ j, s ≤ j → j < s + i → ps_bl (ps_b A N j) = true) → P (2, 0, 0) (ga_L (wa_i 392)) [] r M := by
  have h' := h
  obtain ⟨hseg, -⟩ := h'
  obtain ⟨c1, c2, c3, ⟨c4, c5, c6⟩, ⟨c7, c8, c9⟩, c10, -⟩ := ga_v_c
  have N2 := hT.2.1.1
  intro d
  induction d with
  | zero =>
    intro i r hi e1 e2 le fr al
    refine hseg _ _ _ _ _ r M _ _ _ _ _ c3 ⟨pt_m0, pt_m1 ⟨by show (200 : Int) ≤ r 392; omega, by show r 392 ≤ (200 : Int); omega⟩, pt_m0⟩ ⟨fun _ => ?_, trivial⟩
    exact hk r (s + i) ⟨by omega, al, by rw [ps_b_ge (by omega)]; exact ps_f1.1⟩ e2 fr
  | succ d ih =>
    intro i r hi e1 e2 le fr al
    refine hseg _ _ _ _ _ r M _ _ _ _ _ c2 ⟨pt_m0, pt_m1 ⟨by show (0 : Int) ≤ r 392; omega, by show r 392 ≤ (199 : Int); omega⟩, pt_m0⟩ ⟨fun _ => ?_, trivial⟩
    have T0 := ga_T_c (fr _ (by omega) (by omega)) hT
    show P (14, 0, 0) (ga_L (wa_i 392)) (wa_i 40 :: wa_r 84 :: []) r M
    refine ga_bcall (A := A) (N := N) (i := s + i) h hn ga_v_k.1 T0 e2 (by omega) ?_
    obtain ⟨r1, hr1⟩ : ∃ r1, r1 = pt_set r 471 (ps_b A N (s + i)) := ⟨_, rfl⟩
    rw [← hr1]
    have n1 : ∀ t, t ≠ 471 → r1 t = r t := fun t ht => by
      rw [hr1]
      exact if_neg ht
    have s1 : r1 471 = ps_b A N (s + i) := by
      rw [hr1]
      exact gz_sset
    have rg := ps_b_rg hT.2.1 (s + i)
    have go : ps_bl (ps_b A N (s + i)) = true → ∀ r2, (∀ t, t ≠ 471 → r2 t = r t) → P (35, 0, 0) (ga_L (wa_i 392)) [] r2 M := fun c r2 n2 => by
      have cc := ps_bl_iff.mp c
      have lt : s + i < N := by
        rcases Nat.lt_or_ge (s + i) N with w | w
        · exact w
        · rw [ps_b_ge w] at cc
          omega
      refine hseg _ _ _ _ _ r2 M _ _ _ _ _ c10 ⟨pt_m0, pt_m2 ⟨by show (0 : Int) ≤ r2 392; rw [n2 _ (by omega)]; omega, by show r2 392 ≤ (199 : Int); rw [n2 _ (by omega)]; omega⟩ ⟨by show (0 : Int) ≤ r2 40; rw [n2 _ (by omega)]; omega, by show r2 40 ≤ (199 : Int); rw [n2 _ (by omega)]; omega⟩, pt_m0⟩ ⟨fun _ => ?_, trivial⟩
      obtain ⟨r3, hr3⟩ : ∃ r3, r3 = pt_up r2 [(40, gz_d 40 1), (392, gz_d 392 1)] := ⟨_, rfl⟩
      show P (2, 0, 0) (ga_L (wa_i 392)) [] (pt_up r2 [(40, gz_d 40 1), (392, gz_d 392 1)]) M
      rw [← hr3]
      have n3 : ∀ t, t ≠ 40 → t ≠ 392 → r3 t = r2 t := fun t h1 h2 => by
        rw [hr3]
        exact (if_neg h1).trans (if_neg h2)
      refine ih (i + 1) r3 (by omega) (by rw [hr3]; show r2 392 + 1 = _; rw [n2 _ (by omega)]; omega) (by rw [hr3]; show r2 40 + 1 = _; rw [n2 _ (by omega)]; omega) (by omega) (fun t h1 h2 => by rw [n3 t h2 (by omega), n2 t (by omega)]; exact fr t h1 h2) (fun j j1 j2 => ?_)
      by_cases e : j = s + i
      · rw [e]
        exact c
      · exact al j j1 (by omega)
    have stop : ps_bl (ps_b A N (s + i)) = false → ∀ r2, (∀ t, t ≠ 471 → r2 t = r t) → P (51, 0, 0) (ga_L wa_u) [] r2 M := fun c r2 n2 => hk r2 (s + i) ⟨by omega, al, c⟩ ((n2 _ (by omega)).trans e2) (fun t h1 h2 => (n2 t (by omega)).trans (fr t h1 h2))
    show P (17, 0, 0) (ga_L (wa_i 392)) [wa_i 471] r1 M
    by_cases q : ps_b A N (s + i) = 32
    · exact hseg _ _ _ _ _ r1 M _ _ _ _ _ c4 ⟨pt_m0, pt_m1 ⟨by show (32 : Int) ≤ r1 471; omega, by show r1 471 ≤ (32 : Int); omega⟩, pt_m0⟩ ⟨fun _ => go (ps_bl_iff.mpr (Or.inl q)) r1 n1, trivial⟩
    · have nxt : P (27, 0, 0) (ga_L (wa_i 392)) [wa_i 40, wa_r 84] r1 M := by
        show P (27, 0, 0) (ga_L (wa_i 392)) (wa_i 40 :: wa_r 84 :: []) r1 M
        refine ga_bcall (A := A) (N := N) (i := s + i) h hn ga_v_k.2.1 (ga_T_c (n1 _ (by omega)) T0) ((n1 _ (by omega)).trans e2) (by omega) ?_
        obtain ⟨r2, hr2⟩ : ∃ r2, r2 = pt_set r1 471 (ps_b A N (s + i)) := ⟨_, rfl⟩
        rw [← hr2]
        have n2 : ∀ t, t ≠ 471 → r2 t = r t := fun t ht => by
          rw [hr2]
          exact (if_neg ht).trans (n1 t ht)
        have s2 : r2 471 = ps_b A N (s + i) := by
          rw [hr2]
          exact gz_sset
        show P (30, 0, 0) (ga_L (wa_i 392)) [wa_i 471] r2 M
        by_cases q2 : ps_b A N (s + i) = 10
        · exact hseg _ _ _ _ _ r2 M _ _ _ _ _ c7 ⟨pt_m0, pt_m1 ⟨by show (10 : Int) ≤ r2 471; omega, by show r2 471 ≤ (10 : Int); omega⟩, pt_m0⟩ ⟨fun _ => go (ps_bl_iff.mpr (Or.inr q2)) r2 n2, trivial⟩
        · have c : ps_bl (ps_b A N (s + i)) = false := by
            rw [Bool.eq_false_iff]
            exact fun w => by
              have := ps_bl_iff.mp w
              omega
          rcases (by omega : ps_b A N (s + i) ≤ 9 ∨ 11 ≤ ps_b A N (s + i)) with w | w
          · exact hseg _ _ _ _ _ r2 M _ _ _ _ _ c8 ⟨pt_m0, pt_m1 ⟨by show (-1 : Int) ≤ r2 471; omega, by show r2 471 ≤ (9 : Int); omega⟩, pt_m0⟩ ⟨fun _ => stop c r2 n2, trivial⟩
          · exact hseg _ _ _ _ _ r2 M _ _ _ _ _ c9 ⟨pt_m0, pt_m1 ⟨by show (11 : Int) ≤ r2 471; omega, by show r2 471 ≤ (255 : Int); omega⟩, pt_m0⟩ ⟨fun _ => stop c r2 n2, trivial⟩
      rcases (by omega : ps_b A N (s + i) ≤ 31 ∨ 33 ≤ ps_b A N (s + i)) with w | w
      · exact hseg _ _ _ _ _ r1 M _ _ _ _ _ c5 ⟨pt_m0, pt_m1 ⟨by show (-1 : Int) ≤ r1 471; omega, by show r1 471 ≤ (31 : Int); omega⟩, pt_m0⟩ ⟨fun _ => nxt, trivial⟩
      · exact hseg _ _ _ _ _ r1 M _ _ _ _ _ c6 ⟨pt_m0, pt_m1 ⟨by show (33 : Int) ≤ r1 471; omega, by show r1 471 ≤ (255 : Int); omega⟩, pt_m0⟩ ⟨fun _ => nxt, trivial⟩
noncomputable def ga_vQ (A : Nat → Int) (N p : Nat) (r : Nat → Int) (M : Nat → Nat → Int) (r2 : Nat → Int) (M2 : Nat → Nat → Int) (o : Option Int) : Prop := (o = none ∧ M2 = M) ∧ (r2 41 = (ps_st A N p : Int) ∧ r2 42 = (ps_tk A N p : Int) ∧ r2 40 = (ps_en A N p : Int) ∧ (ps_tk A N p ≠ 0 → r2 43 = ps_vl A N p)) ∧ ∀ t, t < 391 → t ≠ 40 → t ≠ 41 → t ≠ 42 → t ≠ 43 → r2 t = r t
theorem ga_vM {A : Nat → Int} {N p n : Nat} (hn : 4 ≤ n) : pt_Met (n + 1 + 1 + 1 + 1) 103 gaY [wa_r 84] (fun r M => ga_T A N r M ∧ r 40 = (p : Int) ∧ p ≤ N) (ga_vQ A N p) 0 := by
  refine pt_intro (L0 := ga_L wa_u) (ga_b0 103 (by decide)).2 (by omega) gasys (by
    rw [ga_v_k.2.2.2.2.2.2]
    rfl) (fun P r M h hp => ?_)
  have h' := h
  obtain ⟨hseg, henv, -, -, -, -, -, -, hcall, -, -, -, -, hvret⟩ := h'
  obtain ⟨c1, c2, c3, -, -, -, c11, ⟨c12, c13, c14⟩, c15, c16⟩ := ga_v_c
  obtain ⟨hT, p1, p2⟩ := hp
  have hA := hT.2.1
  have N2 := hA.1
  refine hseg _ _ _ _ _ r M _ _ _ _ _ c1 ⟨pt_m0, pt_m0, pt_m0⟩ ⟨fun _ => ?_, trivial⟩
  obtain ⟨r1, hr1⟩ : ∃ r1, r1 = pt_up r [(392, gz_k 0)] := ⟨_, rfl⟩
  show P (2, 0, 0) (ga_L (wa_i 392)) [] (pt_up r [(392, gz_k 0)]) M
  rw [← hr1]
  have n1 : ∀ t, t ≠ 392 → r1 t = r t := fun t ht => by
    rw [hr1]
    exact if_neg ht
  refine ga_vloop (r0 := r1) (M := M) (A := A) (N := N) (s := p) h (by omega) (ga_T_c (n1 _ (by omega)) hT) p2 (fun r2 e w e2 f2 => ?_) 200 0 r1 (by omega) (by rw [hr1]; rfl) (by rw [n1 _ (by omega), p1]; rfl) (by omega) (fun _ _ _ => rfl) (fun j j1 j2 => absurd j2 (by omega))
  have eW : e = ps_st A N p := ps_W_u w (ps_st_W p)
  have eN := ps_W_le ps_f1.1 p2 w
  have ec : ps_b A N e = ps_c A N p := by rw [eW]; rfl
  refine hseg _ _ _ _ _ r2 M _ _ _ _ _ c11 ⟨pt_m0, pt_m0, pt_m0⟩ ⟨fun _ => ?_, trivial⟩
  obtain ⟨r3, hr3⟩ : ∃ r3, r3 = pt_up r2 [(41, gz_p 40)] := ⟨_, rfl⟩
  show P (64, 0, 0) (ga_L wa_u) (wa_i 40 :: wa_r 84 :: []) (pt_up r2 [(41, gz_p 40)]) M
  rw [← hr3]
  have n3 : ∀ t, t ≠ 41 → r3 t = r2 t := fun t ht => by
    rw [hr3]
    exact if_neg ht
  have st3 : r3 41 = (e : Int) := by
    rw [hr3]
    exact e2
  have T3 : ga_T A N r3 M := ga_T_c (by rw [n3 _ (by omega), f2 _ (by omega) (by omega), n1 _ (by omega)]) hT
  have nx3 : r3 40 = (e : Int) := (n3 _ (by omega)).trans e2
  refine ga_bcall (A := A) (N := N) (i := e) h (by omega) ga_v_k.2.2.1 T3 nx3 (by omega) ?_
  rw [ec]
  obtain ⟨r4, hr4⟩ : ∃ r4, r4 = pt_set r3 471 (ps_c A N p) := ⟨_, rfl⟩
  rw [← hr4]
  have n4 : ∀ t, t ≠ 471 → r4 t = r3 t := fun t ht => by
    rw [hr4]
    exact if_neg ht
  have s4 : r4 471 = ps_c A N p := by
    rw [hr4]
    exact gz_sset
  have fr4 : ∀ t, t < 391 → t ≠ 40 → t ≠ 41 → r4 t = r t := fun t h1 h2 h3 => by rw [n4 t (by omega), n3 t h3, f2 t h1 h2, n1 t (by omega)]
  have st4 : r4 41 = (e : Int) := (n4 _ (by omega)).trans st3
  have nx4 : r4 40 = (e : Int) := (n4 _ (by omega)).trans nx3
  have T4 : ga_T A N r4 M := ga_T_c (n4 _ (by omega)) T3
  have rg : -1 ≤ ps_c A N p ∧ ps_c A N p ≤ 255 := ps_b_rg hA _
  show P (67, 0, 0) (ga_L wa_u) [wa_i 471] r4 M
  by_cases q0 : ps_c A N p = -1
  · have t0 : ps_tk A N p = 0 := if_pos q0
    refine hseg _ _ _ _ _ r4 M _ _ _ _ _ c12 ⟨pt_m0, pt_m1 ⟨by show (-1 : Int) ≤ r4 471; omega, by show r4 471 ≤ (-1 : Int); omega⟩, pt_m0⟩ ⟨fun _ => ?_, trivial⟩
    obtain ⟨r5, hr5⟩ : ∃ r5, r5 = pt_up r4 [(42, gz_k 0)] := ⟨_, rfl⟩
    show P (140, 0, 0) (ga_L wa_u) [] (pt_up r4 [(42, gz_k 0)]) M
    rw [← hr5]
    have n5 : ∀ t, t ≠ 42 → r5 t = r4 t := fun t ht => by
      rw [hr5]
      exact if_neg ht
    have en0 : ps_en A N p = e := (if_pos q0).trans eW.symm
    refine hvret (140, 0, 0) _ r5 M rfl ga_v_k.2.2.2.2.2.1 (Nat.ble_eq_true_of_le (Nat.zero_le _)) (Nat.ble_eq_true_of_le (Nat.zero_le _)) ⟨⟨rfl, rfl⟩, ⟨?_, by rw [hr5, t0]; rfl, ?_, fun w => absurd t0 w⟩, fun t h1 h2 h3 h4 h5 => (n5 t h4).trans (fr4 t h1 h2 h3)⟩
    · rw [n5 _ (by omega), st4, eW]
    · rw [n5 _ (by omega), nx4, en0]
  by_cases q1 : ps_al (ps_c A N p) = true
  · have cc := ps_al_iff.mp q1
    have t2 : ps_tk A N p = 2 := (if_neg q0).trans (if_pos q1)
    have en2 : ps_en A N p = ps_wh ps_al A N N e := by
      rw [eW]
      exact (if_neg q0).trans (if_pos q1)
    refine hseg _ _ _ _ _ r4 M _ _ _ _ _ c13 ⟨pt_m0, pt_m1 ⟨by show (97 : Int) ≤ r4 471; omega, by show r4 471 ≤ (122 : Int); omega⟩, pt_m0⟩ ⟨fun _ => ?_, trivial⟩
    show P (89, 0, 0) (ga_L wa_u) [wa_r 84] r4 M
    have ck := ga_v_k.2.2.2.1
    rw [Bool.and_eq_true] at ck
    refine hcall (89, 0, 0) _ _ _ _ _ r4 M 108 0 471 _ _ (ga_b0 108 (by decide)).2 ck.1 ck.2 (ga_dM (A := A) (N := N) (s := e) hn) ⟨T4, st4, nx4, eN⟩ (fun r5 M5 o hQ => ?_)
    obtain ⟨⟨rfl, rfl⟩, ⟨k1, k2, k3⟩, k4⟩ := hQ
    have k4 : ∀ t, t < 391 → t ≠ 40 → t ≠ 42 → t ≠ 43 → r5 t = r4 t := k4
    obtain ⟨rc, rs⟩ := wa_rm (n := n + 1 + 1 + 1) (ga_b0 108 (by decide)).1
    rw [rc, rs]
    obtain ⟨r6, hr6⟩ : ∃ r6, r6 = pt_mrg 391 r4 r5 471 none := ⟨_, rfl⟩
    show P (92, 0, 0) (ga_L wa_u) [] (pt_mrg 391 r4 r5 471 none) M5
    rw [← hr6]
    have l6 : ∀ t, t < 391 → r6 t = r5 t := fun t ht => by
      rw [hr6]
      exact if_pos ht
    refine hseg _ _ _ _ _ r6 M5 _ _ _ _ _ c15 ⟨pt_m0, pt_m0, pt_m0⟩ ⟨fun _ => ?_, trivial⟩
    show P (140, 0, 0) (ga_L wa_u) [] r6 M5
    refine hvret (140, 0, 0) _ r6 M5 rfl ga_v_k.2.2.2.2.2.1 (Nat.ble_eq_true_of_le (Nat.zero_le _)) (Nat.ble_eq_true_of_le (Nat.zero_le _)) ⟨⟨rfl, rfl⟩, ⟨?_, ?_, ?_, fun _ => ?_⟩, fun t h1 h2 h3 h4 h5 => (l6 t h1).trans ((k4 t h1 h2 h4 h5).trans (fr4 t h1 h2 h3))⟩
    · rw [l6 _ (by omega), k4 _ (by omega) (by omega) (by omega) (by omega), st4, eW]
    · rw [l6 _ (by omega), k1, t2]
      rfl
    · rw [l6 _ (by omega), k2, en2]
    · rw [l6 _ (by omega), k3]
      unfold ps_vl
      rw [if_neg (by omega), if_pos t2, en2, ← eW]
  by_cases q2 : ps_dg (ps_c A N p) = true
  · have cc := ps_dg_iff.mp q2
    have t1 : ps_tk A N p = 1 := (if_neg q0).trans ((if_neg q1).trans (if_pos q2))
    have en1 : ps_en A N p = ps_wh ps_dg A N N e := by
      rw [eW]
      exact (if_neg q0).trans ((if_neg q1).trans (if_pos q2))
    refine hseg _ _ _ _ _ r4 M _ _ _ _ _ c14 ⟨pt_m0, pt_m1 ⟨by show (48 : Int) ≤ r4 471; omega, by show r4 471 ≤ (57 : Int); omega⟩, pt_m0⟩ ⟨fun _ => ?_, trivial⟩
    show P (103, 0, 0) (ga_L wa_u) [wa_r 84] r4 M
    have ck := ga_v_k.2.2.2.2.1
    rw [Bool.and_eq_true] at ck
    refine hcall (103, 0, 0) _ _ _ _ _ r4 M 107 0 471 _ _ (ga_b0 107 (by decide)).2 ck.1 ck.2 (ga_nM (A := A) (N := N) (s := e) (n := n + 1) (by omega)) ⟨T4, st4, nx4, eN⟩ (fun r5 M5 o hQ => ?_)
    obtain ⟨⟨rfl, rfl⟩, ⟨k1, k2, k3⟩, k4⟩ := hQ
    have k4 : ∀ t, t < 391 → t ≠ 40 → t ≠ 42 → t ≠ 43 → r5 t = r4 t := k4
    obtain ⟨rc, rs⟩ := wa_rm (n := n + 1 + 1 + 1) (ga_b0 107 (by decide)).1
    rw [rc, rs]
    obtain ⟨r6, hr6⟩ : ∃ r6, r6 = pt_mrg 391 r4 r5 471 none := ⟨_, rfl⟩
    show P (106, 0, 0) (ga_L wa_u) [] (pt_mrg 391 r4 r5 471 none) M5
    rw [← hr6]
    have l6 : ∀ t, t < 391 → r6 t = r5 t := fun t ht => by
      rw [hr6]
      exact if_pos ht
    refine hseg _ _ _ _ _ r6 M5 _ _ _ _ _ c16 ⟨pt_m0, pt_m0, pt_m0⟩ ⟨fun _ => ?_, trivial⟩
    show P (140, 0, 0) (ga_L wa_u) [] r6 M5
    refine hvret (140, 0, 0) _ r6 M5 rfl ga_v_k.2.2.2.2.2.1 (Nat.ble_eq_true_of_le (Nat.zero_le _)) (Nat.ble_eq_true_of_le (Nat.zero_le _)) ⟨⟨rfl, rfl⟩, ⟨?_, ?_, ?_, fun _ => ?_⟩, fun t h1 h2 h3 h4 h5 => (l6 t h1).trans ((k4 t h1 h2 h4 h5).trans (fr4 t h1 h2 h3))⟩
    · rw [l6 _ (by omega), k4 _ (by omega) (by omega) (by omega) (by omega), st4, eW]
    · rw [l6 _ (by omega), k1, t1]
      rfl
    · rw [l6 _ (by omega), k2, en1]
    · rw [l6 _ (by omega), k3]
      unfold ps_vl
      rw [if_pos t1, en1, ← eW]
  · rw [Bool.not_eq_true] at q1 q2
    obtain ⟨z, hz, zc, zk⟩ := ga_vin (c := ps_c A N p) (by omega) q1 q2
    have lt : e < N := by
      rcases Nat.lt_or_ge e N with w' | w'
      · exact w'
      · rw [← ec, ps_b_ge w'] at q0
        exact absurd rfl q0
    have tk : (ps_tk A N p : Int) = z.2.2 := by
      unfold ps_tk
      rw [if_neg q0, if_neg (by rw [q1]; decide), if_neg (by rw [q2]; decide), zk]
      split <;> rfl
    have tk3 : ps_tk A N p ≠ 1 ∧ ps_tk A N p ≠ 2 := by
      rw [zk] at tk
      split at tk <;> omega
    have en3 : ps_en A N p = e + 1 := by
      unfold ps_en
      rw [if_neg q0, if_neg (by rw [q1]; decide), if_neg (by rw [q2]; decide), ← eW]
    refine hseg _ _ _ _ _ r4 M _ _ _ _ _ (List.all_eq_true.mp ga_v_i z hz) ⟨pt_m0, pt_m2 ⟨by show z.1 ≤ r4 471; rw [s4]; exact zc.1, by show r4 471 ≤ z.2.1; rw [s4]; exact zc.2⟩ ⟨by show (0 : Int) ≤ r4 40; omega, by show r4 40 ≤ (199 : Int); omega⟩, pt_m0⟩ ⟨fun _ => ?_, trivial⟩
    obtain ⟨r5, hr5⟩ : ∃ r5, r5 = pt_up r4 [(43, gz_p 471), (42, gz_k z.2.2), (40, gz_d 40 1)] := ⟨_, rfl⟩
    show P (140, 0, 0) (ga_L wa_u) [] (pt_up r4 [(43, gz_p 471), (42, gz_k z.2.2), (40, gz_d 40 1)]) M
    rw [← hr5]
    have n5 : ∀ t, t ≠ 43 → t ≠ 42 → t ≠ 40 → r5 t = r4 t := fun t h1 h2 h3 => by
      rw [hr5]
      exact (if_neg h1).trans ((if_neg h2).trans (if_neg h3))
    refine hvret (140, 0, 0) _ r5 M rfl ga_v_k.2.2.2.2.2.1 (Nat.ble_eq_true_of_le (Nat.zero_le _)) (Nat.ble_eq_true_of_le (Nat.zero_le _)) ⟨⟨rfl, rfl⟩, ⟨?_, ?_, ?_, fun _ => ?_⟩, fun t h1 h2 h3 h4 h5 => (n5 t h5 h4 h2).trans (fr4 t h1 h2 h3)⟩
    · rw [n5 _ (by omega) (by omega) (by omega), st4, eW]
    · rw [hr5, tk]
      rfl
    · rw [hr5, en3]
      show r4 40 + 1 = _
      omega
    · rw [hr5]
      unfold ps_vl
      rw [if_neg tk3.1, if_neg tk3.2]
      exact s4
end GAV
