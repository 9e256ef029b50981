/-! TEXTS (the class): readWord, readNumber -/
noncomputable def ga_L (u : ai_V) : List ai_V := [wa_r 84, u]
theorem ga_o2 {x y : Int} (h1 : -2147483648 ≤ x * y) (h2 : x * y < 2147483648) : ai_op 2 x y = x * y := Int.bmod_eq_of_le (by omega) (by omega)
theorem ga_d_c : pt_row gaY 108 [7] true (0, 0, 0) (ga_L wa_u) [] [] [] [] [] [((7, 0, 0), (ga_L (wa_i 392), []), [(42, gz_k 2), (392, gz_k 0)], [])] = true ∧
    pt_row gaY 108 [19, 44] true (7, 0, 0) (ga_L (wa_i 392)) [] [] [(392, (0, 199))] [] [] [((19, 0, 0), (ga_L (wa_i 392), [wa_i 40, wa_r 84]), [], [])] = true ∧
    pt_row gaY 108 [19, 44] true (7, 0, 0) (ga_L (wa_i 392)) [] [] [(392, (200, 200))] [] [] [((44, 0, 0), (ga_L wa_u, []), [], [])] = true ∧
    pt_row gaY 108 [7, 44] false (22, 0, 0) (ga_L (wa_i 392)) [wa_i 471] [] [(471, (97, 122)), (40, (0, 199)), (392, (0, 199))] [] [] [((7, 0, 0), (ga_L (wa_i 392), []), [(40, gz_d 40 1), (392, gz_d 392 1)], [])] = true ∧
    (pt_row gaY 108 [7, 44] false (22, 0, 0) (ga_L (wa_i 392)) [wa_i 471] [] [(471, (-1, 96))] [] [] [((44, 0, 0), (ga_L wa_u, []), [], [])] = true ∧ pt_row gaY 108 [7, 44] false (22, 0, 0) (ga_L (wa_i 392)) [wa_i 471] [] [(471, (123, 255))] [] [] [((44, 0, 0), (ga_L wa_u, []), [], [])] = true) ∧
    pt_row gaY 108 [46] true (44, 0, 0) (ga_L wa_u) [] [] [] [] [] [((46, 0, 0), (ga_L wa_u, [wa_r 84, wa_r 84]), [], [])] = true ∧
    pt_row gaY 108 [52] false (49, 0, 0) (ga_L wa_u) [wa_i 471, wa_r 84] [] [] [] [] [((52, 0, 0), (ga_L wa_u, []), [(43, gz_p 471)], [])] = true := by decide +kernel
theorem ga_d_k : (cy_vk 108 19 102 gaY.2.1 [wa_i 40, wa_r 84] [wa_r 84, wa_i 40] [] && pt_cck gaY 108 102 (19, 0, 0) 1 471 (ga_L (wa_i 392)) [] [wa_r 84, wa_i 40] [wa_r 84, wa_i 392]) = true ∧ (cy_vk 108 46 109 gaY.2.1 [wa_r 84, wa_r 84] [wa_r 84] [wa_r 84] && pt_cck gaY 108 109 (46, 0, 0) 1 471 (ga_L wa_u) [wa_r 84] [wa_r 84] [wa_r 84]) = true ∧ pt_is 7 108 52 = true ∧ (ct_mt 108).2.2.1 = 2 := by decide +kernel
theorem ps_al_iff {c : Int} : ps_al c = true ↔ 97 ≤ c ∧ c ≤ 122 := by
  unfold ps_al
  rw [Bool.and_eq_true, decide_eq_true_eq, decide_eq_true_eq]
theorem ps_dg_iff {c : Int} : ps_dg c = true ↔ 48 ≤ c ∧ c ≤ 57 := by
  unfold ps_dg
  rw [Bool.and_eq_true, decide_eq_true_eq, decide_eq_true_eq]
theorem ps_bl_iff {c : Int} : ps_bl c = true ↔ c = 32 ∨ c = 10 := by
  unfold ps_bl
  rw [Bool.or_eq_true, decide_eq_true_eq, decide_eq_true_eq]
theorem ps_b_rg {A : Nat → Int} {N : Nat} (hA : ps_A A N) (i : Nat) : -1 ≤ ps_b A N i ∧ ps_b A N i ≤ 255 := by
  unfold ps_b
  split
  · rename_i h
    have := hA.2 i h
    omega
  · omega
theorem ga_T_c {A : Nat → Int} {N : Nat} {r r2 : Nat → Int} {M : Nat → Nat → Int} (e : r2 39 = r 39) (h : ga_T A N r M) : ga_T A N r2 M := ⟨e.trans h.1, h.2⟩
section GAD
variable {n : Nat} {Z : (Nat → Int) → (Nat → Nat → Int) → Option Int → Prop} {P : pt_P} {r0 : Nat → Int} {M : Nat → Nat → Int} {A : Nat → Int} {N s : Nat}
theorem ga_dloop (h : pt_Cl (n + 1 + 1) 108 gaY 0 Z P) (hn : 4 ≤ n) (hT : ga_T A N r0 M) (hs : s ≤ N)
    (hk : ∀ r e, ps_W ps_al A N s e → r 40 = (e : Int) → (∀ t, t < 391 → t ≠ 40 → r t = r0 t) → P (44, 0, 0) (ga_L wa_u) [] r M) :
    ∀ (d i : Nat) (r : Nat → Int), i + d = 200 → r 392 = (i : Int) → r 40 = ((s + i : Nat) : Int) → s + i ≤ N → (∀ t, t < 391 → t ≠ 40 → r t = r0 t) → (∀ j, s ≤ j → j < s + i → ps_al (ps_b A N j) = true) → P (7, 0, 0) (ga_L (wa_i 392)) [] r M := by
  have h' := h
  obtain ⟨hseg, -⟩ := h'
  obtain ⟨c1, c2, c3, c4, ⟨c5, c6⟩, c7, c8⟩ := ga_d_c
  have N2 := hT.2.1.1
  intro d
  induction d with
  | zero =>
    intro i r hi e1 e2 le fr al
    refine hseg _ _ _ _ _ r M _ _ _ _ _ c3 ⟨pt_m0, pt_m1 ⟨by show (200 : Int) ≤ r 392; omega, by show r 392 ≤ (200 : Int); omega⟩, pt_m0⟩ ⟨fun _ => ?_, trivial⟩
    exact hk r (s + i) ⟨by omega, al, by rw [ps_b_ge (by omega)]; exact ps_f1.2.1⟩ e2 fr
  | succ d ih =>
    intro i r hi e1 e2 le fr al
    refine hseg _ _ _ _ _ r M _ _ _ _ _ c2 ⟨pt_m0, pt_m1 ⟨by show (0 : Int) ≤ r 392; omega, by show r 392 ≤ (199 : Int); omega⟩, pt_m0⟩ ⟨fun _ => ?_, trivial⟩
    show P (19, 0, 0) (ga_L (wa_i 392)) (wa_i 40 :: wa_r 84 :: []) r M
    refine ga_bcall (A := A) (N := N) (i := s + i) h (by omega) ga_d_k.1 (ga_T_c (fr _ (by omega) (by omega)) hT) e2 (by omega) ?_
    obtain ⟨r1, hr1⟩ : ∃ r1, r1 = pt_set r 471 (ps_b A N (s + i)) := ⟨_, rfl⟩
    rw [← hr1]
    have n1 : ∀ t, t ≠ 471 → r1 t = r t := fun t ht => by
      rw [hr1]
      exact if_neg ht
    have s1 : r1 471 = ps_b A N (s + i) := by
      rw [hr1]
      exact gz_sset
    have rg := ps_b_rg hT.2.1 (s + i)
    have fr1 : ∀ t, t < 391 → t ≠ 40 → r1 t = r0 t := fun t h1 h2 => (n1 t (by omega)).trans (fr t h1 h2)
    show P (22, 0, 0) (ga_L (wa_i 392)) [wa_i 471] r1 M
    by_cases c : ps_al (ps_b A N (s + i)) = true
    · have cc := ps_al_iff.mp c
      have lt : s + i < N := by
        rcases Nat.lt_or_ge (s + i) N with w | w
        · exact w
        · rw [ps_b_ge w] at cc
          omega
      refine hseg _ _ _ _ _ r1 M _ _ _ _ _ c4 ⟨pt_m0, pt_m3 ⟨by show (97 : Int) ≤ r1 471; omega, by show r1 471 ≤ (122 : Int); omega⟩ ⟨by show (0 : Int) ≤ r1 40; rw [n1 _ (by omega)]; omega, by show r1 40 ≤ (199 : Int); rw [n1 _ (by omega)]; omega⟩ ⟨by show (0 : Int) ≤ r1 392; rw [n1 _ (by omega)]; omega, by show r1 392 ≤ (199 : Int); rw [n1 _ (by omega)]; omega⟩, pt_m0⟩ ⟨fun _ => ?_, trivial⟩
      obtain ⟨r2, hr2⟩ : ∃ r2, r2 = pt_up r1 [(40, gz_d 40 1), (392, gz_d 392 1)] := ⟨_, rfl⟩
      show P (7, 0, 0) (ga_L (wa_i 392)) [] (pt_up r1 [(40, gz_d 40 1), (392, gz_d 392 1)]) M
      rw [← hr2]
      have n2 : ∀ t, t ≠ 40 → t ≠ 392 → r2 t = r1 t := fun t h1 h2 => by
        rw [hr2]
        exact (if_neg h1).trans (if_neg h2)
      refine ih (i + 1) r2 (by omega) (by rw [hr2]; show r1 392 + 1 = _; rw [n1 _ (by omega)]; omega) (by rw [hr2]; show r1 40 + 1 = _; rw [n1 _ (by omega)]; omega) (by omega) (fun t h1 h2 => (n2 t h2 (by omega)).trans (fr1 t h1 h2)) (fun j j1 j2 => ?_)
      by_cases e : j = s + i
      · rw [e]
        exact c
      · exact al j j1 (by omega)
    · have nc : ¬ (97 ≤ ps_b A N (s + i) ∧ ps_b A N (s + i) ≤ 122) := fun w => c (ps_al_iff.mpr w)
      rw [Bool.not_eq_true] at c
      have out : P (44, 0, 0) (ga_L wa_u) [] r1 M := hk r1 (s + i) ⟨by omega, al, c⟩ ((n1 _ (by omega)).trans e2) fr1
      rcases (by omega : ps_b A N (s + i) ≤ 96 ∨ 123 ≤ ps_b A N (s + i)) with w | w
      · exact hseg _ _ _ _ _ r1 M _ _ _ _ _ c5 ⟨pt_m0, pt_m1 ⟨by show (-1 : Int) ≤ r1 471; omega, by show r1 471 ≤ (96 : Int); omega⟩, pt_m0⟩ ⟨fun _ => out, trivial⟩
      · exact hseg _ _ _ _ _ r1 M _ _ _ _ _ c6 ⟨pt_m0, pt_m1 ⟨by show (123 : Int) ≤ r1 471; omega, by show r1 471 ≤ (255 : Int); omega⟩, pt_m0⟩ ⟨fun _ => out, trivial⟩
noncomputable def ga_dP (A : Nat → Int) (N s : Nat) (r : Nat → Int) (M : Nat → Nat → Int) : Prop := ga_T A N r M ∧ r 41 = (s : Int) ∧ r 40 = (s : Int) ∧ s ≤ N
noncomputable def ga_dQ (A : Nat → Int) (N s : Nat) (r : Nat → Int) (M : Nat → Nat → Int) (r2 : Nat → Int) (M2 : Nat → Nat → Int) (o : Option Int) : Prop := (o = none ∧ M2 = M) ∧ (r2 42 = 2 ∧ r2 40 = (ps_wh ps_al A N N s : Int) ∧ r2 43 = ps_wd A s (ps_wh ps_al A N N s)) ∧ ∀ t, t < 391 → t ≠ 40 → t ≠ 42 → t ≠ 43 → r2 t = r t
theorem ga_dM {A : Nat → Int} {N s n : Nat} (hn : 4 ≤ n) : pt_Met (n + 1 + 1 + 1) 108 gaY [wa_r 84] (ga_dP A N s) (ga_dQ A N s) 0 := by
  refine pt_intro (L0 := ga_L wa_u) (ga_b0 108 (by decide)).2 (by omega) gasys (by
    rw [ga_d_k.2.2.2]
    rfl) (fun P r M h hp => ?_)
  have h' := h
  obtain ⟨hseg, henv, -, -, -, -, -, -, -, -, -, -, -, hvret⟩ := h'
  obtain ⟨c1, c2, c3, c4, ⟨c5, c6⟩, c7, c8⟩ := ga_d_c
  obtain ⟨hT, p1, p2, p3⟩ := hp
  refine hseg _ _ _ _ _ r M _ _ _ _ _ c1 ⟨pt_m0, pt_m0, pt_m0⟩ ⟨fun _ => ?_, trivial⟩
  obtain ⟨r1, hr1⟩ : ∃ r1, r1 = pt_up r [(42, gz_k 2), (392, gz_k 0)] := ⟨_, rfl⟩
  show P (7, 0, 0) (ga_L (wa_i 392)) [] (pt_up r [(42, gz_k 2), (392, gz_k 0)]) M
  rw [← hr1]
  have n1 : ∀ t, t ≠ 42 → t ≠ 392 → r1 t = r t := fun t h1 h2 => by
    rw [hr1]
    exact (if_neg h1).trans (if_neg h2)
  have k1 : r1 42 = 2 := by
    rw [hr1]
    rfl
  refine ga_dloop (r0 := r1) (M := M) (A := A) (N := N) (s := s) h hn (ga_T_c (n1 _ (by omega) (by omega)) hT) p3 (fun r2 e w e2 f2 => ?_) 200 0 r1 (by omega) (by rw [hr1]; rfl) (by rw [n1 _ (by omega) (by omega), p2]; rfl) (by omega) (fun _ _ _ => rfl) (fun j j1 j2 => absurd j2 (by omega))
  have eW : e = ps_wh ps_al A N N s := ps_W_u w (ps_wh_ok ps_f1.2.1 N s (by omega))
  have eN := ps_W_le ps_f1.2.1 p3 w
  subst eW
  refine hseg _ _ _ _ _ r2 M _ _ _ _ _ c7 ⟨pt_m0, pt_m0, pt_m0⟩ ⟨fun _ => ?_, trivial⟩
  show P (46, 0, 0) (ga_L wa_u) [wa_r 84, wa_r 84] r2 M
  have st2 : r2 41 = (s : Int) := (f2 _ (by omega) (by omega)).trans ((n1 _ (by omega) (by omega)).trans p1)
  have T2 : ga_T A N r2 M := ga_T_c ((f2 _ (by omega) (by omega)).trans (n1 _ (by omega) (by omega))) hT
  have w1 := w.1
  refine gz_cv (v := fun r => ps_wd A (r 41).toNat (r 40).toNat) h (ga_b0 109 (by decide)).1 (show 391 ≤ 471 by omega) (ga_b0 109 (by decide)).2 ga_d_k.2.1 (ga_wM (A := A) (N := N) hn) (show ga_rP A N r2 M from ⟨T2, by omega, by omega, by omega⟩) (fun t ht => rfl) ?_
  have ev : ps_wd A (r2 41).toNat (r2 40).toNat = ps_wd A s (ps_wh ps_al A N N s) := by
    rw [st2, e2]
    rfl
  show P (49, 0, 0) (ga_L wa_u) [wa_i 471, wa_r 84] (pt_set r2 471 (ps_wd A (r2 41).toNat (r2 40).toNat)) M
  rw [ev]
  obtain ⟨r3, hr3⟩ : ∃ r3, r3 = pt_set r2 471 (ps_wd A s (ps_wh ps_al A N N s)) := ⟨_, rfl⟩
  rw [← hr3]
  have n3 : ∀ t, t ≠ 471 → r3 t = r2 t := fun t ht => by
    rw [hr3]
    exact if_neg ht
  have s3 : r3 471 = ps_wd A s (ps_wh ps_al A N N s) := by
    rw [hr3]
    exact gz_sset
  refine hseg _ _ _ _ _ r3 M _ _ _ _ _ c8 ⟨pt_m0, pt_m0, pt_m0⟩ ⟨fun _ => ?_, trivial⟩
  obtain ⟨r4, hr4⟩ : ∃ r4, r4 = pt_up r3 [(43, gz_p 471)] := ⟨_, rfl⟩
  show P (52, 0, 0) (ga_L wa_u) [] (pt_up r3 [(43, gz_p 471)]) M
  rw [← hr4]
  have n4 : ∀ t, t ≠ 43 → r4 t = r3 t := fun t ht => by
    rw [hr4]
    exact if_neg ht
  refine hvret (52, 0, 0) _ r4 M rfl ga_d_k.2.2.1 (Nat.ble_eq_true_of_le (Nat.zero_le _)) (Nat.ble_eq_true_of_le (Nat.zero_le _)) ⟨⟨rfl, rfl⟩, ⟨?_, ?_, by rw [hr4]; exact s3⟩, fun t h1 h2 h3 h4 => ?_⟩
  · rw [n4 _ (by omega), n3 _ (by omega), f2 _ (by omega) (by omega), k1]
  · rw [n4 _ (by omega), n3 _ (by omega), e2]
  · rw [n4 t h4, n3 t (by omega), f2 t h1 h2, n1 t h3 (by omega)]
end GAD
theorem ga_n_c : pt_row gaY 107 [12] true (0, 0, 0) (ga_L wa_u) [] [] [] [] [] [((12, 0, 0), (ga_L (wa_i 392), []), [(42, gz_k 1), (43, gz_k 0), (392, gz_k 0)], [])] = true ∧
    pt_row gaY 107 [24, 81] true (12, 0, 0) (ga_L (wa_i 392)) [] [] [(392, (0, 199))] [] [] [((24, 0, 0), (ga_L (wa_i 392), [wa_i 40, wa_r 84]), [], [])] = true ∧
    pt_row gaY 107 [24, 81] true (12, 0, 0) (ga_L (wa_i 392)) [] [] [(392, (200, 200))] [] [] [((81, 0, 0), (ga_L wa_u, []), [], [])] = true ∧
    pt_row gaY 107 [55, 62, 81] false (27, 0, 0) (ga_L (wa_i 392)) [wa_i 471] [] [(392, (0, 4)), (471, (48, 57))] [] [] [((55, 0, 0), (ga_L (wa_i 392), [wa_i 40, wa_r 84, wa_i 473, wa_r 84]), [(473, [(0, 43, 0), (1, 0, 10), (2, 2, 0)])], [])] = true ∧
    pt_row gaY 107 [55, 62, 81] false (27, 0, 0) (ga_L (wa_i 392)) [wa_i 471] [] [(392, (5, 199)), (471, (48, 57))] [] [] [((62, 0, 0), (ga_L (wa_i 392), [gz_n (-1), wa_r 84]), [], [])] = true ∧
    (pt_row gaY 107 [55, 62, 81] false (27, 0, 0) (ga_L (wa_i 392)) [wa_i 471] [] [(471, (-1, 47))] [] [] [((81, 0, 0), (ga_L wa_u, []), [], [])] = true ∧ pt_row gaY 107 [55, 62, 81] false (27, 0, 0) (ga_L (wa_i 392)) [wa_i 471] [] [(471, (58, 255))] [] [] [((81, 0, 0), (ga_L wa_u, []), [], [])] = true) ∧
    pt_row gaY 107 [12] false (58, 0, 0) (ga_L (wa_i 392)) [wa_i 471, wa_i 473, wa_r 84] [] [(392, (0, 4)), (40, (0, 199))] [] [] [((12, 0, 0), (ga_L (wa_i 392), []), [(40, gz_d 40 1), (43, [(0, 473, 0), (0, 471, 0), (2, 0, 0), (1, 0, 48), (2, 1, 0)]), (392, gz_d 392 1)], [])] = true ∧
    pt_row gaY 107 [12] false (62, 0, 0) (ga_L (wa_i 392)) [gz_n (-1), wa_r 84] [] [(392, (5, 199)), (40, (0, 199))] [] [] [((12, 0, 0), (ga_L (wa_i 392), []), [(40, gz_d 40 1), (43, gz_k (-1)), (392, gz_d 392 1)], [])] = true := by decide +kernel
theorem ga_n_k : (cy_vk 107 24 102 gaY.2.1 [wa_i 40, wa_r 84] [wa_r 84, wa_i 40] [] && pt_cck gaY 107 102 (24, 0, 0) 1 471 (ga_L (wa_i 392)) [] [wa_r 84, wa_i 40] [wa_r 84, wa_i 392]) = true ∧ (cy_vk 107 55 102 gaY.2.1 [wa_i 40, wa_r 84, wa_i 473, wa_r 84] [wa_r 84, wa_i 40] [wa_i 473, wa_r 84] && pt_cck gaY 107 102 (55, 0, 0) 1 471 (ga_L (wa_i 392)) [wa_i 473, wa_r 84] [wa_r 84, wa_i 40] [wa_r 84, wa_i 392]) = true ∧ pt_is 7 107 81 = true ∧ (ct_mt 107).2.2.1 = 2 := by decide +kernel
theorem ps_dec_b {A : Nat → Int} {s : Nat} : ∀ (k : Nat), (∀ j, j < k → 48 ≤ A (s + j) ∧ A (s + j) ≤ 57) → 0 ≤ ps_dec A s k ∧ ps_dec A s k + 1 ≤ ((10 ^ k : Nat) : Int)
  | 0, _ => by
    unfold ps_dec
    omega
  | k + 1, h => by
    have ih := ps_dec_b k (fun j hj => h j (by omega))
    have d := h k (by omega)
    unfold ps_dec
    rw [Nat.pow_succ]
    omega
noncomputable def ga_nv (A : Nat → Int) (s i : Nat) : Int := if i ≤ 5 then ps_dec A s i else -1
section GAN
variable {n : Nat} {Z : (Nat → Int) → (Nat → Nat → Int) → Option Int → Prop} {P : pt_P} {r0 : Nat → Int} {M : Nat → Nat → Int} {A : Nat → Int} {N s : Nat}
theorem ga_nloop (h : pt_Cl (n + 1) 107 gaY 0 Z P) (hn : 4 ≤ n) (hT : ga_T A N r0 M) (hs : s ≤ N)
    (hk : ∀ r e, ps_W ps_dg A N s e → r 40 = (e : Int) → r 43 = ga_nv A s (e - s) → (∀ t, t < 391 → t ≠ 40 → t ≠ 43 → r t = r0 t) → P (81, 0, 0) (ga_L wa_u) [] r M) :
    ∀ (d i : Nat) (r : Nat → Int), i + d = 200 → r 392 = (i : Int) → r 40 = ((s + i : Nat) : Int) → s + i ≤ N → r 43 = ga_nv A s i → (∀ t, t < 391 → t ≠ 40 → t ≠ 43 → r t = r0 t) → (∀ j, s ≤ j → j < s + i → ps_dg (ps_b A N j) = true) → P (12, 0, 0) (ga_L (wa_i 392)) [] r M := by
  have h' := h
  obtain ⟨hseg, -⟩ := h'
  obtain ⟨c1, c2, c3, c4, c5, ⟨c6, c7⟩, c8, c9⟩ := ga_n_c
  have N2 := hT.2.1.1
  intro d
  induction d with
  | zero =>
    intro i r hi e1 e2 le ev fr al
    refine hseg _ _ _ _ _ r M _ _ _ _ _ c3 ⟨pt_m0, pt_m1 ⟨by show (200 : Int) ≤ r 392; omega, by show r 392 ≤ (200 : Int); omega⟩, pt_m0⟩ ⟨fun _ => ?_, trivial⟩
    exact hk r (s + i) ⟨by omega, al, by rw [ps_b_ge (by omega)]; exact ps_f1.2.2.1⟩ e2 (by rw [ev, show s + i - s = i by omega]) fr
  | succ d ih =>
    intro i r hi e1 e2 le ev fr al
    refine hseg _ _ _ _ _ r M _ _ _ _ _ c2 ⟨pt_m0, pt_m1 ⟨by show (0 : Int) ≤ r 392; omega, by show r 392 ≤ (199 : Int); omega⟩, pt_m0⟩ ⟨fun _ => ?_, trivial⟩
    have T0 := ga_T_c (fr _ (by omega) (by omega) (by omega)) hT
    show P (24, 0, 0) (ga_L (wa_i 392)) (wa_i 40 :: wa_r 84 :: []) r M
    refine ga_bcall (A := A) (N := N) (i := s + i) h (by omega) ga_n_k.1 T0 e2 (by omega) ?_
    obtain ⟨r1, hr1⟩ : ∃ r1, r1 = pt_set r 471 (ps_b A N (s + i)) := ⟨_, rfl⟩
    rw [← hr1]
    have n1 : ∀ t, t ≠ 471 → r1 t = r t := fun t ht => by
      rw [hr1]
      exact if_neg ht
    have s1 : r1 471 = ps_b A N (s + i) := by
      rw [hr1]
      exact gz_sset
    have rg := ps_b_rg hT.2.1 (s + i)
    have fr1 : ∀ t, t < 391 → t ≠ 40 → t ≠ 43 → r1 t = r0 t := fun t h1 h2 h3 => (n1 t (by omega)).trans (fr t h1 h2 h3)
    have nx1 : r1 40 = ((s + i : Nat) : Int) := (n1 _ (by omega)).trans e2
    have a1 : r1 392 = (i : Int) := (n1 _ (by omega)).trans e1
    have vl1 : r1 43 = ga_nv A s i := (n1 _ (by omega)).trans ev
    show P (27, 0, 0) (ga_L (wa_i 392)) [wa_i 471] r1 M
    by_cases c : ps_dg (ps_b A N (s + i)) = true
    · have cc := ps_dg_iff.mp c
      have lt : s + i < N := by
        rcases Nat.lt_or_ge (s + i) N with w | w
        · exact w
        · rw [ps_b_ge w] at cc
          omega
      have al2 : ∀ j, s ≤ j → j < s + (i + 1) → ps_dg (ps_b A N j) = true := fun j j1 j2 => by
        by_cases e : j = s + i
        · rw [e]
          exact c
        · exact al j j1 (by omega)
      by_cases c5' : i ≤ 4
      · have db := ps_dec_b (A := A) (s := s) i (fun j hj => by
          have := ps_dg_iff.mp (al (s + j) (by omega) (by omega))
          rw [ps_b_lt (by omega)] at this
          exact this)
        have p10 : 10 ^ i ≤ 10 ^ 4 := Nat.pow_le_pow_right (by omega) c5'
        have ei : ga_nv A s i = ps_dec A s i := if_pos (by omega)
        have ei1 : ga_nv A s (i + 1) = ps_dec A s i * 10 + A (s + i) - 48 := if_pos (by omega)
        refine hseg _ _ _ _ _ r1 M _ _ _ _ _ c4 ⟨pt_m0, pt_m2 ⟨by show (0 : Int) ≤ r1 392; omega, by show r1 392 ≤ (4 : Int); omega⟩ ⟨by show (48 : Int) ≤ r1 471; omega, by show r1 471 ≤ (57 : Int); omega⟩, pt_m0⟩ ⟨fun _ => ?_, trivial⟩
        obtain ⟨r2, hr2⟩ : ∃ r2, r2 = pt_up r1 [(473, [(0, 43, 0), (1, 0, 10), (2, 2, 0)])] := ⟨_, rfl⟩
        show P (55, 0, 0) (ga_L (wa_i 392)) [wa_i 40, wa_r 84, wa_i 473, wa_r 84] (pt_up r1 [(473, [(0, 43, 0), (1, 0, 10), (2, 2, 0)])]) M
        rw [← hr2]
        have n2 : ∀ t, t ≠ 473 → r2 t = r1 t := fun t ht => by
          rw [hr2]
          exact if_neg ht
        have s2 : r2 473 = ps_dec A s i * 10 := by
          rw [hr2]
          show ai_op 2 (r1 43) 10 = _
          rw [vl1, ei, ga_o2 (by omega) (by omega)]
        refine ga_bcall (A := A) (N := N) (i := s + i) h (by omega) ga_n_k.2.1 (ga_T_c ((n2 _ (by omega)).trans (n1 _ (by omega))) T0) ((n2 _ (by omega)).trans nx1) (by omega) ?_
        obtain ⟨r3, hr3⟩ : ∃ r3, r3 = pt_set r2 471 (ps_b A N (s + i)) := ⟨_, rfl⟩
        rw [← hr3]
        have n3 : ∀ t, t ≠ 471 → r3 t = r2 t := fun t ht => by
          rw [hr3]
          exact if_neg ht
        have s3 : r3 471 = ps_b A N (s + i) := by
          rw [hr3]
          exact gz_sset
        show P (58, 0, 0) (ga_L (wa_i 392)) [wa_i 471, wa_i 473, wa_r 84] r3 M
        refine hseg _ _ _ _ _ r3 M _ _ _ _ _ c8 ⟨pt_m0, pt_m2 ⟨by show (0 : Int) ≤ r3 392; rw [n3 _ (by omega), n2 _ (by omega)]; omega, by show r3 392 ≤ (4 : Int); rw [n3 _ (by omega), n2 _ (by omega)]; omega⟩ ⟨by show (0 : Int) ≤ r3 40; rw [n3 _ (by omega), n2 _ (by omega)]; omega, by show r3 40 ≤ (199 : Int); rw [n3 _ (by omega), n2 _ (by omega)]; omega⟩, pt_m0⟩ ⟨fun _ => ?_, trivial⟩
        obtain ⟨r4, hr4⟩ : ∃ r4, r4 = pt_up r3 [(40, gz_d 40 1), (43, [(0, 473, 0), (0, 471, 0), (2, 0, 0), (1, 0, 48), (2, 1, 0)]), (392, gz_d 392 1)] := ⟨_, rfl⟩
        show P (12, 0, 0) (ga_L (wa_i 392)) [] (pt_up r3 [(40, gz_d 40 1), (43, [(0, 473, 0), (0, 471, 0), (2, 0, 0), (1, 0, 48), (2, 1, 0)]), (392, gz_d 392 1)]) M
        rw [← hr4]
        have n4 : ∀ t, t ≠ 40 → t ≠ 43 → t ≠ 392 → r4 t = r3 t := fun t h1 h2 h3 => by
          rw [hr4]
          exact (if_neg h1).trans ((if_neg h2).trans (if_neg h3))
        refine ih (i + 1) r4 (by omega) (by rw [hr4]; show r3 392 + 1 = _; rw [n3 _ (by omega), n2 _ (by omega)]; omega) (by rw [hr4]; show r3 40 + 1 = _; rw [n3 _ (by omega), n2 _ (by omega)]; omega) (by omega) ?_ (fun t h1 h2 h3 => by rw [n4 t h2 h3 (by omega), n3 t (by omega), n2 t (by omega)]; exact fr1 t h1 h2 h3) al2
        rw [hr4]
        show ai_op 1 (ai_op 0 (r3 473) (r3 471)) 48 = _
        rw [s3, n3 _ (by omega), s2, ei1, wq_o0 (by omega) (by omega), wq_o1 (by omega) (by omega), ps_b_lt lt]
      · have ei1 : ga_nv A s (i + 1) = -1 := if_neg (by omega)
        refine hseg _ _ _ _ _ r1 M _ _ _ _ _ c5 ⟨pt_m0, pt_m2 ⟨by show (5 : Int) ≤ r1 392; omega, by show r1 392 ≤ (199 : Int); omega⟩ ⟨by show (48 : Int) ≤ r1 471; omega, by show r1 471 ≤ (57 : Int); omega⟩, pt_m0⟩ ⟨fun _ => ?_, trivial⟩
        show P (62, 0, 0) (ga_L (wa_i 392)) [gz_n (-1), wa_r 84] r1 M
        refine hseg _ _ _ _ _ r1 M _ _ _ _ _ c9 ⟨pt_m0, pt_m2 ⟨by show (5 : Int) ≤ r1 392; omega, by show r1 392 ≤ (199 : Int); omega⟩ ⟨by show (0 : Int) ≤ r1 40; omega, by show r1 40 ≤ (199 : Int); omega⟩, pt_m0⟩ ⟨fun _ => ?_, trivial⟩
        obtain ⟨r4, hr4⟩ : ∃ r4, r4 = pt_up r1 [(40, gz_d 40 1), (43, gz_k (-1)), (392, gz_d 392 1)] := ⟨_, rfl⟩
        show P (12, 0, 0) (ga_L (wa_i 392)) [] (pt_up r1 [(40, gz_d 40 1), (43, gz_k (-1)), (392, gz_d 392 1)]) M
        rw [← hr4]
        have n4 : ∀ t, t ≠ 40 → t ≠ 43 → t ≠ 392 → r4 t = r1 t := fun t h1 h2 h3 => by
          rw [hr4]
          exact (if_neg h1).trans ((if_neg h2).trans (if_neg h3))
        exact ih (i + 1) r4 (by omega) (by rw [hr4]; show r1 392 + 1 = _; omega) (by rw [hr4]; show r1 40 + 1 = _; omega) (by omega) (by rw [ei1, hr4]; rfl) (fun t h1 h2 h3 => by rw [n4 t h2 h3 (by omega)]; exact fr1 t h1 h2 h3) al2
    · have nc : ¬ (48 ≤ ps_b A N (s + i) ∧ ps_b A N (s + i) ≤ 57) := fun w => c (ps_dg_iff.mpr w)
      rw [Bool.not_eq_true] at c
      have out : P (81, 0, 0) (ga_L wa_u) [] r1 M := hk r1 (s + i) ⟨by omega, al, c⟩ nx1 (by rw [vl1, show s + i - s = i by omega]) fr1
      rcases (by omega : ps_b A N (s + i) ≤ 47 ∨ 58 ≤ ps_b A N (s + i)) with w | w
      · exact hseg _ _ _ _ _ r1 M _ _ _ _ _ c6 ⟨pt_m0, pt_m1 ⟨by show (-1 : Int) ≤ r1 471; omega, by show r1 471 ≤ (47 : Int); omega⟩, pt_m0⟩ ⟨fun _ => out, trivial⟩
      · exact hseg _ _ _ _ _ r1 M _ _ _ _ _ c7 ⟨pt_m0, pt_m1 ⟨by show (58 : Int) ≤ r1 471; omega, by show r1 471 ≤ (255 : Int); omega⟩, pt_m0⟩ ⟨fun _ => out, trivial⟩
noncomputable def ga_nQ (A : Nat → Int) (N s : Nat) (r : Nat → Int) (M : Nat → Nat → Int) (r2 : Nat → Int) (M2 : Nat → Nat → Int) (o : Option Int) : Prop := (o = none ∧ M2 = M) ∧ (r2 42 = 1 ∧ r2 40 = (ps_wh ps_dg A N N s : Int) ∧ r2 43 = ps_nv A s (ps_wh ps_dg A N N s)) ∧ ∀ t, t < 391 → t ≠ 40 → t ≠ 42 → t ≠ 43 → r2 t = r t
theorem ga_nM {A : Nat → Int} {N s n : Nat} (hn : 4 ≤ n) : pt_Met (n + 1 + 1) 107 gaY [wa_r 84] (ga_dP A N s) (ga_nQ A N s) 0 := by
  refine pt_intro (L0 := ga_L wa_u) (ga_b0 107 (by decide)).2 (by omega) gasys (by
    rw [ga_n_k.2.2.2]
    rfl) (fun P r M h hp => ?_)
  have h' := h
  obtain ⟨hseg, henv, -, -, -, -, -, -, -, -, -, -, -, hvret⟩ := h'
  obtain ⟨c1, -⟩ := ga_n_c
  obtain ⟨hT, p1, p2, p3⟩ := hp
  refine hseg _ _ _ _ _ r M _ _ _ _ _ c1 ⟨pt_m0, pt_m0, pt_m0⟩ ⟨fun _ => ?_, trivial⟩
  obtain ⟨r1, hr1⟩ : ∃ r1, r1 = pt_up r [(42, gz_k 1), (43, gz_k 0), (392, gz_k 0)] := ⟨_, rfl⟩
  show P (12, 0, 0) (ga_L (wa_i 392)) [] (pt_up r [(42, gz_k 1), (43, gz_k 0), (392, gz_k 0)]) M
  rw [← hr1]
  have n1 : ∀ t, t ≠ 42 → t ≠ 43 → t ≠ 392 → r1 t = r t := fun t h1 h2 h3 => by
    rw [hr1]
    exact (if_neg h1).trans ((if_neg h2).trans (if_neg h3))
  have k1 : r1 42 = 1 := by
    rw [hr1]
    rfl
  refine ga_nloop (r0 := r1) (M := M) (A := A) (N := N) (s := s) h hn (ga_T_c (n1 _ (by omega) (by omega) (by omega)) hT) p3 (fun r2 e w e2 v2 f2 => ?_) 200 0 r1 (by omega) (by rw [hr1]; rfl) (by rw [n1 _ (by omega) (by omega) (by omega), p2]; rfl) (by omega) (by rw [hr1]; rfl) (fun _ _ _ _ => rfl) (fun j j1 j2 => absurd j2 (by omega))
  have eW : e = ps_wh ps_dg A N N s := ps_W_u w (ps_wh_ok ps_f1.2.2.1 N s (by omega))
  subst eW
  exact hvret (81, 0, 0) _ r2 M rfl ga_n_k.2.2.1 (Nat.ble_eq_true_of_le (Nat.zero_le _)) (Nat.ble_eq_true_of_le (Nat.zero_le _)) ⟨⟨rfl, rfl⟩, ⟨(f2 _ (by omega) (by omega) (by omega)).trans k1, e2, v2⟩, fun t h1 h2 h3 h4 => (f2 t h1 h2 h4).trans (n1 t h3 h4 (by omega))⟩
end GAN
