/-! TEXTS (the reference): step -/
noncomputable def gb_L : List ai_V := [wa_r 264, wa_u, wa_u]
noncomputable abbrev gb_sr (st : List Nat) (pc : Nat) (S : List ai_V) (cp : List (Nat × Int × Int)) (pc2 : Nat) (S2 : List ai_V) (W : List (Nat × pt_X)) : Bool := pt_row gbY 188 st false (pc, 0, 0) gb_L S [] cp [] [] [((pc2, 0, 0), (gb_L, S2), W, [])]
noncomputable def gb_aw : List ai_V := [wa_i 76, wa_r 264]
theorem gb_s_a : pt_row gbY 188 [5] true (0, 0, 0) gb_L [] [] [] [] [] [((5, 0, 0), (gb_L, gb_aw), [], [])] = true ∧
    (gb_sr [5, 18] 8 [wa_i 471] [(471, (32, 32)), (76, (0, 199))] 5 gb_aw [(76, gz_d 76 1)] = true ∧ gb_sr [5, 18] 8 [wa_i 471] [(471, (-1, 31))] 18 gb_aw [] = true ∧ gb_sr [5, 18] 8 [wa_i 471] [(471, (33, 255))] 18 gb_aw [] = true) ∧
    (gb_sr [5, 57] 21 [wa_i 471] [(471, (10, 10)), (76, (0, 199))] 5 gb_aw [(76, gz_d 76 1)] = true ∧ gb_sr [5, 57] 21 [wa_i 471] [(471, (-1, 9))] 57 gb_aw [(79, gz_k 0), (81, gz_p 76)] = true ∧ gb_sr [5, 57] 21 [wa_i 471] [(471, (11, 255))] 57 gb_aw [(79, gz_k 0), (81, gz_p 76)] = true) := by decide +kernel
theorem gb_s_b : (gb_sr [86, 133, 288] 60 [wa_i 471] [(471, (-1, -1))] 288 [] [(78, gz_k 0), (82, gz_p 76)] = true ∧ gb_sr [86, 133, 288] 60 [wa_i 471] [(471, (97, 122))] 86 gb_aw [] = true ∧ gb_sr [86, 133, 288] 60 [wa_i 471] [(471, (48, 57))] 133 gb_aw [(80, gz_k 0)] = true) ∧
    (gb_sr [86, 288] 89 [wa_i 471] [(471, (97, 122)), (76, (0, 199))] 86 gb_aw [(76, gz_d 76 1)] = true ∧ gb_sr [86, 288] 89 [wa_i 471] [(471, (-1, 96))] 288 [] [(78, gz_k 1), (82, gz_p 76)] = true ∧ gb_sr [86, 288] 89 [wa_i 471] [(471, (123, 255))] 288 [] [(78, gz_k 1), (82, gz_p 76)] = true) := by decide +kernel
noncomputable def gb_nS : List ai_V := [wa_i 472, gz_n 1000000, wa_r 264]
noncomputable def gb_nX : pt_X := [(1, 0, 1000000), (0, 472, 0), (0, 471, 0), (2, 0, 0), (1, 0, 48), (2, 1, 0), (2, 12, 0)]
theorem gb_s_n : gb_sr [133, 158, 288] 136 [wa_i 471] [(471, (48, 57))] 158 (wa_i 76 :: wa_r 264 :: gb_nS) [(472, [(1, 0, 10), (0, 80, 0), (2, 2, 0)])] = true ∧ gb_sr [133, 158, 288] 136 [wa_i 471] [(471, (-1, 47))] 288 [] [(78, gz_k 2), (82, gz_p 76)] = true ∧ gb_sr [133, 158, 288] 136 [wa_i 471] [(471, (58, 255))] 288 [] [(78, gz_k 2), (82, gz_p 76)] = true ∧
    gb_sr [133, 288] 161 (wa_i 471 :: gb_nS) [(471, (48, 57)), (76, (0, 199))] 133 gb_aw [(76, gz_d 76 1), (80, gb_nX)] = true := by decide +kernel
noncomputable def gb_sI : List (Int × Int × Int) := [(0, 39, 4), (44, 44, 4), (46, 46, 4), (58, 58, 4), (62, 96, 4), (123, 255, 4), (40, 40, 3), (41, 41, 3), (42, 42, 3), (43, 43, 3), (45, 45, 3), (47, 47, 3), (59, 59, 3), (60, 60, 3), (61, 61, 3)]
theorem gb_s_i : gb_sI.all (fun z => gb_sr [86, 133, 288] 60 [wa_i 471] [(471, (z.1, z.2.1)), (76, (0, 199))] 288 [] [(76, gz_d 76 1), (78, gz_k z.2.2), (79, gz_p 471), (82, gz_d 76 1)]) = true := by decide +kernel
noncomputable def gb_sk (pc : Nat) (S' : List ai_V) : Bool := cy_vk 188 pc 185 gbY.2.1 (wa_i 76 :: wa_r 264 :: S') [wa_r 264, wa_i 76] S' && pt_cck gbY 188 185 (pc, 0, 0) 1 471 gb_L S' [wa_r 264, wa_i 76] [wa_r 264, wa_i 392]
theorem gb_s_k : (gb_sk 5 [] = true ∧ gb_sk 18 [] = true ∧ gb_sk 57 [] = true ∧ gb_sk 86 [] = true ∧ gb_sk 133 [] = true ∧ gb_sk 158 gb_nS = true) ∧ pt_is 7 188 288 = true ∧ (ct_mt 188).2.2.1 = 3 := by decide +kernel
/-- which of the intervals a byte is in that is neither a letter nor a digit -/
theorem gb_sin {c : Int} (h1 : 0 ≤ c ∧ c ≤ 255) (h2 : ps_al c = false) (h3 : ps_dg c = false) : ∃ z ∈ gb_sI, (z.1 ≤ c ∧ c ≤ z.2.1) ∧ z.2.2 = (if ps_sg c = true then 3 else 4) := by
  obtain ⟨k, hk⟩ : ∃ k : Nat, c = (k : Int) := ⟨c.toNat, by omega⟩
  have hk' : k < 256 := by omega
  have g : (List.range 256).all (fun k => ps_al (k : Int) || (ps_dg (k : Int) || gb_sI.any (fun z => (decide (z.1 ≤ (k : Int)) && decide ((k : Int) ≤ z.2.1)) && decide (z.2.2 = (if ps_sg (k : Int) = true then 3 else 4))))) = true := by decide +kernel
  have g := List.all_eq_true.mp g k (List.mem_range.mpr hk')
  rw [← hk, h2, h3] at g
  have g : gb_sI.any (fun z => (decide (z.1 ≤ c) && decide (c ≤ z.2.1)) && decide (z.2.2 = (if ps_sg c = true then 3 else 4))) = true := g
  obtain ⟨z, hz, w⟩ := List.any_eq_true.mp g
  rw [Bool.and_eq_true, Bool.and_eq_true, decide_eq_true_eq, decide_eq_true_eq, decide_eq_true_eq] at w
  exact ⟨z, hz, w⟩
section GBS
variable {n : Nat} {Z : (Nat → Int) → (Nat → Nat → Int) → Option Int → Prop} {P : pt_P} {r0 : Nat → Int} {M : Nat → Nat → Int} {A : Nat → Int} {N s : Nat}
/-- blanks -/
theorem gb_sl1 (h : pt_Cl (n + 1) 188 gbY 0 Z P) (hn : 4 ≤ n) (hT : gb_T A N r0 M)
    (hk : ∀ r e, ps_W ps_bl A N s e → e ≤ N → r 76 = (e : Int) → r 81 = (e : Int) → (∀ t, t < 391 → t ≠ 76 → t ≠ 81 → t ≠ 79 → r t = r0 t) → P (57, 0, 0) gb_L gb_aw r M) :
    ∀ (d q : Nat) (r : Nat → Int), N < q + d → r 76 = (q : Int) → s ≤ q → q ≤ N → (∀ t, t < 391 → t ≠ 76 → r t = r0 t) → (∀ j, s ≤ j → j < q → ps_bl (ps_b A N j) = true) → P (5, 0, 0) gb_L gb_aw r M := by
  have h' := h
  obtain ⟨hseg, -⟩ := h'
  obtain ⟨-, ⟨c1, c2, c3⟩, c4, c5, c6⟩ := gb_s_a
  obtain ⟨k1, k2, -⟩ := gb_s_k.1
  have N2 := hT.2.1.1
  intro d
  induction d with
  | zero => intro q r hi _ _ le; omega
  | succ d ih =>
    intro q r hi e2 sq le fr al
    have T0 := gb_T_c (M2 := M) (fr _ (by omega) (by omega)) rfl hT
    refine gb_bcall (A := A) (N := N) (i := q) (S' := []) h hn k1 T0 e2 (by omega) ?_
    obtain ⟨r1, hr1⟩ : ∃ r1, r1 = pt_set r 471 (ps_b A N q) := ⟨_, rfl⟩
    rw [← hr1]
    have n1 : ∀ t, t ≠ 471 → r1 t = r t := fun t ht => by
      rw [hr1]
      exact if_neg ht
    have s1 : r1 471 = ps_b A N q := by
      rw [hr1]
      exact gz_sset
    have rg := ps_b_rg hT.2.1 q
    have lt : ps_bl (ps_b A N q) = true → q < N := fun c => by
      have cc := ps_bl_iff.mp c
      rcases Nat.lt_or_ge q N with w | w
      · exact w
      · rw [ps_b_ge w] at cc
        omega
    have go : ps_bl (ps_b A N q) = true → ∀ r2, (∀ t, t ≠ 471 → r2 t = r t) → P (5, 0, 0) gb_L gb_aw (pt_up r2 [(76, gz_d 76 1)]) M := fun c r2 n2 => by
      have lt := lt c
      obtain ⟨r3, hr3⟩ : ∃ r3, r3 = pt_up r2 [(76, gz_d 76 1)] := ⟨_, rfl⟩
      rw [← hr3]
      have n3 : ∀ t, t ≠ 76 → r3 t = r2 t := fun t h1 => by
        rw [hr3]
        exact if_neg h1
      refine ih (q + 1) r3 (by omega) (by rw [hr3]; show r2 76 + 1 = _; rw [n2 _ (by omega)]; omega) (by omega) (by omega) (fun t h1 h2 => by rw [n3 t h2, n2 t (by omega)]; exact fr t h1 h2) (fun j j1 j2 => ?_)
      by_cases e : j = q
      · rw [e]
        exact c
      · exact al j j1 (by omega)
    have stop : ps_bl (ps_b A N q) = false → ∀ r2, (∀ t, t ≠ 471 → r2 t = r t) → P (57, 0, 0) gb_L gb_aw (pt_up r2 [(79, gz_k 0), (81, gz_p 76)]) M := fun c r2 n2 => by
      obtain ⟨r3, hr3⟩ : ∃ r3, r3 = pt_up r2 [(79, gz_k 0), (81, gz_p 76)] := ⟨_, rfl⟩
      rw [← hr3]
      have n3 : ∀ t, t ≠ 79 → t ≠ 81 → r3 t = r2 t := fun t h1 h2 => by
        rw [hr3]
        exact (if_neg h1).trans (if_neg h2)
      exact hk r3 q ⟨sq, al, c⟩ le (by rw [n3 _ (by omega) (by omega), n2 _ (by omega), e2]) (by rw [hr3]; show r2 76 = _; rw [n2 _ (by omega), e2]) (fun t h1 h2 h3 h4 => by rw [n3 t h4 h3, n2 t (by omega), fr t h1 h2])
    show P (8, 0, 0) gb_L [wa_i 471] r1 M
    have a2 : ∀ r2 : Nat → Int, (∀ t, t ≠ 471 → r2 t = r t) → q < N → (0 : Int) ≤ r2 76 ∧ r2 76 ≤ 199 := fun r2 n2 lt => by
      rw [n2 _ (by omega)]
      omega
    by_cases q1 : ps_b A N q = 32
    · have c := ps_bl_iff.mpr (Or.inl q1)
      exact hseg _ _ _ _ _ r1 M _ _ _ _ _ c1 ⟨pt_m0, pt_mc ⟨by show (32 : Int) ≤ r1 471; omega, by show r1 471 ≤ (32 : Int); omega⟩ (pt_m1 (a2 r1 n1 (lt c))), pt_m0⟩ ⟨fun _ => go c r1 n1, trivial⟩
    · have nxt : P (18, 0, 0) gb_L gb_aw r1 M := by
        refine gb_bcall (A := A) (N := N) (i := q) (S' := []) h hn k2 (gb_T_c (n1 _ (by omega)) rfl T0) ((n1 _ (by omega)).trans e2) (by omega) ?_
        obtain ⟨r2, hr2⟩ : ∃ r2, r2 = pt_set r1 471 (ps_b A N q) := ⟨_, rfl⟩
        rw [← hr2]
        have n2 : ∀ t, t ≠ 471 → r2 t = r t := fun t ht => by
          rw [hr2]
          exact (if_neg ht).trans (n1 t ht)
        have s2 : r2 471 = ps_b A N q := by
          rw [hr2]
          exact gz_sset
        show P (21, 0, 0) gb_L [wa_i 471] r2 M
        by_cases q2 : ps_b A N q = 10
        · have c := ps_bl_iff.mpr (Or.inr q2)
          exact hseg _ _ _ _ _ r2 M _ _ _ _ _ c4 ⟨pt_m0, pt_mc ⟨by show (10 : Int) ≤ r2 471; omega, by show r2 471 ≤ (10 : Int); omega⟩ (pt_m1 (a2 r2 n2 (lt c))), pt_m0⟩ ⟨fun _ => go c r2 n2, trivial⟩
        · have c : ps_bl (ps_b A N q) = false := by
            rw [Bool.eq_false_iff]
            exact fun w => by
              have := ps_bl_iff.mp w
              omega
          rcases (by omega : ps_b A N q ≤ 9 ∨ 11 ≤ ps_b A N q) with w | w
          · exact hseg _ _ _ _ _ r2 M _ _ _ _ _ c5 ⟨pt_m0, pt_m1 ⟨by show (-1 : Int) ≤ r2 471; omega, by show r2 471 ≤ (9 : Int); omega⟩, pt_m0⟩ ⟨fun _ => stop c r2 n2, trivial⟩
          · exact hseg _ _ _ _ _ r2 M _ _ _ _ _ c6 ⟨pt_m0, pt_m1 ⟨by show (11 : Int) ≤ r2 471; omega, by show r2 471 ≤ (255 : Int); omega⟩, pt_m0⟩ ⟨fun _ => stop c r2 n2, trivial⟩
      rcases (by omega : ps_b A N q ≤ 31 ∨ 33 ≤ ps_b A N q) with w | w
      · exact hseg _ _ _ _ _ r1 M _ _ _ _ _ c2 ⟨pt_m0, pt_m1 ⟨by show (-1 : Int) ≤ r1 471; omega, by show r1 471 ≤ (31 : Int); omega⟩, pt_m0⟩ ⟨fun _ => nxt, trivial⟩
      · exact hseg _ _ _ _ _ r1 M _ _ _ _ _ c3 ⟨pt_m0, pt_m1 ⟨by show (33 : Int) ≤ r1 471; omega, by show r1 471 ≤ (255 : Int); omega⟩, pt_m0⟩ ⟨fun _ => nxt, trivial⟩
/-- letters -/
theorem gb_sl2 (h : pt_Cl (n + 1) 188 gbY 0 Z P) (hn : 4 ≤ n) (hT : gb_T A N r0 M)
    (hk : ∀ r e, ps_W ps_al A N s e → r 76 = (e : Int) → r 82 = (e : Int) → r 78 = 1 → (∀ t, t < 391 → t ≠ 76 → t ≠ 78 → t ≠ 82 → r t = r0 t) → P (288, 0, 0) gb_L [] r M) :
    ∀ (d q : Nat) (r : Nat → Int), N < q + d → r 76 = (q : Int) → s ≤ q → q ≤ N → (∀ t, t < 391 → t ≠ 76 → r t = r0 t) → (∀ j, s ≤ j → j < q → ps_al (ps_b A N j) = true) → P (86, 0, 0) gb_L gb_aw r M := by
  have h' := h
  obtain ⟨hseg, -⟩ := h'
  obtain ⟨-, c1, c2, c3⟩ := gb_s_b
  have k1 := gb_s_k.1.2.2.2.1
  have N2 := hT.2.1.1
  intro d
  induction d with
  | zero => intro q r hi _ _ le; omega
  | succ d ih =>
    intro q r hi e2 sq le fr al
    have T0 := gb_T_c (M2 := M) (fr _ (by omega) (by omega)) rfl hT
    refine gb_bcall (A := A) (N := N) (i := q) (S' := []) h hn k1 T0 e2 (by omega) ?_
    obtain ⟨r1, hr1⟩ : ∃ r1, r1 = pt_set r 471 (ps_b A N q) := ⟨_, rfl⟩
    rw [← hr1]
    have n1 : ∀ t, t ≠ 471 → r1 t = r t := fun t ht => by
      rw [hr1]
      exact if_neg ht
    have s1 : r1 471 = ps_b A N q := by
      rw [hr1]
      exact gz_sset
    have rg := ps_b_rg hT.2.1 q
    show P (89, 0, 0) gb_L [wa_i 471] r1 M
    by_cases c : ps_al (ps_b A N q) = true
    · have cc := ps_al_iff.mp c
      have lt : q < N := by
        rcases Nat.lt_or_ge q N with w | w
        · exact w
        · rw [ps_b_ge w] at cc
          omega
      refine hseg _ _ _ _ _ r1 M _ _ _ _ _ c1 ⟨pt_m0, pt_mc ⟨by show (97 : Int) ≤ r1 471; omega, by show r1 471 ≤ (122 : Int); omega⟩ (pt_m1 ⟨by show (0 : Int) ≤ r1 76; rw [n1 _ (by omega)]; omega, by show r1 76 ≤ (199 : Int); rw [n1 _ (by omega)]; omega⟩), pt_m0⟩ ⟨fun _ => ?_, trivial⟩
      obtain ⟨r2, hr2⟩ : ∃ r2, r2 = pt_up r1 [(76, gz_d 76 1)] := ⟨_, rfl⟩
      show P (86, 0, 0) gb_L gb_aw (pt_up r1 [(76, gz_d 76 1)]) M
      rw [← hr2]
      have n2 : ∀ t, t ≠ 76 → r2 t = r1 t := fun t h1 => by
        rw [hr2]
        exact if_neg h1
      refine ih (q + 1) r2 (by omega) (by rw [hr2]; show r1 76 + 1 = _; rw [n1 _ (by omega)]; omega) (by omega) (by omega) (fun t h1 h2 => (n2 t h2).trans ((n1 t (by omega)).trans (fr t h1 h2))) (fun j j1 j2 => ?_)
      by_cases e : j = q
      · rw [e]
        exact c
      · exact al j j1 (by omega)
    · have nc : ¬ (97 ≤ ps_b A N q ∧ ps_b A N q ≤ 122) := fun w => c (ps_al_iff.mpr w)
      rw [Bool.not_eq_true] at c
      have out : P (288, 0, 0) gb_L [] (pt_up r1 [(78, gz_k 1), (82, gz_p 76)]) M := by
        obtain ⟨r3, hr3⟩ : ∃ r3, r3 = pt_up r1 [(78, gz_k 1), (82, gz_p 76)] := ⟨_, rfl⟩
        rw [← hr3]
        have n3 : ∀ t, t ≠ 78 → t ≠ 82 → r3 t = r1 t := fun t h1 h2 => by
          rw [hr3]
          exact (if_neg h1).trans (if_neg h2)
        exact hk r3 q ⟨sq, al, c⟩ (by rw [n3 _ (by omega) (by omega), n1 _ (by omega), e2]) (by rw [hr3]; show r1 76 = _; rw [n1 _ (by omega), e2]) (by rw [hr3]; rfl) (fun t h1 h2 h3 h4 => by rw [n3 t h3 h4, n1 t (by omega), fr t h1 h2])
      rcases (by omega : ps_b A N q ≤ 96 ∨ 123 ≤ ps_b A N q) with w | w
      · exact hseg _ _ _ _ _ r1 M _ _ _ _ _ c2 ⟨pt_m0, pt_m1 ⟨by show (-1 : Int) ≤ r1 471; omega, by show r1 471 ≤ (96 : Int); omega⟩, pt_m0⟩ ⟨fun _ => out, trivial⟩
      · exact hseg _ _ _ _ _ r1 M _ _ _ _ _ c3 ⟨pt_m0, pt_m1 ⟨by show (123 : Int) ≤ r1 471; omega, by show r1 471 ≤ (255 : Int); omega⟩, pt_m0⟩ ⟨fun _ => out, trivial⟩
/-- digits -/
theorem gb_sl3 (h : pt_Cl (n + 1) 188 gbY 0 Z P) (hn : 4 ≤ n) (hT : gb_T A N r0 M)
    (hk : ∀ r e, ps_W ps_dg A N s e → r 76 = (e : Int) → r 82 = (e : Int) → r 78 = 2 → (e - s ≤ 5 → r 80 = ps_dec A s (e - s)) → (∀ t, t < 391 → t ≠ 76 → t ≠ 78 → t ≠ 82 → t ≠ 80 → r t = r0 t) → P (288, 0, 0) gb_L [] r M) :
    ∀ (d q : Nat) (r : Nat → Int), N < q + d → r 76 = (q : Int) → s ≤ q → q ≤ N → (q - s ≤ 5 → r 80 = ps_dec A s (q - s)) → (∀ t, t < 391 → t ≠ 76 → t ≠ 80 → r t = r0 t) → (∀ j, s ≤ j → j < q → ps_dg (ps_b A N j) = true) → P (133, 0, 0) gb_L gb_aw r M := by
  have h' := h
  obtain ⟨hseg, -⟩ := h'
  obtain ⟨c1, c2, c3, c4⟩ := gb_s_n
  obtain ⟨-, -, -, -, k1, k2⟩ := gb_s_k.1
  have N2 := hT.2.1.1
  intro d
  induction d with
  | zero => intro q r hi _ _ le; omega
  | succ d ih =>
    intro q r hi e2 sq le ev fr al
    have T0 := gb_T_c (M2 := M) (fr _ (by omega) (by omega) (by omega)) rfl hT
    refine gb_bcall (A := A) (N := N) (i := q) (S' := []) h hn k1 T0 e2 (by omega) ?_
    obtain ⟨r1, hr1⟩ : ∃ r1, r1 = pt_set r 471 (ps_b A N q) := ⟨_, rfl⟩
    rw [← hr1]
    have n1 : ∀ t, t ≠ 471 → r1 t = r t := fun t ht => by
      rw [hr1]
      exact if_neg ht
    have s1 : r1 471 = ps_b A N q := by
      rw [hr1]
      exact gz_sset
    have rg := ps_b_rg hT.2.1 q
    show P (136, 0, 0) gb_L [wa_i 471] r1 M
    by_cases c : ps_dg (ps_b A N q) = true
    · have cc := ps_dg_iff.mp c
      have lt : q < N := by
        rcases Nat.lt_or_ge q N with w | w
        · exact w
        · rw [ps_b_ge w] at cc
          omega
      refine hseg _ _ _ _ _ r1 M _ _ _ _ _ c1 ⟨pt_m0, pt_m1 ⟨by show (48 : Int) ≤ r1 471; omega, by show r1 471 ≤ (57 : Int); omega⟩, pt_m0⟩ ⟨fun _ => ?_, trivial⟩
      obtain ⟨r2, hr2⟩ : ∃ r2, r2 = pt_up r1 [(472, [(1, 0, 10), (0, 80, 0), (2, 2, 0)])] := ⟨_, rfl⟩
      show P (158, 0, 0) gb_L (wa_i 76 :: wa_r 264 :: gb_nS) (pt_up r1 [(472, [(1, 0, 10), (0, 80, 0), (2, 2, 0)])]) M
      rw [← hr2]
      have n2 : ∀ t, t ≠ 472 → r2 t = r1 t := fun t ht => by
        rw [hr2]
        exact if_neg ht
      have s2 : r2 472 = ai_op 2 10 (r 80) := by
        rw [hr2]
        show ai_op 2 10 (r1 80) = _
        rw [n1 _ (by omega)]
      refine gb_bcall (A := A) (N := N) (i := q) (S' := gb_nS) h hn k2 (gb_T_c ((n2 _ (by omega)).trans (n1 _ (by omega))) rfl T0) (by rw [n2 _ (by omega), n1 _ (by omega), e2]) (by omega) ?_
      obtain ⟨r3, hr3⟩ : ∃ r3, r3 = pt_set r2 471 (ps_b A N q) := ⟨_, rfl⟩
      rw [← hr3]
      have n3 : ∀ t, t ≠ 471 → r3 t = r2 t := fun t ht => by
        rw [hr3]
        exact if_neg ht
      have s3 : r3 471 = ps_b A N q := by
        rw [hr3]
        exact gz_sset
      have at3 : r3 76 = (q : Int) := by rw [n3 _ (by omega), n2 _ (by omega), n1 _ (by omega), e2]
      show P (161, 0, 0) gb_L (wa_i 471 :: gb_nS) r3 M
      refine hseg _ _ _ _ _ r3 M _ _ _ _ _ c4 ⟨pt_m0, pt_mc ⟨by show (48 : Int) ≤ r3 471; omega, by show r3 471 ≤ (57 : Int); omega⟩ (pt_m1 ⟨by show (0 : Int) ≤ r3 76; omega, by show r3 76 ≤ (199 : Int); omega⟩), pt_m0⟩ ⟨fun _ => ?_, trivial⟩
      obtain ⟨r4, hr4⟩ : ∃ r4, r4 = pt_up r3 [(76, gz_d 76 1), (80, gb_nX)] := ⟨_, rfl⟩
      show P (133, 0, 0) gb_L gb_aw (pt_up r3 [(76, gz_d 76 1), (80, gb_nX)]) M
      rw [← hr4]
      have n4 : ∀ t, t ≠ 76 → t ≠ 80 → r4 t = r3 t := fun t h1 h2 => by
        rw [hr4]
        exact (if_neg h1).trans (if_neg h2)
      refine ih (q + 1) r4 (by omega) (by rw [hr4]; show r3 76 + 1 = _; omega) (by omega) (by omega) (fun w => ?_) (fun t h1 h2 h3 => by rw [n4 t h2 h3, n3 t (by omega), n2 t (by omega), n1 t (by omega), fr t h1 h2 h3]) (fun j j1 j2 => ?_)
      · have ev := ev (by omega)
        have db := ps_dec_b (A := A) (s := s) (q - s) (fun j hj => by
          have := ps_dg_iff.mp (al (s + j) (by omega) (by omega))
          rw [ps_b_lt (by omega)] at this
          exact this)
        have p10 : 10 ^ (q - s) ≤ 10 ^ 4 := Nat.pow_le_pow_right (by omega) (by omega)
        have e1 : ps_dec A s (q + 1 - s) = ps_dec A s (q - s) * 10 + A q - 48 := by
          rw [show q + 1 - s = (q - s) + 1 by omega]
          show ps_dec A s (q - s) * 10 + A (s + (q - s)) - 48 = _
          rw [show s + (q - s) = q by omega]
        have bq : ps_b A N q = A q := ps_b_lt lt
        have m1 : r3 472 = 10 * ps_dec A s (q - s) := by
          rw [n3 _ (by omega), s2, ev, ga_o2 (by omega) (by omega)]
        rw [hr4]
        show ai_min 1000000 (ai_op 1 (ai_op 0 (r3 472) (r3 471)) 48) = _
        rw [m1, s3, wq_o0 (by omega) (by omega), wq_o1 (by omega) (by omega), e1]
        have mn : ∀ x y : Int, y ≤ x → ai_min x y = y := fun x y w => by
          unfold ai_min
          split <;> rename_i hh
          · have := ai_le_iff.mp hh
            omega
          · rfl
        rw [mn _ _ (by omega)]
        omega
      · by_cases e : j = q
        · rw [e]
          exact c
        · exact al j j1 (by omega)
    · have nc : ¬ (48 ≤ ps_b A N q ∧ ps_b A N q ≤ 57) := fun w => c (ps_dg_iff.mpr w)
      rw [Bool.not_eq_true] at c
      have out : P (288, 0, 0) gb_L [] (pt_up r1 [(78, gz_k 2), (82, gz_p 76)]) M := by
        obtain ⟨r3, hr3⟩ : ∃ r3, r3 = pt_up r1 [(78, gz_k 2), (82, gz_p 76)] := ⟨_, rfl⟩
        rw [← hr3]
        have n3 : ∀ t, t ≠ 78 → t ≠ 82 → r3 t = r1 t := fun t h1 h2 => by
          rw [hr3]
          exact (if_neg h1).trans (if_neg h2)
        exact hk r3 q ⟨sq, al, c⟩ (by rw [n3 _ (by omega) (by omega), n1 _ (by omega), e2]) (by rw [hr3]; show r1 76 = _; rw [n1 _ (by omega), e2]) (by rw [hr3]; rfl) (fun w => by rw [n3 _ (by omega) (by omega), n1 _ (by omega)]; exact ev w) (fun t h1 h2 h3 h4 h5 => by rw [n3 t h3 h4, n1 t (by omega), fr t h1 h2 h5])
      rcases (by omega : ps_b A N q ≤ 47 ∨ 58 ≤ ps_b A N q) with w | w
      · exact hseg _ _ _ _ _ r1 M _ _ _ _ _ c2 ⟨pt_m0, pt_m1 ⟨by show (-1 : Int) ≤ r1 471; omega, by show r1 471 ≤ (47 : Int); omega⟩, pt_m0⟩ ⟨fun _ => out, trivial⟩
      · exact hseg _ _ _ _ _ r1 M _ _ _ _ _ c3 ⟨pt_m0, pt_m1 ⟨by show (58 : Int) ≤ r1 471; omega, by show r1 471 ≤ (255 : Int); omega⟩, pt_m0⟩ ⟨fun _ => out, trivial⟩
end GBS
