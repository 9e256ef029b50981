/-! TEXTS (the class): pass, part -/
theorem ps_vl_rg {A : Nat → Int} {N : Nat} (hA : ps_A A N) (p : Nat) : (ps_tk A N p = 3 → 0 ≤ ps_vl A N p ∧ ps_vl A N p ≤ 255) ∧ (ps_tk A N p = 2 → -17 ≤ ps_vl A N p ∧ ps_vl A N p ≤ -1) := by
  refine ⟨fun h => ?_, fun h => ?_⟩
  · unfold ps_vl
    rw [if_neg (by omega), if_neg (by omega)]
    have c1 : ps_c A N p ≠ -1 := fun e => by
      have := ps_tk_end.mpr e
      omega
    have := ps_b_rg hA (ps_st A N p)
    have e : ps_c A N p = ps_b A N (ps_st A N p) := rfl
    omega
  · unfold ps_vl
    rw [if_neg (by omega), if_pos h]
    unfold ps_wd
    repeat' split
    all_goals omega
theorem ps_is_iff {A : Nat → Int} {N : Nat} {c : Int} {σ : ps_S} : ps_is A N c σ = true ↔ ps_tk A N σ.1 = 3 ∧ ps_vl A N σ.1 = c := by
  unfold ps_is
  rw [Bool.and_eq_true, decide_eq_true_eq, decide_eq_true_eq]
theorem ps_iw_iff {A : Nat → Int} {N : Nat} {c : Int} {σ : ps_S} : ps_iw A N c σ = true ↔ ps_tk A N σ.1 = 2 ∧ ps_vl A N σ.1 = c := by
  unfold ps_iw
  rw [Bool.and_eq_true, decide_eq_true_eq, decide_eq_true_eq]
noncomputable def ga_pI (c : Int) : List (Int × Int) := [(0, c - 1), (c + 1, 255)]
noncomputable def ga_pL (c : Int) : List ai_V := ga_L (gz_n c)
noncomputable def ga_pc (c : Int) : Bool := (pt_row gaY 97 [7] true (0, 0, 0) (ga_pL c) [] [] [(38, (1, 3))] [] [] [((7, 0, 0), (ga_pL c, []), [], [])] && pt_row gaY 97 [7, 17, 25] true (0, 0, 0) (ga_pL c) [] [] [(38, (0, 0)), (42, (3, 3)), (43, (c, c))] [] [] [((17, 0, 0), (ga_pL c, [wa_r 84]), [], [])]) &&
  ((pt_row gaY 97 [7, 17, 25] true (0, 0, 0) (ga_pL c) [] [] [(38, (0, 0)), (42, (0, 2))] [] [] [((25, 0, 0), (ga_pL c, [gz_n 1, wa_r 84]), [], [])] && pt_row gaY 97 [7, 17, 25] true (0, 0, 0) (ga_pL c) [] [] [(38, (0, 0)), (42, (4, 4))] [] [] [((25, 0, 0), (ga_pL c, [gz_n 1, wa_r 84]), [], [])]) &&
  ((ga_pI c).all (fun z => pt_row gaY 97 [7, 17, 25] true (0, 0, 0) (ga_pL c) [] [] [(38, (0, 0)), (42, (3, 3)), (43, (z.1, z.2))] [] [] [((25, 0, 0), (ga_pL c, [gz_n 1, wa_r 84]), [], [])]) && (pt_row gaY 97 [28] false (20, 0, 0) (ga_pL c) [] [] [] [] [] [((28, 0, 0), (ga_pL c, []), [], [])] &&
  ((cy_vk 97 17 103 gaY.2.1 [wa_r 84] [wa_r 84] [] && pt_cck gaY 97 103 (17, 0, 0) 0 471 (ga_pL c) [] [wa_r 84] [wa_r 84]) && (cy_vk 97 25 98 gaY.2.1 [gz_n 1, wa_r 84] [wa_r 84, gz_n 1] [] && pt_cck gaY 97 98 (25, 0, 0) 0 471 (ga_pL c) [] [wa_r 84, gz_n 1] [wa_r 84, wa_i 392])))))
theorem ga_p_c : (ga_pc 41 = true ∧ ga_pc 59 = true) ∧ pt_is 7 97 7 = true ∧ pt_is 7 97 28 = true ∧ (ct_mt 97).2.2.1 = 2 := by decide +kernel
theorem ga_pM {A : Nat → Int} {N n : Nat} {σ : ps_S} {c : Int} (hn : 8 ≤ n) (hc : c = 41 ∨ c = 59) : ga_K (n + 1) 97 A N σ (ps_pa A N c σ) c := by
  refine pt_intro (L0 := ga_L (wa_i 392)) (ga_b0 97 (by decide)).2 (by omega) gasys (by
    rw [ga_p_c.2.2.2]
    rfl) (fun P r M h hp => ?_)
  have h' := h
  obtain ⟨hseg, henv, hrel, -, -, -, -, -, -, -, -, -, -, hvret⟩ := h'
  obtain ⟨⟨hR, hz⟩, ha⟩ := hp
  have ck : ga_pc c = true := by
    rcases hc with rfl | rfl
    · exact ga_p_c.1.1
    · exact ga_p_c.1.2
  unfold ga_pc at ck
  simp only [Bool.and_eq_true] at ck
  obtain ⟨⟨c1, c2⟩, ⟨c3, c4⟩, c5, c6, c7, c8⟩ := ck
  have hR' := hR
  obtain ⟨h1, ⟨h2, h3, h4, h4'⟩, h5⟩ := hR'
  refine henv _ _ _ _ _ (fun hE _ => ?_)
  have h00 : r 0 = 0 := hE.1
  refine hrel (0, 0, 0) _ (ga_pL c) _ [] r M ⟨rfl, ⟨by show 0 < 491; omega, by show r 392 + 0 = r 0 + c; omega⟩, trivial⟩ trivial ?_
  have fin : ∀ pc r2 M2, pt_is 7 97 pc = true → ga_R A N (ps_pa A N c σ) r2 M2 → ga_fr r M r2 M2 → P (pc, 0, 0) (ga_pL c) [] r2 M2 := fun pc r2 M2 i g1 g2 => hvret (pc, 0, 0) _ r2 M2 rfl i (Nat.ble_eq_true_of_le (Nat.zero_le _)) (Nat.ble_eq_true_of_le (Nat.zero_le _)) ⟨rfl, g1, g2⟩
  by_cases q : σ.2.2.1 = 0
  · have k0 : (0 : Int) ≤ r 38 ∧ r 38 ≤ 0 := by omega
    obtain ⟨⟨a1, a2, a3, a4⟩, a5, a6⟩ := h5 q
    have t4 := ps_tk4 (A := A) (n := N) (p := σ.1)
    have bad : ¬ ps_is A N c σ = true → P (25, 0, 0) (ga_pL c) [gz_n 1, wa_r 84] r M := fun w => by
      refine ga_useF (y := (0, 1)) (k := 1) h (by omega) (by omega) (by rw [Bool.and_eq_true]; exact c8) hR (by show r 0 + 1 = 1; omega) (fun r2 M2 g1 g2 _ => ?_)
      refine fin 28 r2 M2 ga_p_c.2.2.1 ?_ g2
      unfold ps_pa
      rw [if_pos q, if_neg w]
      exact g1
    by_cases t3 : ps_tk A N σ.1 = 3
    · have vl := a4 (by omega)
      have rg := (ps_vl_rg h1.2.1 σ.1).1 t3
      have kd : (3 : Int) ≤ r 42 ∧ r 42 ≤ 3 := by omega
      by_cases e : ps_vl A N σ.1 = c
      · refine hseg _ _ _ _ _ r M _ _ _ _ _ c2 ⟨pt_m0, pt_m3 k0 kd ⟨by show c ≤ r 43; omega, by show r 43 ≤ c; omega⟩, pt_m0⟩ ⟨fun _ => ?_, trivial⟩
        show P (17, 0, 0) (ga_pL c) (wa_r 84 :: []) r M
        refine ga_useA h (by omega) (by rw [Bool.and_eq_true]; exact c7) hR hz q (fun r2 g1 g2 _ => ?_)
        refine hseg _ _ _ _ _ r2 M _ _ _ _ _ c6 ⟨pt_m0, pt_m0, pt_m0⟩ ⟨fun _ => ?_, trivial⟩
        refine fin 28 r2 M ga_p_c.2.2.1 ?_ g2
        unfold ps_pa
        rw [if_pos q, if_pos (ps_is_iff.mpr ⟨t3, e⟩)]
        exact g1
      · have w : ¬ ps_is A N c σ = true := fun z => e (ps_is_iff.mp z).2
        have go : ∀ z, z ∈ ga_pI c → z.1 ≤ r 43 → r 43 ≤ z.2 → P (0, 0, 0) (ga_pL c) [] r M := fun z hz z1 z2 => hseg _ _ _ _ _ r M _ _ _ _ _ (List.all_eq_true.mp c5 z hz) ⟨pt_m0, pt_m3 k0 kd ⟨z1, z2⟩, pt_m0⟩ ⟨fun _ => bad w, trivial⟩
        rcases (by omega : r 43 ≤ c - 1 ∨ c + 1 ≤ r 43) with w2 | w2
        · exact go (0, c - 1) List.mem_cons_self (by show (0 : Int) ≤ r 43; omega) w2
        · exact go (c + 1, 255) (List.mem_cons_of_mem _ List.mem_cons_self) w2 (by show r 43 ≤ (255 : Int); omega)
    · have w : ¬ ps_is A N c σ = true := fun z => t3 (ps_is_iff.mp z).1
      rcases (by omega : ps_tk A N σ.1 ≤ 2 ∨ ps_tk A N σ.1 = 4) with w2 | w2
      · exact hseg _ _ _ _ _ r M _ _ _ _ _ c3 ⟨pt_m0, pt_m2 k0 ⟨by show (0 : Int) ≤ r 42; omega, by show r 42 ≤ (2 : Int); omega⟩, pt_m0⟩ ⟨fun _ => bad w, trivial⟩
      · exact hseg _ _ _ _ _ r M _ _ _ _ _ c4 ⟨pt_m0, pt_m2 k0 ⟨by show (4 : Int) ≤ r 42; omega, by show r 42 ≤ (4 : Int); omega⟩, pt_m0⟩ ⟨fun _ => bad w, trivial⟩
  · have e : ps_pa A N c σ = σ := if_neg q
    refine hseg _ _ _ _ _ r M _ _ _ _ _ c1 ⟨pt_m0, pt_m1 ⟨by show (1 : Int) ≤ r 38; omega, by show r 38 ≤ (3 : Int); omega⟩, pt_m0⟩ ⟨fun _ => ?_, trivial⟩
    exact fin 7 r M ga_p_c.2.1 (by rw [e]; exact hR) ga_fr.rf
noncomputable def ga_qL : List ai_V := ga_L (wa_i 392)
noncomputable def ga_qr (cp : List (Nat × Int × Int)) (pc : Nat) (S : List ai_V) : Bool := pt_row gaY 96 [7, 18, 54, 79, 106, 118] true (0, 0, 0) ga_qL [] [] ((392, (0, 5)) :: (38, (0, 0)) :: cp) [] [] [((pc, 0, 0), (ga_qL, S), [], [])]
theorem ga_q_c : pt_row gaY 96 [7] true (0, 0, 0) ga_qL [] [] [(38, (1, 3))] [] [] [((7, 0, 0), (ga_qL, []), [], [])] = true ∧
    (ga_qr [(42, (3, 3)), (43, (40, 40))] 18 [wa_r 84] = true ∧ ga_qr [(42, (3, 3)), (43, (0, 39))] 118 [gz_n 1, wa_r 84] = true ∧ ga_qr [(42, (3, 3)), (43, (41, 255))] 118 [gz_n 1, wa_r 84] = true) ∧
    (ga_qr [(42, (1, 1)), (43, (-2147483648, -1))] 54 [gz_n 2, wa_r 84] = true ∧ ga_qr [(42, (1, 1)), (43, (0, 2147483647))] 106 [wa_i 43, wa_r 84] = true) ∧
    (ga_qr [(42, (2, 2)), (43, (-17, -6))] 79 [gz_n 3, wa_r 84] = true ∧ ga_qr [(42, (2, 2)), (43, (-5, -1))] 106 [wa_i 43, wa_r 84] = true) ∧
    (ga_qr [(42, (0, 0))] 118 [gz_n 1, wa_r 84] = true ∧ ga_qr [(42, (4, 4))] 118 [gz_n 1, wa_r 84] = true) ∧
    (pt_row gaY 96 [25] false (21, 0, 0) ga_qL [] [] [(392, (0, 5))] [] [] [((25, 0, 0), (ga_qL, [.inl (392, 1), wa_r 84]), [], [])] = true ∧ pt_row gaY 96 [31] false (28, 0, 0) ga_qL [] [] [] [] [] [((31, 0, 0), (ga_qL, [gz_n 41, wa_r 84]), [], [])] = true ∧ pt_row gaY 96 [121] false (34, 0, 0) ga_qL [] [] [] [] [] [((121, 0, 0), (ga_qL, []), [], [])] = true) ∧
    (pt_row gaY 96 [121] false (57, 0, 0) ga_qL [] [] [] [] [] [((121, 0, 0), (ga_qL, []), [], [])] = true ∧ pt_row gaY 96 [121] false (82, 0, 0) ga_qL [] [] [] [] [] [((121, 0, 0), (ga_qL, []), [], [])] = true ∧ pt_row gaY 96 [110] false (109, 0, 0) ga_qL [] [] [] [] [] [((110, 0, 0), (ga_qL, [wa_r 84]), [], [])] = true ∧ pt_row gaY 96 [121] false (113, 0, 0) ga_qL [] [] [] [] [] [((121, 0, 0), (ga_qL, []), [], [])] = true) := by decide +kernel
noncomputable def ga_qk (pc mj : Nat) (y : ai_V) : Bool := cy_vk 96 pc mj gaY.2.1 [y, wa_r 84] [wa_r 84, y] [] && pt_cck gaY 96 mj (pc, 0, 0) 0 471 ga_qL [] [wa_r 84, y] [wa_r 84, wa_i 392]
noncomputable def ga_qa (pc : Nat) : Bool := cy_vk 96 pc 103 gaY.2.1 [wa_r 84] [wa_r 84] [] && pt_cck gaY 96 103 (pc, 0, 0) 0 471 ga_qL [] [wa_r 84] [wa_r 84]
theorem ga_q_k : ((ga_qk 54 98 (gz_n 2) = true ∧ ga_qk 79 98 (gz_n 3) = true ∧ ga_qk 118 98 (gz_n 1) = true) ∧ (ga_qk 106 99 (wa_i 43) = true ∧ ga_qk 25 90 (.inl (392, 1)) = true ∧ ga_qk 31 97 (gz_n 41) = true)) ∧ (ga_qa 18 = true ∧ ga_qa 110 = true) ∧ pt_is 7 96 7 = true ∧ pt_is 7 96 121 = true ∧ (ct_mt 96).2.2.1 = 2 := by decide +kernel
/-- a part, where what stands in parentheses is read as E -/
theorem ga_qM {A : Nat → Int} {N n : Nat} {E : ps_S → ps_S} {a : Int} (hn : 9 ≤ n) (ha5 : 0 ≤ a ∧ a ≤ 5) (hok : ∀ σ, ps_ok N σ (E σ)) (hE : ∀ σ, ga_K n 90 A N σ (E σ) (a + 1)) {σ : ps_S} : ga_K (n + 1) 96 A N σ (ps_pt A N E σ) a := by
  refine pt_intro (L0 := ga_qL) (ga_b0 96 (by decide)).2 (by omega) gasys (by
    rw [ga_q_k.2.2.2.2]
    rfl) (fun P r M h hp => ?_)
  have h' := h
  obtain ⟨hseg, henv, hrel, -, -, -, -, -, -, -, -, -, -, hvret⟩ := h'
  obtain ⟨⟨hR, hz⟩, ha⟩ := hp
  obtain ⟨c1, ⟨c2, c3, c4⟩, ⟨c5, c6⟩, ⟨c7, c8⟩, ⟨c9, c10⟩, ⟨c11, c12, c13⟩, c14, c15, c16, c17⟩ := ga_q_c
  obtain ⟨⟨⟨k1, k2, k3⟩, k4, k5, k6⟩, ⟨k7, k8⟩, i1, i2, -⟩ := ga_q_k
  have hR' := hR
  obtain ⟨h1, ⟨h2, h3, h4, h4'⟩, h5⟩ := hR'
  have hA := h1.2.1
  refine henv _ _ _ _ _ (fun hEE _ => ?_)
  have h00 : r 0 = 0 := hEE.1
  have bV : (-2147483648 : Int) ≤ r 43 ∧ r 43 ≤ 2147483647 := (hEE.2.2.2.1 _ ga_bdV.1).2
  have fin : ∀ pc r2 M2, pt_is 7 96 pc = true → ga_R A N (ps_pt A N E σ) r2 M2 → ga_fr r M r2 M2 → P (pc, 0, 0) ga_qL [] r2 M2 := fun pc r2 M2 i g1 g2 => hvret (pc, 0, 0) _ r2 M2 rfl i (Nat.ble_eq_true_of_le (Nat.zero_le _)) (Nat.ble_eq_true_of_le (Nat.zero_le _)) ⟨rfl, g1, g2⟩
  by_cases q : σ.2.2.1 = 0
  · have m1 : (0 : Int) ≤ r 392 ∧ r 392 ≤ 5 := by omega
    have k0 : (0 : Int) ≤ r 38 ∧ r 38 ≤ 0 := by omega
    obtain ⟨⟨a1, a2, a3, a4⟩, a5, a6⟩ := h5 q
    obtain ⟨z1, z2⟩ := hz q
    have t4 := ps_tk4 (A := A) (n := N) (p := σ.1)
    have n200 := hA.1
    -- a number or a value
    have val : (ps_tk A N σ.1 = 1 ∧ ¬ ps_vl A N σ.1 < 0) ∨ (ps_tk A N σ.1 = 2 ∧ ¬ ps_vl A N σ.1 < -5) → P (106, 0, 0) ga_qL [wa_i 43, wa_r 84] r M := fun w => by
      have t0 : ps_tk A N σ.1 ≠ 0 := by omega
      have en := ps_en_le hA z1 t0
      have s1 := ps_st_le (A := A) z1
      have eq : ps_pt A N E σ = ps_av A N (ps_em (ps_vl A N σ.1) σ) := by
        unfold ps_pt
        rw [if_pos q, if_neg (fun z => by have := (ps_is_iff.mp z).1; omega), if_neg (by omega), if_neg (by omega), if_pos (by omega)]
      refine ga_useE (y := (43, 0)) (c := ps_vl A N σ.1) h (by omega) k4 hR (fun _ => by omega) (by show r 43 + 0 = _; rw [a4 t0, Int.add_zero]) (fun r2 M2 g1 g2 _ => ?_)
      refine hseg _ _ _ _ _ r2 M2 _ _ _ _ _ c16 ⟨pt_m0, pt_m0, pt_m0⟩ ⟨fun _ => ?_, trivial⟩
      show P (110, 0, 0) ga_qL (wa_r 84 :: []) r2 M2
      -- the codes may be one more than the bytes ahead of the token: advance asks for the place alone
      obtain ⟨n, rfl⟩ : ∃ m, n = m + 1 + 1 + 1 + 1 := ⟨n - 4, by omega⟩
      obtain ⟨-, -, -, -, -, -, -, -, hcall, -⟩ := h
      have ck := k8
      unfold ga_qa at ck
      rw [Bool.and_eq_true] at ck
      obtain ⟨b1, ⟨b2, b3, b4⟩, b5⟩ := g1
      obtain ⟨⟨d1, d2, d3, d4⟩, d5, d6⟩ := b5 q
      refine hcall (110, 0, 0) _ _ _ _ _ r2 M2 103 0 471 _ _ (ga_b0 103 (by decide)).2 ck.1 ck.2 (ga_vM (A := A) (N := N) (p := ps_en A N σ.1) (by omega)) (show ga_T A N r2 M2 ∧ r2 40 = (ps_en A N σ.1 : Int) ∧ ps_en A N σ.1 ≤ N from ⟨b1, d3, en.2⟩) (fun r3 M3 o hq => ?_)
      obtain ⟨⟨rfl, rfl⟩, ⟨q1, q2, q3, q4⟩, q5⟩ := hq
      have q5 : ∀ t, t < 391 → t ≠ 40 → t ≠ 41 → t ≠ 42 → t ≠ 43 → r3 t = r2 t := q5
      obtain ⟨rc1, rc2⟩ := wa_rm (n := n + 1 + 1 + 1 + 1) (ga_b0 103 (by decide)).1
      rw [rc1, rc2]
      obtain ⟨r5, hr5⟩ : ∃ r5, r5 = pt_mrg 391 r2 r3 471 none := ⟨_, rfl⟩
      show P (113, 0, 0) ga_qL [] (pt_mrg 391 r2 r3 471 none) M3
      rw [← hr5]
      have l5 : ∀ t, t < 391 → r5 t = r3 t := fun t ht => by
        rw [hr5]
        exact if_pos ht
      have f5 : ∀ t, t < 391 → t ≠ 40 → t ≠ 41 → t ≠ 42 → t ≠ 43 → r5 t = r2 t := fun t e1 e2 e3 e4 e5 => (l5 t e1).trans (q5 t e1 e2 e3 e4 e5)
      refine hseg _ _ _ _ _ r5 M3 _ _ _ _ _ c17 ⟨pt_m0, pt_m0, pt_m0⟩ ⟨fun _ => ?_, trivial⟩
      refine fin 121 r5 M3 i2 ?_ ⟨(f5 _ (by omega) (by omega) (by omega) (by omega) (by omega)).trans g2.1, g2.2⟩
      rw [eq]
      exact ⟨ga_T_c (f5 _ (by omega) (by omega) (by omega) (by omega) (by omega)) b1, ⟨(f5 _ (by omega) (by omega) (by omega) (by omega) (by omega)).trans b2, (f5 _ (by omega) (by omega) (by omega) (by omega) (by omega)).trans b3, b4⟩, fun _ => ⟨⟨(l5 _ (by omega)).trans q1, (l5 _ (by omega)).trans q2, (l5 _ (by omega)).trans q3, fun w => (l5 _ (by omega)).trans (q4 w)⟩, (f5 _ (by omega) (by omega) (by omega) (by omega) (by omega)).trans d5, d6⟩⟩
    have bad : ∀ {k : Int} {pc : Nat}, 1 ≤ k ∧ k ≤ 3 → ga_qk pc 98 (gz_n k) = true → pt_row gaY 96 [121] false (pc + 3, 0, 0) ga_qL [] [] [] [] [] [((121, 0, 0), (ga_qL, []), [], [])] = true ∨ pc + 3 = 121 → ps_pt A N E σ = ps_fl A N k σ → P (pc, 0, 0) ga_qL [gz_n k, wa_r 84] r M := fun {k pc} hk hck hrow eq => by
      refine ga_useF (y := (0, k)) (k := k) h (by omega) hk hck hR (by show r 0 + k = k; omega) (fun r2 M2 g1 g2 _ => ?_)
      rcases hrow with hrow | hrow
      · refine hseg _ _ _ _ _ r2 M2 _ _ _ _ _ hrow ⟨pt_m0, pt_m0, pt_m0⟩ ⟨fun _ => ?_, trivial⟩
        exact fin 121 r2 M2 i2 (by rw [eq]; exact g1) g2
      · rw [hrow]
        exact fin 121 r2 M2 i2 (by rw [eq]; exact g1) g2
    by_cases t3 : ps_tk A N σ.1 = 3
    · have vl := a4 (by omega)
      have rg := (ps_vl_rg hA σ.1).1 t3
      have kd : (3 : Int) ≤ r 42 ∧ r 42 ≤ 3 := by omega
      by_cases e : ps_vl A N σ.1 = 40
      · have is40 := ps_is_iff.mpr ⟨t3, e⟩
        have eq : ps_pt A N E σ = ps_pa A N 41 (E (ps_av A N σ)) := by
          unfold ps_pt
          rw [if_pos q, if_pos is40]
        refine hseg _ _ _ _ _ r M _ _ _ _ _ c2 ⟨pt_m0, pt_m4 m1 k0 kd ⟨by show (40 : Int) ≤ r 43; omega, by show r 43 ≤ (40 : Int); omega⟩, pt_m0⟩ ⟨fun _ => ?_, trivial⟩
        show P (18, 0, 0) ga_qL (wa_r 84 :: []) r M
        refine ga_useA h (by omega) k7 hR hz q (fun r2 g1 g2 g3 => ?_)
        have a12 : r2 392 = a := (g3 _ (by omega)).trans ha
        have zav := ga_Zs_ok (ps_o1_ok (ps_o1_av (σ := σ) hA (by omega))) hz
        refine hseg _ _ _ _ _ r2 M _ _ _ _ _ c11 ⟨pt_m0, pt_m1 ⟨by show (0 : Int) ≤ r2 392; omega, by show r2 392 ≤ (5 : Int); omega⟩, pt_m0⟩ ⟨fun _ => ?_, trivial⟩
        show P (25, 0, 0) ga_qL (.inl (392, 1) :: wa_r 84 :: []) r2 M
        refine ga_use h (ga_b0 90 (by decide)) k5 (hE _) g1 zav (by show r2 392 + 1 = a + 1; omega) (fun r3 M3 g4 g5 g6 => ?_)
        refine hseg _ _ _ _ _ r3 M3 _ _ _ _ _ c12 ⟨pt_m0, pt_m0, pt_m0⟩ ⟨fun _ => ?_, trivial⟩
        refine henv _ _ _ _ _ (fun hE3 _ => ?_)
        show P (31, 0, 0) ga_qL (.inl (0, 41) :: wa_r 84 :: []) r3 M3
        obtain ⟨n, rfl⟩ : ∃ m, n = m + 1 := ⟨n - 1, by omega⟩
        refine ga_use h (ga_b0 97 (by decide)) k6 (ga_pM (A := A) (N := N) (σ := E (ps_av A N σ)) (c := 41) (by omega) (Or.inl rfl)) g4 (ga_Zs_ok (hok _) zav) (by have z : r3 0 = 0 := hE3.1; show r3 0 + 41 = 41; omega) (fun r4 M4 g7 g8 _ => ?_)
        refine hseg _ _ _ _ _ r4 M4 _ _ _ _ _ c13 ⟨pt_m0, pt_m0, pt_m0⟩ ⟨fun _ => ?_, trivial⟩
        exact fin 121 r4 M4 i2 (by rw [eq]; exact g7) ((g2.tr g5).tr g8)
      · have n40 : ¬ ps_is A N 40 σ = true := fun z => e (ps_is_iff.mp z).2
        have eq : ps_pt A N E σ = ps_fl A N 1 σ := by
          unfold ps_pt
          rw [if_pos q, if_neg n40, if_neg (by omega), if_neg (by omega), if_neg (by omega)]
        rcases (by omega : r 43 ≤ 39 ∨ 41 ≤ r 43) with w | w
        · exact hseg _ _ _ _ _ r M _ _ _ _ _ c3 ⟨pt_m0, pt_m4 m1 k0 kd ⟨by show (0 : Int) ≤ r 43; omega, w⟩, pt_m0⟩ ⟨fun _ => bad (by omega) k3 (Or.inr rfl) eq, trivial⟩
        · exact hseg _ _ _ _ _ r M _ _ _ _ _ c4 ⟨pt_m0, pt_m4 m1 k0 kd ⟨w, by show r 43 ≤ (255 : Int); omega⟩, pt_m0⟩ ⟨fun _ => bad (by omega) k3 (Or.inr rfl) eq, trivial⟩
    have n40 : ¬ ps_is A N 40 σ = true := fun z => t3 (ps_is_iff.mp z).1
    by_cases t1 : ps_tk A N σ.1 = 1
    · have vl := a4 (by omega)
      have kd : (1 : Int) ≤ r 42 ∧ r 42 ≤ 1 := by omega
      by_cases w : ps_vl A N σ.1 < 0
      · refine hseg _ _ _ _ _ r M _ _ _ _ _ c5 ⟨pt_m0, pt_m4 m1 k0 kd ⟨bV.1, by show r 43 ≤ (-1 : Int); omega⟩, pt_m0⟩ ⟨fun _ => bad (by omega) k1 (Or.inl c14) ?_, trivial⟩
        unfold ps_pt
        rw [if_pos q, if_neg n40, if_pos ⟨t1, w⟩]
      · exact hseg _ _ _ _ _ r M _ _ _ _ _ c6 ⟨pt_m0, pt_m4 m1 k0 kd ⟨by show (0 : Int) ≤ r 43; omega, bV.2⟩, pt_m0⟩ ⟨fun _ => val (Or.inl ⟨t1, w⟩), trivial⟩
    by_cases t2 : ps_tk A N σ.1 = 2
    · have vl := a4 (by omega)
      have rg := (ps_vl_rg hA σ.1).2 t2
      have kd : (2 : Int) ≤ r 42 ∧ r 42 ≤ 2 := by omega
      by_cases w : ps_vl A N σ.1 < -5
      · refine hseg _ _ _ _ _ r M _ _ _ _ _ c7 ⟨pt_m0, pt_m4 m1 k0 kd ⟨by show (-17 : Int) ≤ r 43; omega, by show r 43 ≤ (-6 : Int); omega⟩, pt_m0⟩ ⟨fun _ => bad (by omega) k2 (Or.inl c15) ?_, trivial⟩
        unfold ps_pt
        rw [if_pos q, if_neg n40, if_neg (by omega), if_pos ⟨t2, w⟩]
      · exact hseg _ _ _ _ _ r M _ _ _ _ _ c8 ⟨pt_m0, pt_m4 m1 k0 kd ⟨by show (-5 : Int) ≤ r 43; omega, by show r 43 ≤ (-1 : Int); omega⟩, pt_m0⟩ ⟨fun _ => val (Or.inr ⟨t2, w⟩), trivial⟩
    have eq : ps_pt A N E σ = ps_fl A N 1 σ := by
      unfold ps_pt
      rw [if_pos q, if_neg n40, if_neg (by omega), if_neg (by omega), if_neg (by omega)]
    rcases (by omega : ps_tk A N σ.1 = 0 ∨ ps_tk A N σ.1 = 4) with w | w
    · exact hseg _ _ _ _ _ r M _ _ _ _ _ c9 ⟨pt_m0, pt_m3 m1 k0 ⟨by show (0 : Int) ≤ r 42; omega, by show r 42 ≤ (0 : Int); omega⟩, pt_m0⟩ ⟨fun _ => bad (by omega) k3 (Or.inr rfl) eq, trivial⟩
    · exact hseg _ _ _ _ _ r M _ _ _ _ _ c10 ⟨pt_m0, pt_m3 m1 k0 ⟨by show (4 : Int) ≤ r 42; omega, by show r 42 ≤ (4 : Int); omega⟩, pt_m0⟩ ⟨fun _ => bad (by omega) k3 (Or.inr rfl) eq, trivial⟩
  · have e : ps_pt A N E σ = σ := if_neg q
    refine hseg _ _ _ _ _ r M _ _ _ _ _ c1 ⟨pt_m0, pt_m1 ⟨by show (1 : Int) ≤ r 38; omega, by show r 38 ≤ (3 : Int); omega⟩, pt_m0⟩ ⟨fun _ => ?_, trivial⟩
    exact fin 7 r M i1 (by rw [e]; exact hR) ga_fr.rf
