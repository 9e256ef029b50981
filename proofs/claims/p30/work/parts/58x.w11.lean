/-! WAY: behind (the reference), a line, a load -/
noncomputable def qb_bO (q a l : Nat) : List ai_V := [wa_r 264, wa_i 402, wa_k a, wa_k q, wa_i 405, wa_i 406, wa_i 407, wa_k l, wa_i 409, wa_i 410]
noncomputable def qb_xn (l : Nat) : pt_X := [(0, 402, 0), (1, 0, 1), (0, 115 + l, 0), (2, 8, 0), (2, 6, 0), (1, 0, 1), (0, 120 + l, 0), (2, 8, 0), (2, 6, 0)]
noncomputable def qb_nE (q l : Nat) : List pt_E := [((146, 0, 0), (qb_bN q (4 + l) (wa_k l), [wa_n]), qb_bW, [(0, wq_p 74, wq_k l)]),
  ((207, 0, 0), (qb_bO q (4 + l) l, [wa_n]), qb_bW ++ [(409, qb_xl (0, 115 + l, 0)), (410, qb_xl (0, 120 + l, 0))], [(0, wq_k (l + 1), wq_p 74), (0, qb_xl (0, 115 + l, 0), qb_xl (0, 120 + l, 0)), (0, qb_xl (0, 120 + l, 0), qb_xl (0, 115 + l, 0))]),
  ((207, 0, 0), (qb_bO q (4 + l) l, [wa_i 481]), qb_bW ++ [(409, qb_xl (0, 115 + l, 0)), (410, qb_xl (0, 120 + l, 0)), (481, qb_xn l)], [(0, wq_k (l + 1), wq_p 74), (1, qb_xl (0, 115 + l, 0), qb_xl (0, 120 + l, 0))])]
theorem qb_n_c : (List.range 4).all (fun q => (List.range 5).all (fun l => pt_row qbY 251 [146, 207] true (0, 0, 0) (qb_bL q (4 + l)) [] [] [(402, (0, 4095))] [] [] (qb_nE q l))) = true := by decide +kernel
noncomputable def qb_xv (p : Nat) : pt_X := [(0, 402, 0), (1, 0, .ofNat (2 ^ (8 + p))), (2, 6, 0)]
noncomputable def qb_lE (q p : Nat) : List pt_E := [((245, 0, 0), (qb_bN q (9 + p) (wa_k p), [wa_n]), qb_bW, [(0, wq_p 73, wq_k p)]),
  ((245, 0, 0), (qb_bN q (9 + p) (wa_k p), [wa_n]), qb_bW, [(0, wq_k (p + 1), wq_p 73), (0, qb_xl (1, 0, .ofNat p), wq_k 0)]),
  ((245, 0, 0), (qb_bN q (9 + p) (wa_k p), [wa_n]), qb_bW, [(0, wq_k (p + 1), wq_p 73), (0, wq_k 1, qb_xl (1, 0, .ofNat p)), (0, wq_k 1, qb_xs p)]),
  ((250, 0, 0), (qb_bN q (9 + p) (wa_k p), [wa_k q, wa_i 406, wa_r 264]), qb_bW, [(0, wq_k (p + 1), wq_p 73), (0, wq_k 1, qb_xl (1, 0, .ofNat p)), (0, qb_xs p, wq_k 0)])]
theorem qb_l_c : (List.range 4).all (fun q => (List.range 4).all (fun p => pt_row qbY 251 [245, 250] true (0, 0, 0) (qb_bL q (9 + p)) [] [] [(402, (0, 4095))] [] [] (qb_lE q p))) = true := by decide +kernel
noncomputable def qb_l2E (q p : Nat) : List pt_E := [((280, 0, 0), (qb_bN q (9 + p) (wa_k p), [wa_i 481]), [(481, qb_xv p)], [(0, wq_p 482, wq_p 481)]),
  ((280, 0, 0), (qb_bN q (9 + p) (wa_k p), [wa_n]), [], [(0, wq_p 481, [(0, 482, 0), (3, 0, -1)])])]
theorem qb_l2_c : (List.range 4).all (fun q => (List.range 4).all (fun p => pt_row qbY 251 [262] false (253, 0, 0) (qb_bN q (9 + p) (wa_k p)) [wa_i 481] [] [] [] [] [((262, 0, 0), (qb_bN q (9 + p) (wa_k p), [wa_k q, wa_i 483, wa_r 264, wa_i 481]), [(483, [(0, 407, 0), (1, 0, .ofNat (2 ^ p)), (2, 6, 0)])], [])] && pt_row qbY 251 [280] false (265, 0, 0) (qb_bN q (9 + p) (wa_k p)) [wa_i 482, wa_i 481] [] [(402, (0, 4095))] [] [] (qb_l2E q p))) = true := by decide +kernel
theorem qb_l_k : (List.range 4).all (fun q => (List.range 4).all (fun p => (cy_vk 251 250 249 qbY.2.1 [wa_k q, wa_i 406, wa_r 264] [wa_r 264, wa_i 406, wa_k q] [] && pt_cck qbY 251 249 (250, 0, 0) 1 481 (qb_bN q (9 + p) (wa_k p)) [] [wa_r 264, wa_i 406, wa_k q] [wa_r 264, wa_i 402, wa_i 403]) && (cy_vk 251 262 250 qbY.2.1 [wa_k q, wa_i 483, wa_r 264, wa_i 481] [wa_r 264, wa_i 483, wa_k q] [wa_i 481] && pt_cck qbY 251 250 (262, 0, 0) 1 482 (qb_bN q (9 + p) (wa_k p)) [wa_i 481] [wa_r 264, wa_i 483, wa_k q] [wa_r 264, wa_i 402, wa_i 403]))) = true := by decide +kernel
section QBL
variable {n : Nat} {Z : (Nat → Int) → (Nat → Nat → Int) → Option Int → Prop} {P : pt_P} {M : Nat → Nat → Int} {q s p l : Nat} {r : Nat → Int}
theorem qb_line (h : pt_Cl (n + 1) 251 qbY 1 Z P) (hq : q < 4) (hl : l < 5) (h4 : s < 4096) (hs : r 402 = (s : Int)) (h0 : r 0 = 0) (o : wq_ok r) (hz : ∀ r2, (∀ t, t < 401 → r2 t = r t) → Z r2 M (some (wq_To (wq_T r q s (4 + l))))) : P (0, 0, 0) (qb_bL q (4 + l)) [] r M := by
  obtain ⟨hseg, henv, -, -, -, -, -, -, -, -, hret, -, -, -⟩ := h
  obtain ⟨of', ot⟩ := o.2.2.2.1 l hl
  obtain ⟨x, ex⟩ : ∃ x : Nat, r (115 + l) = (x : Int) := ⟨(r (115 + l)).toNat, by omega⟩
  obtain ⟨y, ey⟩ : ∃ y : Nat, r (120 + l) = (y : Int) := ⟨(r (120 + l)).toNat, by omega⟩
  have vx := wq_vl (t := (0, 115 + l, 0)) hs h4 (p := x) (by omega) (by show [r (115 + l), _] = _; rw [ex])
  have vy := wq_vl (t := (0, 120 + l, 0)) hs h4 (p := y) (by omega) (by show [r (120 + l), _] = _; rw [ey])
  have vn : pt_v r (qb_xn l) = ((s ||| 2 ^ x ||| 2 ^ y : Nat) : Int) := by
    show ai_op 6 (ai_op 6 (r 402) (ai_op 8 1 (r (115 + l)))) (ai_op 8 1 (r (120 + l))) = _
    have p1 := wq_p2 (j := x) (by omega)
    have p2 := wq_p2 (j := y) (by omega)
    rw [hs, wq_sh ex (by omega), wq_o6 (by omega) (by omega), wq_sh ey (by omega), wq_o6 (by have := wq_or h4 p1; omega) (by omega)]
  have eT : wq_T r q s (4 + l) = if r 74 ≤ (l : Int) then none else if s.testBit x = s.testBit y then none else some (s ||| 2 ^ x ||| 2 ^ y) := by
    unfold wq_T
    rw [if_neg (by omega), if_pos (by omega), show 4 + l - 4 = l by omega, ex, ey]
    rfl
  have back : ∀ (pc : Nat) (L : List ai_V) (x : ai_X) (r2 : Nat → Int) (v : Int), pt_is 5 251 pc = true → (∀ t, t < 401 → r2 t = r t) → ai_vx r2 x = v → v = wq_To (wq_T r q s (4 + l)) → P (pc, 0, 0) L [.inl x] r2 M := fun pc L x r2 v b1 b2 b3 b4 => hret (pc, 0, 0) L x r2 M rfl b1 (Nat.ble_eq_true_of_le (Nat.zero_le _)) (Nat.ble_eq_true_of_le (Nat.zero_le _)) (by rw [b3, b4]; exact hz r2 b2)
  have lowW : ∀ t, t < 401 → pt_up r qb_bW t = r t := fun t ht => by
    have := qb_bWn (r := r) (X := []) (fun _ h => by cases h) (t := t) (by omega)
    rw [List.append_nil] at this
    exact this
  have neg : ∀ r2 : Nat → Int, (∀ t, t < 401 → r2 t = r t) → ai_vx r2 (0, .negSucc 0) = -1 := fun r2 b => by
    show r2 0 + -1 = -1
    rw [b 0 (by omega), h0]
    rfl
  have lowX : ∀ (X : List (Nat × pt_X)), (∀ z ∈ X, 401 ≤ z.1) → ∀ t, t < 401 → pt_up r (qb_bW ++ X) t = r t := fun X hX t ht => by
    have : pt_up r X t = r t := by
      induction X with
      | nil => rfl
      | cons z X ih =>
        unfold pt_up
        rw [if_neg (by have := hX z List.mem_cons_self; omega)]
        exact ih (fun y hy => hX y (List.mem_cons_of_mem _ hy))
    show (if t = 405 then _ else if t = 406 then _ else if t = 407 then _ else pt_up r X t) = _
    rw [if_neg (by omega), if_neg (by omega), if_neg (by omega), this]
  have c := List.all_eq_true.mp (List.all_eq_true.mp qb_n_c q (List.mem_range.mpr hq)) l (List.mem_range.mpr hl)
  refine hseg _ _ _ _ _ r M _ _ _ _ _ c ⟨pt_m0, pt_m1 ⟨by show (0 : Int) ≤ r 402; omega, by show r 402 ≤ (4095 : Int); omega⟩, pt_m0⟩ ⟨fun g => ?_, fun g => ?_, fun g => ?_, trivial⟩
  · have g1 : r 74 ≤ (l : Int) := g.1
    exact back 146 _ _ _ (-1) qb_is2.2.2.1 lowW (neg _ lowW) (by rw [eT, if_pos g1]; rfl)
  · have g1 : ((l + 1 : Nat) : Int) ≤ r 74 := g.1
    have g2 : pt_v r (qb_xl (0, 115 + l, 0)) ≤ pt_v r (qb_xl (0, 120 + l, 0)) := g.2.1
    have g3 : pt_v r (qb_xl (0, 120 + l, 0)) ≤ pt_v r (qb_xl (0, 115 + l, 0)) := g.2.2.1
    rw [vx, vy] at g2 g3
    have lw := lowX [(409, qb_xl (0, 115 + l, 0)), (410, qb_xl (0, 120 + l, 0))] (fun z hz => by
      simp only [List.mem_cons, List.not_mem_nil, or_false] at hz
      rcases hz with rfl | rfl
      · show 401 ≤ 409
        omega
      · show 401 ≤ 410
        omega)
    exact back 207 _ _ _ (-1) qb_is2.2.2.2.1 lw (neg _ lw) (by
      rw [eT, if_neg (by omega), if_pos ?_]
      · rfl
      · cases a : s.testBit x <;> cases b : s.testBit y <;> rw [a, b] at g2 g3 <;> first | rfl | exact absurd g3 (by decide) | exact absurd g2 (by decide))
  · have g1 : ((l + 1 : Nat) : Int) ≤ r 74 := g.1
    have g2 : pt_v r (qb_xl (0, 115 + l, 0)) ≠ pt_v r (qb_xl (0, 120 + l, 0)) := g.2.1
    rw [vx, vy] at g2
    have lw := lowX [(409, qb_xl (0, 115 + l, 0)), (410, qb_xl (0, 120 + l, 0)), (481, qb_xn l)] (fun z hz => by
      simp only [List.mem_cons, List.not_mem_nil, or_false] at hz
      rcases hz with rfl | rfl | rfl
      · show 401 ≤ 409
        omega
      · show 401 ≤ 410
        omega
      · show 401 ≤ 481
        omega)
    exact back 207 _ _ _ _ qb_is2.2.2.2.1 lw (show pt_v r (qb_xn l) + 0 = _ by rw [Int.add_zero, vn]) (by
      rw [eT, if_neg (by omega), if_neg (fun w => g2 (by rw [w]))]
      rfl)
theorem qb_load (h : pt_Cl (n + 1) 251 qbY 1 Z P) (hn : 4 ≤ n) (hq : q < 4) (hp : p < 4) (h4 : s < 4096) (hs : r 402 = (s : Int)) (h0 : r 0 = 0) (o : wq_ok r) (hz : ∀ r2, (∀ t, t < 401 → r2 t = r t) → Z r2 M (some (wq_To (wq_T r q s (9 + p))))) : P (0, 0, 0) (qb_bL q (9 + p)) [] r M := by
  have h' := h
  obtain ⟨hseg, henv, -, -, -, -, -, -, -, -, hret, -, -, -⟩ := h'
  have oo := o
  obtain ⟨o1, o2, o3, o4, o5, o6, o7⟩ := oo
  have vl := wq_vl (t := (1, 0, .ofNat p)) hs h4 hp rfl
  have vs := wq_vs hs h4 hp
  have eT : wq_T r q s (9 + p) = if r 73 ≤ (p : Int) then none else if ¬ s.testBit p = true then none else if s.testBit (8 + p) = true then none else if wq_R r q 4 s (r 75).toNat < wq_S r q 8 (s ||| 2 ^ (8 + p)) (r 73).toNat then none else some (s ||| 2 ^ (8 + p)) := by
    unfold wq_T
    rw [if_neg (by omega), if_neg (by omega), show 9 + p - 9 = p by omega]
  have back : ∀ (pc : Nat) (L : List ai_V) (x : ai_X) (r2 : Nat → Int) (v : Int), pt_is 5 251 pc = true → (∀ t, t < 401 → r2 t = r t) → ai_vx r2 x = v → v = wq_To (wq_T r q s (9 + p)) → P (pc, 0, 0) L [.inl x] r2 M := fun pc L x r2 v b1 b2 b3 b4 => hret (pc, 0, 0) L x r2 M rfl b1 (Nat.ble_eq_true_of_le (Nat.zero_le _)) (Nat.ble_eq_true_of_le (Nat.zero_le _)) (by rw [b3, b4]; exact hz r2 b2)
  have lowW : ∀ t, t < 401 → pt_up r qb_bW t = r t := fun t ht => by
    have := qb_bWn (r := r) (X := []) (fun _ h => by cases h) (t := t) (by omega)
    rw [List.append_nil] at this
    exact this
  have neg : ∀ r2 : Nat → Int, (∀ t, t < 401 → r2 t = r t) → ai_vx r2 (0, .negSucc 0) = -1 := fun r2 b => by
    show r2 0 + -1 = -1
    rw [b 0 (by omega), h0]
    rfl
  have c := List.all_eq_true.mp (List.all_eq_true.mp qb_l_c q (List.mem_range.mpr hq)) p (List.mem_range.mpr hp)
  refine hseg _ _ _ _ _ r M _ _ _ _ _ c ⟨pt_m0, pt_m1 ⟨by show (0 : Int) ≤ r 402; omega, by show r 402 ≤ (4095 : Int); omega⟩, pt_m0⟩ ⟨fun g => ?_, fun g => ?_, fun g => ?_, fun g => ?_, trivial⟩
  · have g1 : r 73 ≤ (p : Int) := g.1
    exact back 245 _ _ _ (-1) qb_is2.2.2.2.2.1 lowW (neg _ lowW) (by rw [eT, if_pos g1]; rfl)
  · have g1 : ((p + 1 : Nat) : Int) ≤ r 73 := g.1
    have g2 : pt_v r (qb_xl (1, 0, .ofNat p)) ≤ 0 := g.2.1
    rw [vl] at g2
    exact back 245 _ _ _ (-1) qb_is2.2.2.2.2.1 lowW (neg _ lowW) (by rw [eT, if_neg (by omega), if_pos (fun w => by rw [if_pos w] at g2; omega)]; rfl)
  · have g1 : ((p + 1 : Nat) : Int) ≤ r 73 := g.1
    have g2 : 1 ≤ pt_v r (qb_xl (1, 0, .ofNat p)) := g.2.1
    have g3 : 1 ≤ pt_v r (qb_xs p) := g.2.2.1
    rw [vl] at g2
    rw [vs] at g3
    exact back 245 _ _ _ (-1) qb_is2.2.2.2.2.1 lowW (neg _ lowW) (by rw [eT, if_neg (by omega), if_neg (fun w => by rw [if_neg w] at g2; omega), if_pos (Classical.byContradiction (fun w => by rw [if_neg w] at g3; omega))]; rfl)
  · have g1 : ((p + 1 : Nat) : Int) ≤ r 73 := g.1
    have g2 : 1 ≤ pt_v r (qb_xl (1, 0, .ofNat p)) := g.2.1
    have g3 : pt_v r (qb_xs p) ≤ 0 := g.2.2.1
    rw [vl] at g2
    rw [vs] at g3
    have eT2 : wq_T r q s (9 + p) = if wq_R r q 4 s (r 75).toNat < wq_S r q 8 (s ||| 2 ^ (8 + p)) (r 73).toNat then none else some (s ||| 2 ^ (8 + p)) := by
      rw [eT, if_neg (by omega), if_neg (fun w => by rw [if_neg w] at g2; omega), if_neg (fun w => by rw [if_pos w] at g3; omega)]
    obtain ⟨r1, hr1⟩ : ∃ r1, r1 = pt_up r qb_bW := ⟨_, rfl⟩
    have l1 : ∀ t, t < 401 → r1 t = r t := fun t ht => by
      rw [hr1]
      exact lowW t ht
    have l5 : r1 406 = ((s / 2 ^ 4 &&& 15 : Nat) : Int) := by
      rw [hr1]
      show ai_op 5 (ai_op 9 (r 402) ((4 : Nat) : Int)) ((15 : Nat) : Int) = _
      rw [hs, wq_o9 (by omega) (by omega), wq_o5 (Nat.lt_of_le_of_lt (Nat.div_le_self _ _) (by omega)) (by omega)]
    have l6 : r1 407 = ((s / 2 ^ 8 : Nat) : Int) := by
      rw [hr1]
      show ai_op 9 (r 402) ((8 : Nat) : Int) = _
      rw [hs, wq_o9 (by omega) (by omega)]
    have lb : r1 402 = (s : Int) := by
      rw [hr1]
      exact hs
    show P (250, 0, 0) (qb_bN q (9 + p) (wa_k p)) [wa_k q, wa_i 406, wa_r 264] (pt_up r qb_bW) M
    rw [← hr1]
    have ck := List.all_eq_true.mp (List.all_eq_true.mp qb_l_k q (List.mem_range.mpr hq)) p (List.mem_range.mpr hp)
    rw [Bool.and_eq_true] at ck
    have c2 := List.all_eq_true.mp (List.all_eq_true.mp qb_l2_c q (List.mem_range.mpr hq)) p (List.mem_range.mpr hp)
    rw [Bool.and_eq_true] at c2
    have s8 : s / 2 ^ 8 < 16 := Nat.div_lt_of_lt_mul (by omega)
    have on15 : s / 2 ^ 4 &&& 15 ≤ 15 := Nat.and_le_right
    have r10 : r1 0 = 0 := (l1 0 (by omega)).trans h0
    -- couldMake
    obtain ⟨rc, hrc⟩ : ∃ rc, rc = pt_up r1 (pt_wc [wa_r 264, wa_i 406, wa_k q] [wa_r 264, wa_i 402, wa_i 403]) := ⟨_, rfl⟩
    have rcv : ∀ t, rc t = if t = 402 then r1 406 else if t = 403 then (q : Int) else r1 t := fun t => by
      rw [hrc]
      rfl
    have rcl : ∀ t, t < 401 → rc t = r1 t := fun t ht => by
      rw [rcv, if_neg (by omega), if_neg (by omega)]
    refine wq_cv (S' := []) h (wq_b0 249 (by decide)).1 (by show 401 ≤ 481; omega) (wq_b0 249 (by decide)).2 ck.1 (qb_cM hn) ?_ ?_ ?_
    · rw [← hrc]
      refine ⟨?_, ?_⟩
      · rw [rcv, if_pos rfl, l5]
        omega
      · rw [rcv, if_neg (by omega), if_pos rfl]
        omega
    · rw [← hrc]
      exact fun t ht => rcl t ht
    rw [← hrc]
    have v1 : qb_cV rc = wq_R r q 4 s (r 75).toNat := by
      unfold qb_cV
      rw [rcv 403, if_neg (by omega), if_pos rfl, rcv 402, if_pos rfl, l5, rcl 75 (by omega), l1 75 (by omega)]
      show wq_R rc q 0 (s / 2 ^ 4 &&& 15) (r 75).toNat = _
      rw [wq_R_c (fun t ht => (rcl t (by omega)).trans (l1 t (by omega))) hq (by omega)]
      exact wq_R_x (fun j hj => wq_ton hj) (by omega)
    rw [v1]
    obtain ⟨r2, hr2⟩ : ∃ r2, r2 = pt_set r1 481 (wq_R r q 4 s (r 75).toNat) := ⟨_, rfl⟩
    rw [← hr2]
    have n2 : ∀ t, t ≠ 481 → r2 t = r1 t := fun t ht => by
      rw [hr2]
      exact if_neg ht
    have t0 : r2 481 = wq_R r q 4 s (r 75).toNat := by
      rw [hr2]
      exact if_pos rfl
    show P (253, 0, 0) (qb_bN q (9 + p) (wa_k p)) [wa_i 481] r2 M
    have l62 : r2 407 = ((s / 2 ^ 8 : Nat) : Int) := (n2 _ (by omega)).trans l6
    refine hseg _ _ _ _ _ r2 M _ _ _ _ _ c2.1 ⟨pt_m0, pt_m0, pt_m0⟩ ⟨fun _ => ?_, trivial⟩
    obtain ⟨re, hre⟩ : ∃ re, re = pt_up r2 [(483, [(0, 407, 0), (1, 0, .ofNat (2 ^ p)), (2, 6, 0)])] := ⟨_, rfl⟩
    have ne : ∀ t, t ≠ 483 → re t = r2 t := fun t ht => by
      rw [hre]
      exact if_neg ht
    have pp := wq_p2 (j := p) (by omega)
    have te : re 483 = ((s / 2 ^ 8 ||| 2 ^ p : Nat) : Int) := by
      rw [hre]
      show ai_op 6 (r2 407) ((2 ^ p : Nat) : Int) = _
      rw [l62, wq_o6 (by omega) (by omega)]
    have s16 : s / 2 ^ 8 ||| 2 ^ p < 16 := Nat.or_lt_two_pow (n := 4) s8 (Nat.pow_lt_pow_right (a := 2) (n := 4) (by omega) hp)
    show P (262, 0, 0) (qb_bN q (9 + p) (wa_k p)) [wa_k q, wa_i 483, wa_r 264, wa_i 481] (pt_up r2 [(483, [(0, 407, 0), (1, 0, .ofNat (2 ^ p)), (2, 6, 0)])]) M
    rw [← hre]
    -- servedLoads
    obtain ⟨rd, hrd⟩ : ∃ rd, rd = pt_up re (pt_wc [wa_r 264, wa_i 483, wa_k q] [wa_r 264, wa_i 402, wa_i 403]) := ⟨_, rfl⟩
    have rdv : ∀ t, rd t = if t = 402 then re 483 else if t = 403 then (q : Int) else re t := fun t => by
      rw [hrd]
      rfl
    have rdl : ∀ t, t < 401 → rd t = re t := fun t ht => by
      rw [rdv, if_neg (by omega), if_neg (by omega)]
    refine wq_cv h (wq_b0 250 (by decide)).1 (by show 401 ≤ 482; omega) (wq_b0 250 (by decide)).2 ck.2 (qb_sM hn) ?_ ?_ ?_
    · rw [← hrd]
      refine ⟨?_, ?_⟩
      · rw [rdv, if_pos rfl, te]
        omega
      · rw [rdv, if_neg (by omega), if_pos rfl]
        omega
    · rw [← hrd]
      exact fun t ht => rdl t ht
    rw [← hrd]
    have l2 : ∀ t, t < 401 → re t = r t := fun t ht => (ne t (by omega)).trans ((n2 t (by omega)).trans (l1 t ht))
    have v2 : qb_sV rd = wq_S r q 8 (s ||| 2 ^ (8 + p)) (r 73).toNat := by
      unfold qb_sV
      rw [rdv 403, if_neg (by omega), if_pos rfl, rdv 402, if_pos rfl, te, rdl 73 (by omega), l2 73 (by omega)]
      show wq_S rd q 0 (s / 2 ^ 8 ||| 2 ^ p) (r 73).toNat = _
      rw [wq_S_c (fun t ht => (rdl t (by omega)).trans (l2 t (by omega))) hq (by omega)]
      exact wq_S_x (fun j hj => wq_tsp) (by omega)
    rw [v2]
    obtain ⟨r3, hr3⟩ : ∃ r3, r3 = pt_set re 482 (wq_S r q 8 (s ||| 2 ^ (8 + p)) (r 73).toNat) := ⟨_, rfl⟩
    rw [← hr3]
    have n3 : ∀ t, t ≠ 482 → r3 t = re t := fun t ht => by
      rw [hr3]
      exact if_neg ht
    have t1 : r3 482 = wq_S r q 8 (s ||| 2 ^ (8 + p)) (r 73).toNat := by
      rw [hr3]
      exact if_pos rfl
    have l3 : ∀ t, t < 401 → r3 t = r t := fun t ht => (n3 t (by omega)).trans (l2 t ht)
    have t03 : r3 481 = wq_R r q 4 s (r 75).toNat := (n3 _ (by omega)).trans ((ne _ (by omega)).trans t0)
    have b3 : r3 402 = (s : Int) := (n3 _ (by omega)).trans ((ne _ (by omega)).trans ((n2 _ (by omega)).trans lb))
    have vm3 : pt_v r3 (qb_xv p) = ((s ||| 2 ^ (8 + p) : Nat) : Int) := by
      show ai_op 6 (r3 402) ((2 ^ (8 + p) : Nat) : Int) = _
      have p1 := wq_p2 (j := 8 + p) (by omega)
      rw [b3, wq_o6 (by omega) (by omega)]
    show P (265, 0, 0) (qb_bN q (9 + p) (wa_k p)) [wa_i 482, wa_i 481] r3 M
    refine hseg _ _ _ _ _ r3 M _ _ _ _ _ c2.2 ⟨pt_m0, pt_m1 ⟨by show (0 : Int) ≤ r3 402; omega, by show r3 402 ≤ (4095 : Int); omega⟩, pt_m0⟩ ⟨fun g => ?_, fun g => ?_, trivial⟩
    · have g5 : r3 482 ≤ r3 481 := g.1
      rw [t1, t03] at g5
      refine back 280 _ _ _ _ qb_is2.2.2.2.2.2.1 (fun t ht => ?_) (show pt_v r3 (qb_xv p) + 0 = _ by rw [Int.add_zero, vm3]) (by rw [eT2, if_neg (by omega)]; rfl)
      refine Eq.trans ?_ (l3 t ht)
      show pt_up r3 [(481, qb_xv p)] t = r3 t
      exact if_neg (by omega)
    · have g5 : r3 481 ≤ r3 482 + -1 := g.1
      rw [t1, t03] at g5
      exact back 280 _ _ _ (-1) qb_is2.2.2.2.2.2.1 l3 (neg _ l3) (by rw [eT2, if_pos (by omega)]; rfl)
end QBL
