/-! WAY: behind (the reference), a mill: proof -/
theorem qb_is2 : pt_is 5 251 44 = true ∧ pt_is 5 251 124 = true ∧ pt_is 5 251 146 = true ∧ pt_is 5 251 207 = true ∧ pt_is 5 251 245 = true ∧ pt_is 5 251 280 = true ∧ (ct_mt 251).2.2.1 = 10 := by decide +kernel
theorem wq_vl {r : Nat → Int} {s p : Nat} {t : Nat × Nat × Int} (hs : r 402 = (s : Int)) (h4 : s < 4096) (hp : p < 4) (ht : pt_s1 r [((s &&& 15 : Nat) : Int)] t = [(p : Int), ((s &&& 15 : Nat) : Int)]) : pt_v r (qb_xl t) = if s.testBit p then 1 else 0 := by
  have e : ai_op 5 (r 402) 15 = ((s &&& 15 : Nat) : Int) := by
    rw [hs]
    exact wq_o5 (y := 15) (by omega) (by omega)
  show pt_hd (List.foldl (pt_s1 r) (pt_s1 r [ai_op 5 (r 402) 15] t) [(2, 9, 0), (1, 0, 1), (2, 5, 0)]) = _
  rw [e, ht]
  show ai_op 5 (ai_op 9 ((s &&& 15 : Nat) : Int) (p : Int)) 1 = _
  rw [wq_bit (Nat.lt_of_le_of_lt Nat.and_le_left (by omega)) (by omega), wq_t15 hp]
theorem wq_vo {r : Nat → Int} {s a : Nat} (hs : r 402 = (s : Int)) (h4 : s < 4096) (ha : a < 4) : pt_v r (qb_xo a) = if s.testBit (4 + a) then 1 else 0 := by
  show ai_op 5 (ai_op 9 (ai_op 5 (ai_op 9 (r 402) ((4 : Nat) : Int)) ((15 : Nat) : Int)) (a : Int)) 1 = _
  have d : s / 2 ^ 4 < 2147483648 := Nat.lt_of_le_of_lt (Nat.div_le_self _ _) (by omega)
  rw [hs, wq_o9 (by omega) (by omega), wq_o5 d (by omega), wq_bit (Nat.lt_of_le_of_lt Nat.and_le_left d) (by omega)]
  have := wq_ton (x := s) ha
  rw [Nat.zero_add] at this
  rw [this]
theorem wq_vs {r : Nat → Int} {s p : Nat} (hs : r 402 = (s : Int)) (h4 : s < 4096) (hp : p < 4) : pt_v r (qb_xs p) = if s.testBit (8 + p) then 1 else 0 := by
  show ai_op 5 (ai_op 9 (ai_op 9 (r 402) ((8 : Nat) : Int)) (p : Int)) 1 = _
  have d : s / 2 ^ 8 < 2147483648 := Nat.lt_of_le_of_lt (Nat.div_le_self _ _) (by omega)
  rw [hs, wq_o9 (by omega) (by omega), wq_bit d (by omega), wq_tdv]
theorem wq_p2 {j : Nat} (h : j < 12) : 2 ^ j < 4096 := Nat.pow_lt_pow_right (a := 2) (n := 12) (by omega) h
theorem wq_or {x y : Nat} (hx : x < 4096) (hy : y < 4096) : x ||| y < 4096 := Nat.or_lt_two_pow (n := 12) hx hy
theorem wq_sh {v : Int} {p : Nat} (h : v = (p : Int)) (hp : p < 12) : ai_op 8 1 v = ((2 ^ p : Nat) : Int) := by
  rw [h]
  have := wq_o8 (x := 1) (j := p) (by omega) (by omega)
  rw [Nat.one_mul] at this
  exact this
theorem wq_vm {r : Nat → Int} {s a p : Nat} (hs : r 402 = (s : Int)) (h4 : s < 4096) (ha : a < 4) (hp : r (135 + a) = (p : Int)) (hp4 : p < 4) : pt_v r (qb_xm a) = ((s ||| 2 ^ (4 + a) ||| 2 ^ p : Nat) : Int) := by
  show ai_op 6 (ai_op 6 (r 402) ((2 ^ (4 + a) : Nat) : Int)) (ai_op 8 1 (r (135 + a))) = _
  have p1 := wq_p2 (j := 4 + a) (by omega)
  have p2 := wq_p2 (j := p) (by omega)
  rw [hs, wq_o6 (by omega) (by omega), wq_sh hp (by omega), wq_o6 (by have := wq_or h4 p1; omega) (by omega)]
section QBM
variable {n : Nat} {Z : (Nat → Int) → (Nat → Nat → Int) → Option Int → Prop} {P : pt_P} {M : Nat → Nat → Int} {q s a : Nat} {r : Nat → Int}
theorem qb_bWn {X : List (Nat × pt_X)} (hX : ∀ z ∈ X, z.1 = 481) {t : Nat} (ht : t < 403) : pt_up r (qb_bW ++ X) t = r t := by
  have : pt_up r X t = r t := by
    induction X with
    | nil => rfl
    | cons z X ih =>
      unfold pt_up
      rw [if_neg (by rw [hX z List.mem_cons_self]; omega)]
      exact ih (fun y hy => hX y (List.mem_cons_of_mem _ hy))
  show (if t = 405 then _ else if t = 406 then _ else if t = 407 then _ else pt_up r X t) = _
  rw [if_neg (by omega), if_neg (by omega), if_neg (by omega), this]
theorem qb_mill (h : pt_Cl (n + 1) 251 qbY 1 Z P) (hn : 4 ≤ n) (hq : q < 4) (ha : a < 4) (h4 : s < 4096) (hs : r 402 = (s : Int)) (h0 : r 0 = 0) (o : wq_ok r) (hz : ∀ r2, (∀ t, t < 401 → r2 t = r t) → Z r2 M (some (wq_To (wq_T r q s a)))) : P (0, 0, 0) (qb_bL q a) [] r M := by
  have h' := h
  obtain ⟨hseg, henv, -, -, -, -, -, -, -, -, hret, -, -, -⟩ := h'
  have oo := o
  obtain ⟨o1, o2, o3, o4, o5, o6, o7⟩ := oo
  obtain ⟨om, on', op, oa, ok⟩ := o3 a ha
  obtain ⟨p, ep⟩ : ∃ p : Nat, r (135 + a) = (p : Int) := ⟨(r (135 + a)).toNat, by omega⟩
  have hp4 : p < 4 := by omega
  have vl := wq_vl (t := (0, 135 + a, 0)) hs h4 hp4 (by show [r (135 + a), _] = _; rw [ep])
  have vo := wq_vo hs h4 ha
  have vm := wq_vm hs h4 ha ep hp4
  have eT : wq_T r q s a = if r 75 ≤ (a : Int) then none else if s.testBit (4 + a) = true then none else if r (371 + a) = 0 ∧ ¬ (s.testBit p = true ∧ wq_S r q 8 s (r 73).toNat + r (375 + a) ≤ wq_R r q 4 s (r 75).toNat) then none else some (s ||| 2 ^ (4 + a) ||| 2 ^ p) := by
    unfold wq_T
    rw [if_pos ha, ep]
    rfl
  have back : ∀ (pc : Nat) (L : List ai_V) (x : ai_X) (r2 : Nat → Int) (v : Int), pt_is 5 251 pc = true → (∀ t, t < 401 → r2 t = r t) → ai_vx r2 x = v → v = wq_To (wq_T r q s a) → P (pc, 0, 0) L [.inl x] r2 M := fun pc L x r2 v b1 b2 b3 b4 => hret (pc, 0, 0) L x r2 M rfl b1 (Nat.ble_eq_true_of_le (Nat.zero_le _)) (Nat.ble_eq_true_of_le (Nat.zero_le _)) (by rw [b3, b4]; exact hz r2 b2)
  have lowW : ∀ t, t < 401 → pt_up r qb_bW t = r t := fun t ht => by
    have := qb_bWn (r := r) (X := []) (fun _ h => by cases h) (t := t) (by omega)
    rw [List.append_nil] at this
    exact this
  have neg : ∀ r2 : Nat → Int, (∀ t, t < 401 → r2 t = r t) → ai_vx r2 (0, .negSucc 0) = -1 := fun r2 b => by
    show r2 0 + -1 = -1
    rw [b 0 (by omega), h0]
    rfl
  have c := List.all_eq_true.mp (List.all_eq_true.mp qb_m_c q (List.mem_range.mpr hq)) a (List.mem_range.mpr ha)
  refine hseg _ _ _ _ _ r M _ _ _ _ _ c ⟨pt_m0, pt_m1 ⟨by show (0 : Int) ≤ r 402; omega, by show r 402 ≤ (4095 : Int); omega⟩, pt_m0⟩ ⟨fun g => ?_, fun g => ?_, fun g => ?_, fun g => ?_, fun g => ?_, trivial⟩
  · have g1 : r 75 ≤ (a : Int) := g.1
    exact back 44 _ _ _ (-1) qb_is2.1 lowW (neg _ lowW) (by rw [eT, if_pos g1]; rfl)
  · have g1 : ((a + 1 : Nat) : Int) ≤ r 75 := g.1
    have g2 : 1 ≤ pt_v r (qb_xo a) := g.2.1
    rw [vo] at g2
    exact back 44 _ _ _ (-1) qb_is2.1 lowW (neg _ lowW) (by rw [eT, if_neg (by omega), if_pos (Classical.byContradiction (fun w => by rw [if_neg w] at g2; omega))]; rfl)
  · have g1 : ((a + 1 : Nat) : Int) ≤ r 75 := g.1
    have g2 : pt_v r (qb_xo a) ≤ 0 := g.2.1
    have g3 : 1 ≤ r (371 + a) := g.2.2.1
    rw [vo] at g2
    refine back 124 _ _ _ _ qb_is2.2.1 (fun t ht => qb_bWn (r := r) (X := [(481, qb_xm a)]) (fun z hz => by
      rw [List.mem_singleton.mp hz]) (t := t) (by omega)) (show pt_v r (qb_xm a) + 0 = _ by rw [Int.add_zero, vm]) (by
      rw [eT, if_neg (by omega), if_neg (fun w => by rw [if_pos w] at g2; omega), if_neg (fun w => by have := w.1; omega)]
      rfl)
  · have g1 : ((a + 1 : Nat) : Int) ≤ r 75 := g.1
    have g2 : pt_v r (qb_xo a) ≤ 0 := g.2.1
    have g3 : r (371 + a) ≤ 0 := g.2.2.1
    have g4 : pt_v r (qb_xl (0, 135 + a, 0)) ≤ 0 := g.2.2.2.1
    rw [vo] at g2
    rw [vl] at g4
    exact back 124 _ _ _ (-1) qb_is2.2.1 lowW (neg _ lowW) (by
      rw [eT, if_neg (by omega), if_neg (fun w => by rw [if_pos w] at g2; omega), if_pos ⟨by omega, fun w => by rw [if_pos w.1] at g4; omega⟩]
      rfl)
  · have g1 : ((a + 1 : Nat) : Int) ≤ r 75 := g.1
    have g2 : pt_v r (qb_xo a) ≤ 0 := g.2.1
    have g3 : r (371 + a) ≤ 0 := g.2.2.1
    have g4 : 1 ≤ pt_v r (qb_xl (0, 135 + a, 0)) := g.2.2.2.1
    rw [vo] at g2
    rw [vl] at g4
    have gp : s.testBit p = true := Classical.byContradiction (fun w => by rw [if_neg w] at g4; omega)
    have eT2 : wq_T r q s a = if wq_S r q 8 s (r 73).toNat + r (375 + a) ≤ wq_R r q 4 s (r 75).toNat then some (s ||| 2 ^ (4 + a) ||| 2 ^ p) else none := by
      rw [eT, if_neg (by omega), if_neg (fun w => by rw [if_pos w] at g2; omega)]
      by_cases w : wq_S r q 8 s (r 73).toNat + r (375 + a) ≤ wq_R r q 4 s (r 75).toNat
      · rw [if_pos w, if_neg (fun z => z.2 ⟨gp, w⟩)]
      · rw [if_neg w, if_pos ⟨by omega, fun z => w z.2⟩]
    obtain ⟨r1, hr1⟩ : ∃ r1, r1 = pt_up r qb_bW := ⟨_, rfl⟩
    have l1 : ∀ t, t < 401 → r1 t = r t := fun t ht => by
      rw [hr1]
      exact lowW t ht
    have l5 : r1 406 = ((s / 2 ^ 4 &&& 15 : Nat) : Int) := by
      rw [hr1]
      show ai_op 5 (ai_op 9 (r 402) ((4 : Nat) : Int)) ((15 : Nat) : Int) = _
      rw [hs, wq_o9 (by omega) (by omega), wq_o5 (Nat.lt_of_le_of_lt (Nat.div_le_self _ _) (by omega)) (by omega)]
    have l6 : r1 407 = ((s / 2 ^ 8 : Nat) : Int) := by
      rw [hr1]
      show ai_op 9 (r 402) ((8 : Nat) : Int) = _
      rw [hs, wq_o9 (by omega) (by omega)]
    have lb : r1 402 = (s : Int) := by
      rw [hr1]
      exact hs
    show P (73, 0, 0) (qb_bN q a wa_u) [wa_k q, wa_i 406, wa_r 264] (pt_up r qb_bW) M
    rw [← hr1]
    have ck := List.all_eq_true.mp (List.all_eq_true.mp qb_m_k q (List.mem_range.mpr hq)) a (List.mem_range.mpr ha)
    rw [Bool.and_eq_true] at ck
    have c2 := List.all_eq_true.mp (List.all_eq_true.mp qb_m2_c q (List.mem_range.mpr hq)) a (List.mem_range.mpr ha)
    rw [Bool.and_eq_true] at c2
    have s8 : s / 2 ^ 8 < 16 := Nat.div_lt_of_lt_mul (by omega)
    have on15 : s / 2 ^ 4 &&& 15 ≤ 15 := Nat.and_le_right
    have r10 : r1 0 = 0 := (l1 0 (by omega)).trans h0
    -- couldMake
    obtain ⟨rc, hrc⟩ : ∃ rc, rc = pt_up r1 (pt_wc [wa_r 264, wa_i 406, wa_k q] [wa_r 264, wa_i 402, wa_i 403]) := ⟨_, rfl⟩
    have rcv : ∀ t, rc t = if t = 402 then r1 406 else if t = 403 then (q : Int) else r1 t := fun t => by
      rw [hrc]
      rfl
    have rcl : ∀ t, t < 401 → rc t = r1 t := fun t ht => by
      rw [rcv, if_neg (by omega), if_neg (by omega)]
    refine wq_cv (S' := []) h (wq_b0 249 (by decide)).1 (by show 401 ≤ 481; omega) (wq_b0 249 (by decide)).2 ck.1 (qb_cM hn) ?_ ?_ ?_
    · rw [← hrc]
      refine ⟨?_, ?_⟩
      · rw [rcv, if_pos rfl, l5]
        omega
      · rw [rcv, if_neg (by omega), if_pos rfl]
        omega
    · rw [← hrc]
      exact fun t ht => rcl t ht
    rw [← hrc]
    have v1 : qb_cV rc = wq_R r q 4 s (r 75).toNat := by
      unfold qb_cV
      rw [rcv 403, if_neg (by omega), if_pos rfl, rcv 402, if_pos rfl, l5, rcl 75 (by omega), l1 75 (by omega)]
      show wq_R rc q 0 (s / 2 ^ 4 &&& 15) (r 75).toNat = _
      rw [wq_R_c (fun t ht => (rcl t (by omega)).trans (l1 t (by omega))) hq (by omega)]
      exact wq_R_x (fun j hj => wq_ton hj) (by omega)
    rw [v1]
    obtain ⟨r2, hr2⟩ : ∃ r2, r2 = pt_set r1 481 (wq_R r q 4 s (r 75).toNat) := ⟨_, rfl⟩
    rw [← hr2]
    have n2 : ∀ t, t ≠ 481 → r2 t = r1 t := fun t ht => by
      rw [hr2]
      exact if_neg ht
    have t0 : r2 481 = wq_R r q 4 s (r 75).toNat := by
      rw [hr2]
      exact if_pos rfl
    show P (76, 0, 0) (qb_bN q a wa_u) [wa_i 481] r2 M
    refine hseg _ _ _ _ _ r2 M _ _ _ _ _ c2.1 ⟨pt_m0, pt_m0, pt_m0⟩ ⟨fun _ => ?_, trivial⟩
    show P (80, 0, 0) (qb_bN q a wa_u) [wa_k q, wa_i 407, wa_r 264, wa_i 481] r2 M
    -- servedLoads
    obtain ⟨rd, hrd⟩ : ∃ rd, rd = pt_up r2 (pt_wc [wa_r 264, wa_i 407, wa_k q] [wa_r 264, wa_i 402, wa_i 403]) := ⟨_, rfl⟩
    have rdv : ∀ t, rd t = if t = 402 then r2 407 else if t = 403 then (q : Int) else r2 t := fun t => by
      rw [hrd]
      rfl
    have rdl : ∀ t, t < 401 → rd t = r2 t := fun t ht => by
      rw [rdv, if_neg (by omega), if_neg (by omega)]
    have l62 : r2 407 = ((s / 2 ^ 8 : Nat) : Int) := (n2 _ (by omega)).trans l6
    refine wq_cv h (wq_b0 250 (by decide)).1 (by show 401 ≤ 482; omega) (wq_b0 250 (by decide)).2 ck.2 (qb_sM hn) ?_ ?_ ?_
    · rw [← hrd]
      refine ⟨?_, ?_⟩
      · rw [rdv, if_pos rfl, l62]
        omega
      · rw [rdv, if_neg (by omega), if_pos rfl]
        omega
    · rw [← hrd]
      exact fun t ht => rdl t ht
    rw [← hrd]
    have l2 : ∀ t, t < 401 → r2 t = r t := fun t ht => (n2 t (by omega)).trans (l1 t ht)
    have v2 : qb_sV rd = wq_S r q 8 s (r 73).toNat := by
      unfold qb_sV
      rw [rdv 403, if_neg (by omega), if_pos rfl, rdv 402, if_pos rfl, l62, rdl 73 (by omega), l2 73 (by omega)]
      show wq_S rd q 0 (s / 2 ^ 8) (r 73).toNat = _
      rw [wq_S_c (fun t ht => (rdl t (by omega)).trans (l2 t (by omega))) hq (by omega)]
      exact wq_S_x (fun j hj => wq_tsv) (by omega)
    rw [v2]
    obtain ⟨r3, hr3⟩ : ∃ r3, r3 = pt_set r2 482 (wq_S r q 8 s (r 73).toNat) := ⟨_, rfl⟩
    rw [← hr3]
    have n3 : ∀ t, t ≠ 482 → r3 t = r2 t := fun t ht => by
      rw [hr3]
      exact if_neg ht
    have t1 : r3 482 = wq_S r q 8 s (r 73).toNat := by
      rw [hr3]
      exact if_pos rfl
    have l3 : ∀ t, t < 401 → r3 t = r t := fun t ht => (n3 t (by omega)).trans (l2 t ht)
    have t03 : r3 481 = wq_R r q 4 s (r 75).toNat := (n3 _ (by omega)).trans t0
    have b3 : r3 402 = (s : Int) := (n3 _ (by omega)).trans ((n2 _ (by omega)).trans lb)
    have bs := wq_S_b o (q := q) (x := 8) (y := s) hq (m := (r 73).toNat) (by omega)
    have add : ai_op 0 (r3 482) (r3 (375 + a)) = wq_S r q 8 s (r 73).toNat + r (375 + a) := by
      rw [t1, l3 (375 + a) (by omega), wq_o0 (by omega) (by omega)]
    have vm3 := wq_vm (r := r3) b3 h4 ha ((l3 _ (by omega)).trans ep) hp4
    show P (83, 0, 0) (qb_bN q a wa_u) [wa_i 482, wa_i 481] r3 M
    refine hseg _ _ _ _ _ r3 M _ _ _ _ _ c2.2 ⟨pt_m0, pt_m1 ⟨by show (0 : Int) ≤ r3 402; omega, by show r3 402 ≤ (4095 : Int); omega⟩, pt_m0⟩ ⟨fun g => ?_, fun g => ?_, trivial⟩
    · have g5 : ai_op 0 (r3 482) (r3 (375 + a)) ≤ r3 481 := g.1
      rw [add, t03] at g5
      refine back 124 _ _ _ _ qb_is2.2.1 (fun t ht => ?_) (show pt_v r3 (qb_xm a) + 0 = _ by rw [Int.add_zero, vm3]) (by rw [eT2, if_pos g5]; rfl)
      refine Eq.trans ?_ (l3 t ht)
      show pt_up r3 [(481, qb_xm a)] t = r3 t
      exact if_neg (by omega)
    · have g5 : r3 481 ≤ ai_op 0 (r3 482) (r3 (375 + a)) + -1 := g.1
      rw [add, t03] at g5
      exact back 124 _ _ _ (-1) qb_is2.2.1 l3 (neg _ l3) (by rw [eT2, if_neg (by omega)]; rfl)
end QBM
