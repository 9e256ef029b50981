/-! WAY: behind (the class): proof -/
noncomputable def qa_bP (r : Nat → Int) : Prop := (0 ≤ r 403 ∧ r 403 ≤ 4095) ∧ (0 ≤ r 404 ∧ r 404 ≤ 12) ∧ (0 ≤ r 70 ∧ r 70 ≤ 3) ∧ wq_ok r
noncomputable def qa_bV (r : Nat → Int) : Int := (wq_U r (r 70).toNat (r 403).toNat (r 404).toNat : Int)
section QAB
variable {n : Nat} {Z : (Nat → Int) → (Nat → Nat → Int) → Option Int → Prop} {P : pt_P} {M : Nat → Nat → Int} {q s p l a : Nat} {r : Nat → Int}
theorem qa_mill (h : pt_Cl (n + 1 + 1) 122 qaY 1 Z P) (hn : 4 ≤ n) (hq : r 70 = (q : Int)) (hq4 : q < 4) (ha : a < 4) (h4 : s < 4096) (hs : r 403 = (s : Int)) (h0 : r 0 = 0) (o : wq_ok r) (hz : ∀ r2, (∀ t, t < 402 → r2 t = r t) → Z r2 M (some (wq_U r q s a : Int))) : P (0, 0, 0) (qa_bL a) [] r M := by
  have h' := h
  obtain ⟨hseg, henv, -, -, -, -, -, -, -, -, hret, -, -, -⟩ := h'
  obtain ⟨om, on', op, oa, ok⟩ := o.2.2.1 a ha
  obtain ⟨p, ep⟩ : ∃ p : Nat, r (135 + a) = (p : Int) := ⟨(r (135 + a)).toNat, by omega⟩
  have eT : wq_U r q s a = if r 75 ≤ (a : Int) then s else if wq_can r q s a = true then s ||| 2 ^ (4 + a) ||| 2 ^ p else s := by
    unfold wq_U
    rw [if_pos ha, ep]
    rfl
  have back : ∀ (pc : Nat) (L : List ai_V) (x : ai_X) (r2 : Nat → Int) (v : Int), pt_is 5 122 pc = true → (∀ t, t < 402 → r2 t = r t) → ai_vx r2 x = v → v = (wq_U r q s a : Int) → P (pc, 0, 0) L [.inl x] r2 M := fun pc L x r2 v b1 b2 b3 b4 => hret (pc, 0, 0) L x r2 M rfl b1 (Nat.ble_eq_true_of_le (Nat.zero_le _)) (Nat.ble_eq_true_of_le (Nat.zero_le _)) (by rw [b3, b4]; exact hz r2 b2)
  have c := List.all_eq_true.mp qa_m_c a (List.mem_range.mpr ha)
  simp only [Bool.and_eq_true] at c
  obtain ⟨⟨c1, c2⟩, c3, c4⟩ := c
  refine hseg _ _ _ _ _ r M _ _ _ _ _ c1 ⟨pt_m0, pt_m1 ⟨by show (0 : Int) ≤ r 403; omega, by show r 403 ≤ (4095 : Int); omega⟩, pt_m0⟩ ⟨fun g => ?_, fun g => ?_, trivial⟩
  · have g1 : r 75 ≤ (a : Int) := g.1
    exact back 49 _ _ _ (s : Int) qa_is.2.2.2.2.2.1 (fun _ _ => rfl) (by show r 403 + 0 = _; omega) (by rw [eT, if_pos g1])
  · have g1 : ((a + 1 : Nat) : Int) ≤ r 75 := g.1
    show P (19, 0, 0) (qa_bL a) [wa_k a, wa_i 403, wa_r 198] r M
    obtain ⟨rc, hrc⟩ : ∃ rc, rc = pt_up r (pt_wc [wa_r 198, wa_i 403, wa_k a] [wa_r 198, wa_i 403, wa_i 404]) := ⟨_, rfl⟩
    have rcv : ∀ t, rc t = if t = 403 then r 403 else if t = 404 then (a : Int) else r t := fun t => by
      rw [hrc]
      rfl
    have rcl : ∀ t, t < 402 → rc t = r t := fun t ht => by
      rw [rcv, if_neg (by omega), if_neg (by omega)]
    refine wq_cv (S' := []) h (wq_b0 124 (by decide)).1 (by show 402 ≤ 482; omega) (wq_b0 124 (by decide)).2 (by rw [c3, c4]; rfl) (qa_oM hn) ?_ ?_ ?_
    · rw [← hrc]
      refine ⟨?_, ?_, ?_, wq_ok_c (fun t ht => rcl t (by omega)) o⟩
      · rw [rcv, if_pos rfl]
        omega
      · rw [rcv, if_neg (by omega), if_pos rfl]
        omega
      · rw [rcl _ (by omega)]
        omega
    · rw [← hrc]
      exact fun t ht => rcl t ht
    rw [← hrc]
    have v1 : qa_oV rc = wq_B (wq_can r q s a) := by
      unfold qa_oV
      rw [rcl 70 (by omega), rcv 403, if_pos rfl, rcv 404, if_neg (by omega), if_pos rfl, hq, hs]
      show wq_B (wq_can rc q s a) = _
      unfold wq_can
      rw [rcl (371 + a) (by omega), rcl (135 + a) (by omega), rcl (375 + a) (by omega), rcl 75 (by omega), wq_R_c (fun t ht => rcl t (by omega)) hq4 (by have := o.2.2.2.2.2.1; omega), wq_S_c (fun t ht => rcl t (by omega)) hq4 (by omega)]
    rw [v1]
    obtain ⟨r2, hr2⟩ : ∃ r2, r2 = pt_set r 482 (wq_B (wq_can r q s a)) := ⟨_, rfl⟩
    rw [← hr2]
    have n2 : ∀ t, t ≠ 482 → r2 t = r t := fun t ht => by
      rw [hr2]
      exact if_neg ht
    have t0 : r2 482 = wq_B (wq_can r q s a) := by
      rw [hr2]
      exact wq_sset
    have s2 : r2 403 = (s : Int) := (n2 _ (by omega)).trans hs
    have vm : pt_v r2 (qa_xm a) = ((s ||| 2 ^ (4 + a) ||| 2 ^ p : Nat) : Int) := by
      show ai_op 6 (ai_op 6 (r2 403) ((2 ^ (4 + a) : Nat) : Int)) (ai_op 8 1 (r2 (135 + a))) = _
      have p1 := wq_p2 (j := 4 + a) (by omega)
      have p2 := wq_p2 (j := p) (by omega)
      rw [s2, wq_o6 (by omega) (by omega), wq_sh ((n2 _ (by omega)).trans ep) (by omega), wq_o6 (by have := wq_or h4 p1; omega) (by omega)]
    show P (22, 0, 0) (qa_bL a) [wa_i 482] r2 M
    refine hseg _ _ _ _ _ r2 M _ _ _ _ _ c2 ⟨pt_m0, pt_m1 ⟨by show (0 : Int) ≤ r2 403; omega, by show r2 403 ≤ (4095 : Int); omega⟩, pt_m0⟩ ⟨fun g => ?_, fun g => ?_, trivial⟩
    · have g2 : r2 482 ≤ 0 := g.1
      rw [t0] at g2
      have b : wq_can r q s a = false := by
        cases b : wq_can r q s a with
        | false => rfl
        | true => rw [b] at g2; exact absurd g2 (by decide)
      exact back 49 _ _ _ (s : Int) qa_is.2.2.2.2.2.1 (fun t ht => n2 t (by omega)) (by show r2 403 + 0 = _; omega) (by rw [eT, if_neg (by omega), if_neg (by rw [b]; decide)])
    · have g2 : r2 482 ≠ 0 := g.1
      rw [t0] at g2
      have b : wq_can r q s a = true := by
        cases b : wq_can r q s a with
        | true => rfl
        | false => rw [b] at g2; exact absurd rfl g2
      refine back 49 _ _ _ _ qa_is.2.2.2.2.2.1 (fun t ht => ?_) (show pt_v r2 (qa_xm a) + 0 = _ by rw [Int.add_zero, vm]) (by rw [eT, if_neg (by omega), if_pos b])
      refine Eq.trans ?_ (n2 t (by omega))
      show pt_up r2 [(483, qa_xm a)] t = r2 t
      exact if_neg (by omega)
theorem qa_line (h : pt_Cl (n + 1 + 1) 122 qaY 1 Z P) (hn : 4 ≤ n) (hl : l < 5) (h4 : s < 4096) (hs : r 403 = (s : Int)) (h0 : r 0 = 0) (o : wq_ok r) (hz : ∀ r2, (∀ t, t < 402 → r2 t = r t) → Z r2 M (some (wq_U r q s (4 + l) : Int))) : P (0, 0, 0) (qa_bL (4 + l)) [] r M := by
  have h' := h
  obtain ⟨hseg, henv, -, -, -, -, -, -, -, -, hret, -, -, -⟩ := h'
  have eT : wq_U r q s (4 + l) = wq_Ul r s l := by
    unfold wq_U wq_Ul
    rw [if_neg (by omega), if_pos (by omega), show 4 + l - 4 = l by omega]
  have c := List.all_eq_true.mp qa_l_c l (List.mem_range.mpr hl)
  simp only [Bool.and_eq_true] at c
  obtain ⟨c1, c3, c4⟩ := c
  refine hseg _ _ _ _ _ r M _ _ _ _ _ c1 ⟨pt_m0, pt_m0, pt_m0⟩ ⟨fun _ => ?_, trivial⟩
  show P (61, 0, 0) (qa_bL (4 + l)) [wa_k l, wa_i 403, wa_r 198] r M
  obtain ⟨rc, hrc⟩ : ∃ rc, rc = pt_up r (pt_wc [wa_r 198, wa_i 403, wa_k l] [wa_r 198, wa_i 403, wa_i 404]) := ⟨_, rfl⟩
  have rcv : ∀ t, rc t = if t = 403 then r 403 else if t = 404 then (l : Int) else r t := fun t => by
    rw [hrc]
    rfl
  have rcl : ∀ t, t < 402 → rc t = r t := fun t ht => by
    rw [rcv, if_neg (by omega), if_neg (by omega)]
  refine wq_cv (S' := []) h (wq_b0 123 (by decide)).1 (by show 402 ≤ 482; omega) (wq_b0 123 (by decide)).2 (by rw [c3, c4]; rfl) (qa_nM (n := n + 1) (by omega)) ?_ ?_ ?_
  · rw [← hrc]
    refine ⟨?_, ?_, wq_ok_c (fun t ht => rcl t (by omega)) o⟩
    · rw [rcv, if_pos rfl]
      omega
    · rw [rcv, if_neg (by omega), if_pos rfl]
      omega
  · rw [← hrc]
    exact fun t ht => rcl t ht
  rw [← hrc]
  have v1 : qa_nV rc = (wq_Ul r s l : Int) := by
    unfold qa_nV
    rw [rcv 403, if_pos rfl, rcv 404, if_neg (by omega), if_pos rfl, hs]
    show (wq_Ul rc s l : Int) = _
    unfold wq_Ul
    rw [rcl 74 (by omega), rcl (115 + l) (by omega), rcl (120 + l) (by omega)]
  rw [v1]
  obtain ⟨r2, hr2⟩ : ∃ r2, r2 = pt_set r 482 (wq_Ul r s l : Int) := ⟨_, rfl⟩
  rw [← hr2]
  have n2 : ∀ t, t < 402 → r2 t = r t := fun t ht => by
    rw [hr2]
    exact if_neg (by omega)
  refine hret (64, 0, 0) _ (482, 0) r2 M rfl qa_is.2.2.2.2.2.2.1 (Nat.ble_eq_true_of_le (Nat.zero_le _)) (Nat.ble_eq_true_of_le (Nat.zero_le _)) ?_
  have e : ai_vx r2 (482, 0) = (wq_Ul r s l : Int) := by
    show r2 482 + 0 = _
    rw [hr2, wq_sset, Int.add_zero]
  rw [e, ← eT]
  exact hz r2 n2
theorem qa_load (h : pt_Cl (n + 1 + 1) 122 qaY 1 Z P) (hn : 4 ≤ n) (hq : r 70 = (q : Int)) (hq4 : q < 4) (hp : p < 4) (h4 : s < 4096) (hs : r 403 = (s : Int)) (h0 : r 0 = 0) (o : wq_ok r) (hz : ∀ r2, (∀ t, t < 402 → r2 t = r t) → Z r2 M (some (wq_U r q s (9 + p) : Int))) : P (0, 0, 0) (qa_bL (9 + p)) [] r M := by
  have h' := h
  obtain ⟨hseg, henv, -, -, -, -, -, -, -, -, hret, -, -, -⟩ := h'
  have oP := o.2.2.2.2.1
  have oM := o.2.2.2.2.2.1
  have eT : wq_U r q s (9 + p) = if r 73 ≤ (p : Int) then s else if ¬ s.testBit p = true then s else if s.testBit (8 + p) = true then s else if wq_R r q 4 s (r 75).toNat < wq_S r q 8 s 4 + r (171 + (4 * p + q)) then s else s ||| 2 ^ (8 + p) := by
    unfold wq_U
    rw [if_neg (by omega), if_neg (by omega), show 9 + p - 9 = p by omega]
  have back : ∀ (pc : Nat) (L : List ai_V) (x : ai_X) (r2 : Nat → Int) (v : Int), pt_is 5 122 pc = true → (∀ t, t < 402 → r2 t = r t) → ai_vx r2 x = v → v = (wq_U r q s (9 + p) : Int) → P (pc, 0, 0) L [.inl x] r2 M := fun pc L x r2 v b1 b2 b3 b4 => hret (pc, 0, 0) L x r2 M rfl b1 (Nat.ble_eq_true_of_le (Nat.zero_le _)) (Nat.ble_eq_true_of_le (Nat.zero_le _)) (by rw [b3, b4]; exact hz r2 b2)
  have c := List.all_eq_true.mp qa_v_c p (List.mem_range.mpr hp)
  simp only [Bool.and_eq_true] at c
  obtain ⟨c1, c2, c3⟩ := c
  have c3 := List.all_eq_true.mp c3 q (List.mem_range.mpr hq4)
  rw [Bool.and_eq_true] at c3
  have ck := List.all_eq_true.mp qa_v_k p (List.mem_range.mpr hp)
  rw [Bool.and_eq_true] at ck
  have vb := wq_vb (m := 8 + p) hs (by omega) (by omega)
  have vl := wq_vb (m := p) hs (by omega) (by omega)
  obtain ⟨vS, hvS⟩ : ∃ v, v = wq_S r q 8 s 4 := ⟨_, rfl⟩
  have bS := wq_S_b o (q := q) (x := 8) (y := s) hq4 (m := 4) (by omega)
  have bl := o.1 (4 * p + q) (by omega)
  -- servedLoad
  obtain ⟨r2, hr2⟩ : ∃ r2, r2 = pt_set r 482 (wq_S r q 8 s 4) := ⟨_, rfl⟩
  have n2 : ∀ t, t ≠ 482 → r2 t = r t := fun t ht => by
    rw [hr2]
    exact if_neg ht
  have t0 : r2 482 = wq_S r q 8 s 4 := by
    rw [hr2]
    exact wq_sset
  have first : ∀ b : Nat, b < 2 → P (102, 0, 0) (qa_bN p b wa_u wa_u) [wa_i 482] r2 M → P (99, 0, 0) (qa_bN p b wa_u wa_u) [wa_i 403, wa_r 198] r M := fun b hb k => by
    refine wq_cv (S' := []) h (wq_b0 126 (by decide)).1 (by show 402 ≤ 482; omega) (wq_b0 126 (by decide)).2 (List.all_eq_true.mp ck.1 b (List.mem_range.mpr hb)) (qa_sM (n := n + 1) (by omega)) ?_ ?_ ?_
    · rw [wq_self h0]
      exact ⟨by omega, by omega⟩
    · rw [wq_self h0]
      exact fun t _ => rfl
    rw [wq_self h0]
    have v1 : qa_sV r = wq_S r q 8 s 4 := by
      unfold qa_sV
      rw [hq, hs]
      rfl
    rw [v1, ← hr2]
    exact k
  obtain ⟨r3, hr3⟩ : ∃ r3, r3 = pt_up r2 (qa_vW q p) := ⟨_, rfl⟩
  have r3v : ∀ t, r3 t = if t = 407 then ai_op 0 (r2 482) (r2 (171 + (4 * p + q))) else if t = 70 then (q : Int) else r2 t := fun t => by
    rw [hr3]
    rfl
  have l3 : ∀ t, t < 402 → r3 t = r t := fun t ht => by
    rw [r3v, if_neg (by omega)]
    by_cases e : t = 70
    · rw [if_pos e, e, hq]
    · rw [if_neg e]
      exact n2 t (by omega)
  have a5 : r3 407 = wq_S r q 8 s 4 + r (171 + (4 * p + q)) := by
    rw [r3v, if_pos rfl, t0, n2 _ (by omega), wq_o0 (by omega) (by omega)]
  have a1 : r3 403 = (s : Int) := by
    rw [r3v, if_neg (by omega), if_neg (by omega), n2 _ (by omega)]
    exact hs
  have stay : ∀ (L : List ai_V), (wq_U r q s (9 + p) = s) → P (166, 0, 0) L [wa_i 403] r3 M := fun L e => back 166 L (403, 0) r3 (s : Int) qa_is.2.2.2.2.2.2.2.1 l3 (by show r3 403 + 0 = _; omega) (by rw [e])
  have zero : (wq_U r q s (9 + p) = s) → P (102, 0, 0) (qa_bN p 0 wa_u wa_u) [wa_i 482] r2 M := fun e => by
    refine hseg _ _ _ _ _ r2 M _ _ _ _ _ c3.2 ⟨pt_m1 ((n2 _ (by omega)).trans hq), pt_m1 ⟨by show (0 : Int) ≤ r2 403; rw [n2 _ (by omega)]; omega, by show r2 403 ≤ (4095 : Int); rw [n2 _ (by omega)]; omega⟩, pt_m0⟩ ⟨fun _ => ?_, trivial⟩
    show P (166, 0, 0) (qa_bN p 0 (wa_i 407) (wa_k 0)) [wa_i 403] (pt_up r2 (qa_vW q p)) M
    rw [← hr3]
    exact stay _ e
  refine hseg _ _ _ _ _ r M _ _ _ _ _ c1 ⟨pt_m0, pt_m1 ⟨by show (0 : Int) ≤ r 403; omega, by show r 403 ≤ (4095 : Int); omega⟩, pt_m0⟩ ⟨fun g => ?_, fun g => ?_, fun g => ?_, trivial⟩
  · have g1 : r 73 ≤ (p : Int) := g.1
    exact first 0 (by omega) (zero (by rw [eT, if_pos g1]))
  · have g1 : ((p + 1 : Nat) : Int) ≤ r 73 := g.1
    have g2 : pt_v r (wq_b 403 p) ≤ 0 := g.2.1
    rw [vl] at g2
    exact first 0 (by omega) (zero (by rw [eT, if_neg (by omega), if_pos (fun w => by rw [if_pos w] at g2; omega)]))
  · have g1 : ((p + 1 : Nat) : Int) ≤ r 73 := g.1
    have g2 : 1 ≤ pt_v r (wq_b 403 p) := g.2.1
    rw [vl] at g2
    have eT2 : wq_U r q s (9 + p) = if s.testBit (8 + p) = true then s else if wq_R r q 4 s (r 75).toNat < wq_S r q 8 s 4 + r (171 + (4 * p + q)) then s else s ||| 2 ^ (8 + p) := by
      rw [eT, if_neg (by omega), if_neg (fun w => by rw [if_neg w] at g2; omega)]
    refine first 1 (by omega) ?_
    have vb2 := wq_vb (m := 8 + p) ((n2 403 (by omega)).trans hs) (by omega) (by omega)
    refine hseg _ _ _ _ _ r2 M _ _ _ _ _ c3.1 ⟨pt_m1 ((n2 _ (by omega)).trans hq), pt_m1 ⟨by show (0 : Int) ≤ r2 403; rw [n2 _ (by omega)]; omega, by show r2 403 ≤ (4095 : Int); rw [n2 _ (by omega)]; omega⟩, pt_m0⟩ ⟨fun g => ?_, fun g => ?_, trivial⟩
    · have g3 : 1 ≤ pt_v r2 (wq_b 403 (8 + p)) := g.1
      rw [vb2] at g3
      show P (166, 0, 0) (qa_bN p 1 (wa_i 407) (wa_k 0)) [wa_i 403] (pt_up r2 (qa_vW q p)) M
      rw [← hr3]
      exact stay _ (by rw [eT2, if_pos (Classical.byContradiction (fun w => by rw [if_neg w] at g3; omega))])
    · have g3 : pt_v r2 (wq_b 403 (8 + p)) ≤ 0 := g.1
      rw [vb2] at g3
      have eT3 : wq_U r q s (9 + p) = if wq_R r q 4 s (r 75).toNat < wq_S r q 8 s 4 + r (171 + (4 * p + q)) then s else s ||| 2 ^ (8 + p) := by
        rw [eT2, if_neg (fun w => by rw [if_pos w] at g3; omega)]
      show P (135, 0, 0) (qa_bN p 1 (wa_i 407) wa_u) [wa_i 403, wa_r 198] (pt_up r2 (qa_vW q p)) M
      rw [← hr3]
      have h03 : r3 0 = 0 := (l3 0 (by omega)).trans h0
      refine wq_cv (S' := []) h (wq_b0 125 (by decide)).1 (by show 402 ≤ 483; omega) (wq_b0 125 (by decide)).2 ck.2 (qa_cM (n := n + 1) (by omega)) ?_ ?_ ?_
      · rw [wq_self h03]
        exact ⟨by omega, by rw [l3 _ (by omega)]; omega⟩
      · rw [wq_self h03]
        exact fun t _ => rfl
      rw [wq_self h03]
      have v1 : qa_cV r3 = wq_R r q 4 s (r 75).toNat := by
        unfold qa_cV
        rw [l3 70 (by omega), l3 75 (by omega), hq, a1]
        show wq_R r3 q 4 s _ = _
        exact wq_R_c (fun t ht => l3 t (by omega)) hq4 (by omega)
      rw [v1]
      obtain ⟨r4, hr4⟩ : ∃ r4, r4 = pt_set r3 483 (wq_R r q 4 s (r 75).toNat) := ⟨_, rfl⟩
      rw [← hr4]
      have n4 : ∀ t, t ≠ 483 → r4 t = r3 t := fun t ht => by
        rw [hr4]
        exact if_neg ht
      have t4 : r4 483 = wq_R r q 4 s (r 75).toNat := by
        rw [hr4]
        exact wq_sset
      have l4 : ∀ t, t < 402 → r4 t = r t := fun t ht => (n4 t (by omega)).trans (l3 t ht)
      have a54 : r4 407 = wq_S r q 8 s 4 + r (171 + (4 * p + q)) := (n4 _ (by omega)).trans a5
      have a14 : r4 403 = (s : Int) := (n4 _ (by omega)).trans a1
      show P (138, 0, 0) (qa_bN p 1 (wa_i 407) wa_u) [wa_i 483] r4 M
      refine hseg _ _ _ _ _ r4 M _ _ _ _ _ c2 ⟨pt_m0, pt_m1 ⟨by show (0 : Int) ≤ r4 403; omega, by show r4 403 ≤ (4095 : Int); omega⟩, pt_m0⟩ ⟨fun g => ?_, fun g => ?_, trivial⟩
      · have g5 : r4 483 ≤ r4 407 + -1 := g.1
        rw [t4, a54] at g5
        exact back 166 _ (403, 0) r4 (s : Int) qa_is.2.2.2.2.2.2.2.1 l4 (by show r4 403 + 0 = _; omega) (by rw [eT3, if_pos (by omega)])
      · have g5 : r4 407 ≤ r4 483 := g.1
        rw [t4, a54] at g5
        refine back 166 _ _ _ ((s ||| 2 ^ (8 + p) : Nat) : Int) qa_is.2.2.2.2.2.2.2.1 (fun t ht => ?_) ?_ (by rw [eT3, if_neg (by omega)])
        · refine Eq.trans ?_ (l4 t ht)
          show pt_up r4 [(482, qa_xv p)] t = r4 t
          exact if_neg (by omega)
        · show ai_op 6 (r4 403) ((2 ^ (8 + p) : Nat) : Int) + 0 = _
          have p1 := wq_p2 (j := 8 + p) (by omega)
          rw [a14, wq_o6 (by omega) (by omega), Int.add_zero]
end QAB
theorem qa_bM {n : Nat} (hn : 4 ≤ n) : pt_Met (n + 1 + 1 + 1) 122 qaY [wa_r 198, wa_i 403, wa_i 404] (fun r _ => qa_bP r) (wq_pu 402 qa_bV) 1 := by
  refine pt_intro (L0 := [wa_r 198, wa_i 403, wa_i 404, wa_u, wa_u, wa_u, wa_u]) (wq_b0 122 (by decide)).2 (by omega) qasys (by
    rw [qa_is.2.2.2.2.2.2.2.2.2.2]
    rfl) (fun P r M h hp => ?_)
  have h' := h
  obtain ⟨hseg, henv, hrel, -⟩ := h'
  refine henv _ _ _ _ _ (fun hE _ => ?_)
  have h0 : r 0 = 0 := hE.1
  obtain ⟨⟨x1, x2⟩, ⟨a1, a2⟩, ⟨q1, q2⟩, o⟩ := hp
  obtain ⟨q, eq⟩ : ∃ q : Nat, r 70 = (q : Int) := ⟨(r 70).toNat, by omega⟩
  obtain ⟨a, ea⟩ : ∃ a : Nat, r 404 = (a : Int) := ⟨(r 404).toNat, by omega⟩
  obtain ⟨s, es⟩ : ∃ s : Nat, r 403 = (s : Int) := ⟨(r 403).toNat, by omega⟩
  have ev : qa_bV r = (wq_U r q s a : Int) := by
    unfold qa_bV
    rw [eq, ea, es]
    rfl
  have hz : ∀ r2, (∀ t, t < 402 → r2 t = r t) → wq_pu 402 qa_bV r M r2 M (some (wq_U r q s a : Int)) := fun r2 h2 => ⟨by rw [ev], rfl, h2⟩
  refine hrel (0, 0, 0) _ (qa_bL a) _ [] r M ⟨rfl, ⟨by show 403 < 502; omega, rfl⟩, ⟨by show 0 < 502; omega, by show r 404 + 0 = r 0 + (a : Int); rw [h0, ea]; omega⟩, trivial, trivial, trivial, trivial, trivial⟩ trivial ?_
  by_cases c : a < 4
  · exact qa_mill h hn eq (by omega) c (by omega) es h0 o hz
  · by_cases c2 : a < 9
    · obtain ⟨l, rfl⟩ : ∃ l, a = 4 + l := ⟨a - 4, by omega⟩
      exact qa_line h hn (by omega) (by omega) es h0 o hz
    · obtain ⟨p, rfl⟩ : ∃ p, a = 9 + p := ⟨a - 9, by omega⟩
      exact qa_load h hn eq (by omega) (by omega) (by omega) es h0 o hz
