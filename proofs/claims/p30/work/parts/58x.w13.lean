/-! WAY: canComeOn (the class) -/
/-- whether a mill can come on (the class) -/
noncomputable def wq_can (r : Nat → Int) (q s a : Nat) : Bool := !(s.testBit (4 + a)) && (!(decide (r (371 + a) = 0)) || (s.testBit (r (135 + a)).toNat && decide (r (375 + a) ≤ wq_R r q 4 s (r 75).toNat - wq_S r q 8 s 4)))
noncomputable def wq_B (b : Bool) : Int := if b = true then 1 else 0
noncomputable def qa_oL (m : Nat) : List ai_V := [wa_r 198, wa_i 403, wa_k m, wa_u, wa_u]
noncomputable def qa_oN (m : Nat) (u : ai_V) : List ai_V := [wa_r 198, wa_i 403, wa_k m, wa_r (44 + 6 * m), u]
noncomputable def qa_xl (t : Nat) : pt_X := [(0, 403, 0), (0, t, 0), (2, 9, 0), (1, 0, 1), (2, 5, 0)]
noncomputable def qa_oE (q m : Nat) : List pt_E := [((21, 0, 0), (qa_oN m wa_u, [wa_k 0]), [(70, wq_k q)], [(0, wq_k 1, wq_b 403 (4 + m))]),
  ((30, 0, 0), (qa_oN m wa_u, [wa_k 1]), [(70, wq_k q)], [(0, wq_b 403 (4 + m), wq_k 0), (0, wq_k 1, wq_p (371 + m))]),
  ((78, 0, 0), (qa_oN m (wa_k 0), [wa_k 0]), [(70, wq_k q)], [(0, wq_b 403 (4 + m), wq_k 0), (0, wq_p (371 + m), wq_k 0), (0, qa_xl (135 + m), wq_k 0)]),
  ((57, 0, 0), (qa_oN m (wa_k 1), [wa_i 403, wa_r 198]), [(70, wq_k q)], [(0, wq_b 403 (4 + m), wq_k 0), (0, wq_p (371 + m), wq_k 0), (0, wq_k 1, qa_xl (135 + m))])]
noncomputable def qa_o2E (m : Nat) : List pt_E := [((78, 0, 0), (qa_oN m (wa_k 1), [wa_k 0]), [], [(0, [(0, 482, 0), (0, 483, 0), (2, 1, 0)], [(0, 375 + m, 0), (3, 0, -1)])]),
  ((78, 0, 0), (qa_oN m (wa_k 1), [wa_k 1]), [], [(0, wq_p (375 + m), [(0, 482, 0), (0, 483, 0), (2, 1, 0)])])]
theorem qa_o_c : (List.range 4).all (fun q => (List.range 4).all (fun m => pt_row qaY 124 [21, 30, 57, 78] true (0, 0, 0) (qa_oL m) [] [(70, .ofNat q)] [(403, (0, 4095))] [] [] (qa_oE q m))) = true := by decide +kernel
theorem qa_o2_c : (List.range 4).all (fun m => pt_row qaY 124 [62] false (60, 0, 0) (qa_oN m (wa_k 1)) [wa_i 482] [] [] [] [] [((62, 0, 0), (qa_oN m (wa_k 1), [wa_i 403, wa_r 198, wa_i 482]), [], [])] && pt_row qaY 124 [78] false (65, 0, 0) (qa_oN m (wa_k 1)) [wa_i 483, wa_i 482] [] [] [] [] (qa_o2E m)) = true := by decide +kernel
theorem qa_o_k : (List.range 4).all (fun m => (cy_vk 124 57 125 qaY.2.1 [wa_i 403, wa_r 198] [wa_r 198, wa_i 403] [] && pt_cck qaY 124 125 (57, 0, 0) 1 482 (qa_oN m (wa_k 1)) [] [wa_r 198, wa_i 403] [wa_r 198, wa_i 403]) && (cy_vk 124 62 126 qaY.2.1 [wa_i 403, wa_r 198, wa_i 482] [wa_r 198, wa_i 403] [wa_i 482] && pt_cck qaY 124 126 (62, 0, 0) 1 483 (qa_oN m (wa_k 1)) [wa_i 482] [wa_r 198, wa_i 403] [wa_r 198, wa_i 403])) = true := by decide +kernel
theorem qa_is : pt_is 8 124 21 = true ∧ pt_is 8 124 30 = true ∧ pt_is 8 124 78 = true ∧ pt_is 5 123 12 = true ∧ pt_is 5 123 48 = true ∧ pt_is 5 122 49 = true ∧ pt_is 5 122 64 = true ∧ pt_is 5 122 166 = true ∧ (ct_mt 124).2.2.1 = 5 ∧ (ct_mt 123).2.2.1 = 4 ∧ (ct_mt 122).2.2.1 = 7 := by decide +kernel
noncomputable def qa_oP (r : Nat → Int) : Prop := (0 ≤ r 403 ∧ r 403 ≤ 4095) ∧ (0 ≤ r 404 ∧ r 404 ≤ 3) ∧ (0 ≤ r 70 ∧ r 70 ≤ 3) ∧ wq_ok r
noncomputable def qa_oV (r : Nat → Int) : Int := wq_B (wq_can r (r 70).toNat (r 403).toNat (r 404).toNat)
theorem wq_vq {r : Nat → Int} {s p t : Nat} (hs : r 403 = (s : Int)) (h4 : s < 4096) (hp : p < 4) (ht : r t = (p : Int)) : pt_v r (qa_xl t) = if s.testBit p then 1 else 0 := by
  show ai_op 5 (ai_op 9 (r 403) (r t)) 1 = _
  rw [hs, ht, wq_bit (by omega) (by omega)]
theorem wq_self {r : Nat → Int} (h0 : r 0 = 0) : pt_up r (pt_wc [wa_r 198, wa_i 403] [wa_r 198, wa_i 403]) = r := wa_up_self h0 (fun q hq => by
  have hq : q ∈ [(403, pt_xr (403, 0))] := hq
  rw [List.mem_singleton.mp hq])
theorem wq_sset {r : Nat → Int} {z : Nat} {v : Int} : pt_set r z v z = v := if_pos rfl
theorem qa_oM {n : Nat} (hn : 4 ≤ n) : pt_Met (n + 1 + 1) 124 qaY [wa_r 198, wa_i 403, wa_i 404] (fun r _ => qa_oP r) (wq_pu 402 qa_oV) 1 := by
  refine pt_intro (L0 := [wa_r 198, wa_i 403, wa_i 404, wa_u, wa_u]) (wq_b0 124 (by decide)).2 (by omega) qasys (by
    rw [qa_is.2.2.2.2.2.2.2.2.1]
    rfl) (fun P r M h hp => ?_)
  have h' := h
  obtain ⟨hseg, henv, hrel, -, -, -, -, -, -, -, -, hretb, -⟩ := h'
  refine henv _ _ _ _ _ (fun hE _ => ?_)
  have h0 : r 0 = 0 := hE.1
  obtain ⟨⟨x1, x2⟩, ⟨a1, a2⟩, ⟨q1, q2⟩, o⟩ := hp
  obtain ⟨q, eq⟩ : ∃ q : Nat, r 70 = (q : Int) := ⟨(r 70).toNat, by omega⟩
  obtain ⟨m, ea⟩ : ∃ a : Nat, r 404 = (a : Int) := ⟨(r 404).toNat, by omega⟩
  obtain ⟨s, es⟩ : ∃ s : Nat, r 403 = (s : Int) := ⟨(r 403).toNat, by omega⟩
  have hm : m < 4 := by omega
  have hq : q < 4 := by omega
  have h4 : s < 4096 := by omega
  obtain ⟨om, on', op, oa, ok⟩ := o.2.2.1 m hm
  obtain ⟨p, ep⟩ : ∃ p : Nat, r (135 + m) = (p : Int) := ⟨(r (135 + m)).toNat, by omega⟩
  have ev : qa_oV r = wq_B (!(s.testBit (4 + m)) && (!(decide (r (371 + m) = 0)) || (s.testBit p && decide (r (375 + m) ≤ wq_R r q 4 s (r 75).toNat - wq_S r q 8 s 4)))) := by
    unfold qa_oV wq_can
    rw [eq, ea, es]
    show wq_B (!(s.testBit (4 + m)) && (!(decide (r (371 + m) = 0)) || (s.testBit (r (135 + m)).toNat && _))) = _
    rw [ep]
    rfl
  refine hrel (0, 0, 0) _ (qa_oL m) _ [] r M ⟨rfl, ⟨by show 403 < 502; omega, rfl⟩, ⟨by show 0 < 502; omega, by show r 404 + 0 = r 0 + (m : Int); rw [h0, ea]; omega⟩, trivial, trivial, trivial⟩ trivial ?_
  have vb := wq_vb (m := 4 + m) es (by omega) (by omega)
  have vl := wq_vq (t := 135 + m) es h4 (p := p) (by omega) ep
  obtain ⟨r1, hr1⟩ : ∃ r1, r1 = pt_up r [(70, wq_k q)] := ⟨_, rfl⟩
  have e1 : r1 = r := by
    rw [hr1]
    funext t
    show (if t = 70 then (q : Int) else r t) = r t
    by_cases c : t = 70
    · rw [if_pos c, c, eq]
    · rw [if_neg c]
  have out : ∀ (pc : Nat) (L : List ai_V) (k : Nat) (r2 : Nat → Int), pt_is 8 124 pc = true → (k = 0 ∨ k = 1) → (∀ t, t < 402 → r2 t = r t) → qa_oV r = (k : Int) → P (pc, 0, 0) L [wa_k k] r2 M := fun pc L k r2 b1 b2 b3 b4 => by
    have ek : ai_vx r2 (0, .ofNat k) = (k : Int) := by
      show r2 0 + (k : Int) = _
      rw [b3 0 (by omega), h0, Int.zero_add]
    refine hretb (pc, 0, 0) L (0, .ofNat k) r2 M rfl b1 (Nat.ble_eq_true_of_le (Nat.zero_le _)) (Nat.ble_eq_true_of_le (Nat.zero_le _)) ?_ ⟨by rw [ek, b4], rfl, b3⟩
    rw [ek]
    rcases b2 with rfl | rfl
    · exact Or.inl rfl
    · exact Or.inr rfl
  have low1 : ∀ t, t < 402 → r1 t = r t := fun t _ => by rw [e1]
  have c := List.all_eq_true.mp (List.all_eq_true.mp qa_o_c q (List.mem_range.mpr hq)) m (List.mem_range.mpr hm)
  refine hseg _ _ _ _ _ r M _ _ _ _ _ c ⟨pt_m1 eq, pt_m1 ⟨by show (0 : Int) ≤ r 403; omega, by show r 403 ≤ (4095 : Int); omega⟩, pt_m0⟩ ⟨fun g => ?_, fun g => ?_, fun g => ?_, fun g => ?_, trivial⟩
  · have g1 : 1 ≤ pt_v r (wq_b 403 (4 + m)) := g.1
    rw [vb] at g1
    have b : s.testBit (4 + m) = true := Classical.byContradiction (fun w => by rw [if_neg w] at g1; omega)
    refine out 21 _ 0 _ qa_is.1 (Or.inl rfl) (by rw [← hr1]; exact low1) (by rw [ev, b]; rfl)
  · have g1 : pt_v r (wq_b 403 (4 + m)) ≤ 0 := g.1
    have g2 : 1 ≤ r (371 + m) := g.2.1
    rw [vb] at g1
    have b : s.testBit (4 + m) = false := by
      cases b : s.testBit (4 + m) with
      | false => rfl
      | true => rw [if_pos b] at g1; omega
    refine out 30 _ 1 _ qa_is.2.1 (Or.inr rfl) (by rw [← hr1]; exact low1) (by rw [ev, b, decide_eq_false (by omega)]; rfl)
  · have g1 : pt_v r (wq_b 403 (4 + m)) ≤ 0 := g.1
    have g2 : r (371 + m) ≤ 0 := g.2.1
    have g3 : pt_v r (qa_xl (135 + m)) ≤ 0 := g.2.2.1
    rw [vb] at g1
    rw [vl] at g3
    have b : s.testBit (4 + m) = false := by
      cases b : s.testBit (4 + m) with
      | false => rfl
      | true => rw [if_pos b] at g1; omega
    have b3 : s.testBit p = false := by
      cases b : s.testBit p with
      | false => rfl
      | true => rw [if_pos b] at g3; omega
    refine out 78 _ 0 _ qa_is.2.2.1 (Or.inl rfl) (by rw [← hr1]; exact low1) (by rw [ev, b, b3, decide_eq_true (show r (371 + m) = 0 by omega)]; rfl)
  · have g1 : pt_v r (wq_b 403 (4 + m)) ≤ 0 := g.1
    have g2 : r (371 + m) ≤ 0 := g.2.1
    have g3 : 1 ≤ pt_v r (qa_xl (135 + m)) := g.2.2.1
    rw [vb] at g1
    rw [vl] at g3
    have b : s.testBit (4 + m) = false := by
      cases b : s.testBit (4 + m) with
      | false => rfl
      | true => rw [if_pos b] at g1; omega
    have b3 : s.testBit p = true := Classical.byContradiction (fun w => by rw [if_neg w] at g3; omega)
    have ev2 : qa_oV r = wq_B (decide (r (375 + m) ≤ wq_R r q 4 s (r 75).toNat - wq_S r q 8 s 4)) := by
      rw [ev, b, b3, decide_eq_true (show r (371 + m) = 0 by omega)]
      rfl
    show P (57, 0, 0) (qa_oN m (wa_k 1)) [wa_i 403, wa_r 198] (pt_up r [(70, wq_k q)]) M
    rw [← hr1, e1]
    have ck := List.all_eq_true.mp qa_o_k m (List.mem_range.mpr hm)
    rw [Bool.and_eq_true] at ck
    have c2 := List.all_eq_true.mp qa_o2_c m (List.mem_range.mpr hm)
    rw [Bool.and_eq_true] at c2
    refine wq_cv (S' := []) h (wq_b0 125 (by decide)).1 (by show 402 ≤ 482; omega) (wq_b0 125 (by decide)).2 ck.1 (qa_cM hn) ?_ ?_ ?_
    · rw [wq_self h0]
      exact ⟨⟨x1, x2⟩, q1, q2⟩
    · rw [wq_self h0]
      exact fun t _ => rfl
    rw [wq_self h0]
    have v1 : qa_cV r = wq_R r q 4 s (r 75).toNat := by
      unfold qa_cV
      rw [eq, es]
      rfl
    rw [v1]
    obtain ⟨r2, hr2⟩ : ∃ r2, r2 = pt_set r 482 (wq_R r q 4 s (r 75).toNat) := ⟨_, rfl⟩
    rw [← hr2]
    have n2 : ∀ t, t ≠ 482 → r2 t = r t := fun t ht => by
      rw [hr2]
      exact if_neg ht
    have t0 : r2 482 = wq_R r q 4 s (r 75).toNat := by
      rw [hr2]
      exact wq_sset
    have h02 : r2 0 = 0 := (n2 0 (by omega)).trans h0
    show P (60, 0, 0) (qa_oN m (wa_k 1)) [wa_i 482] r2 M
    refine hseg _ _ _ _ _ r2 M _ _ _ _ _ c2.1 ⟨pt_m0, pt_m0, pt_m0⟩ ⟨fun _ => ?_, trivial⟩
    show P (62, 0, 0) (qa_oN m (wa_k 1)) [wa_i 403, wa_r 198, wa_i 482] r2 M
    refine wq_cv h (wq_b0 126 (by decide)).1 (by show 402 ≤ 483; omega) (wq_b0 126 (by decide)).2 ck.2 (qa_sM hn) ?_ ?_ ?_
    · rw [wq_self h02]
      exact ⟨by rw [n2 _ (by omega)]; exact ⟨x1, x2⟩, by rw [n2 _ (by omega)]; exact ⟨q1, q2⟩⟩
    · rw [wq_self h02]
      exact fun t _ => rfl
    rw [wq_self h02]
    have v2 : qa_sV r2 = wq_S r q 8 s 4 := by
      unfold qa_sV
      rw [n2 70 (by omega), n2 403 (by omega), eq, es]
      show wq_S r2 q 8 s 4 = _
      exact wq_S_c (fun t ht => n2 t (by omega)) hq (by omega)
    rw [v2]
    obtain ⟨r3, hr3⟩ : ∃ r3, r3 = pt_set r2 483 (wq_S r q 8 s 4) := ⟨_, rfl⟩
    rw [← hr3]
    have n3 : ∀ t, t ≠ 483 → r3 t = r2 t := fun t ht => by
      rw [hr3]
      exact if_neg ht
    have t1 : r3 483 = wq_S r q 8 s 4 := by
      rw [hr3]
      exact wq_sset
    have t03 : r3 482 = wq_R r q 4 s (r 75).toNat := (n3 _ (by omega)).trans t0
    have l3 : ∀ t, t < 402 → r3 t = r t := fun t ht => (n3 t (by omega)).trans (n2 t (by omega))
    have bR := wq_R_b o (q := q) (x := 4) (y := s) hq (m := (r 75).toNat) (by have := o.2.2.2.2.2.1; omega)
    have bS := wq_S_b o (q := q) (x := 8) (y := s) hq (m := 4) (by omega)
    have sub : ai_op 1 (r3 482) (r3 483) = wq_R r q 4 s (r 75).toNat - wq_S r q 8 s 4 := by
      have := o.2.2.2.2.2.1
      rw [t03, t1, wq_o1 (by omega) (by omega)]
    show P (65, 0, 0) (qa_oN m (wa_k 1)) [wa_i 483, wa_i 482] r3 M
    refine hseg _ _ _ _ _ r3 M _ _ _ _ _ c2.2 ⟨pt_m0, pt_m0, pt_m0⟩ ⟨fun g => ?_, fun g => ?_, trivial⟩
    · have g5 : ai_op 1 (r3 482) (r3 483) ≤ r3 (375 + m) + -1 := g.1
      rw [sub, l3 _ (by omega)] at g5
      exact out 78 _ 0 _ qa_is.2.2.1 (Or.inl rfl) l3 (by rw [ev2, decide_eq_false (by omega)]; rfl)
    · have g5 : r3 (375 + m) ≤ ai_op 1 (r3 482) (r3 483) := g.1
      rw [sub, l3 _ (by omega)] at g5
      exact out 78 _ 1 _ qa_is.2.2.1 (Or.inr rfl) l3 (by rw [ev2, decide_eq_true g5]; rfl)
