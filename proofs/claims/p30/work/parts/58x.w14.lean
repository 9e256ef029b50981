/-! WAY: behindLine (the class) -/
/-- the state behind an act (the class): the same, if it can't be -/
noncomputable def wq_U (r : Nat → Int) (q s a : Nat) : Nat :=
  if a < 4 then (if r 75 ≤ (a : Int) then s else if wq_can r q s a = true then s ||| 2 ^ (4 + a) ||| 2 ^ (r (135 + a)).toNat else s)
  else if a < 9 then (if r 74 ≤ ((a - 4 : Nat) : Int) then s else if s &&& (2 ^ (r (115 + (a - 4))).toNat ||| 2 ^ (r (120 + (a - 4))).toNat) = 0 then s else s ||| (2 ^ (r (115 + (a - 4))).toNat ||| 2 ^ (r (120 + (a - 4))).toNat))
  else (if r 73 ≤ ((a - 9 : Nat) : Int) then s else if ¬ s.testBit (a - 9) = true then s else if s.testBit (8 + (a - 9)) = true then s else if wq_R r q 4 s (r 75).toNat < wq_S r q 8 s 4 + r (171 + (4 * (a - 9) + q)) then s else s ||| 2 ^ (8 + (a - 9)))
noncomputable def qa_nL (l : Nat) (u : ai_V) : List ai_V := [wa_r 198, wa_i 403, wa_k l, u]
noncomputable def qa_x3 (l : Nat) : pt_X := [(1, 0, 1), (0, 115 + l, 0), (2, 8, 0), (1, 0, 1), (0, 120 + l, 0), (2, 8, 0), (2, 6, 0)]
noncomputable def qa_x5 (o l : Nat) : pt_X := [(0, 403, 0), (1, 0, 1), (0, 115 + l, 0), (2, 8, 0), (1, 0, 1), (0, 120 + l, 0), (2, 8, 0), (2, 6, 0), (2, o, 0)]
noncomputable def qa_nE (l : Nat) : List pt_E := [((12, 0, 0), (qa_nL l wa_u, [wa_i 403]), [], [(0, wq_p 74, wq_k l)]),
  ((48, 0, 0), (qa_nL l (wa_i 405), [wa_i 403]), [(405, qa_x3 l)], [(0, wq_k (l + 1), wq_p 74), (0, qa_x5 5 l, wq_k 0)]),
  ((48, 0, 0), (qa_nL l (wa_i 405), [wa_i 482]), [(405, qa_x3 l), (482, qa_x5 6 l)], [(0, wq_k (l + 1), wq_p 74), (0, wq_k 1, qa_x5 5 l)])]
theorem qa_n_c : (List.range 5).all (fun l => pt_row qaY 123 [12, 48] true (0, 0, 0) (qa_nL l wa_u) [] [] [(403, (0, 4095))] [] [] (qa_nE l)) = true := by decide +kernel
noncomputable def qa_nP (r : Nat → Int) : Prop := (0 ≤ r 403 ∧ r 403 ≤ 4095) ∧ (0 ≤ r 404 ∧ r 404 ≤ 4) ∧ wq_ok r
noncomputable def wq_Ul (r : Nat → Int) (s l : Nat) : Nat := if r 74 ≤ (l : Int) then s else if s &&& (2 ^ (r (115 + l)).toNat ||| 2 ^ (r (120 + l)).toNat) = 0 then s else s ||| (2 ^ (r (115 + l)).toNat ||| 2 ^ (r (120 + l)).toNat)
noncomputable def qa_nV (r : Nat → Int) : Int := (wq_Ul r (r 403).toNat (r 404).toNat : Int)
theorem qa_nM {n : Nat} (hn : 4 ≤ n) : pt_Met (n + 1) 123 qaY [wa_r 198, wa_i 403, wa_i 404] (fun r _ => qa_nP r) (wq_pu 402 qa_nV) 1 := by
  refine pt_intro (L0 := [wa_r 198, wa_i 403, wa_i 404, wa_u]) (wq_b0 123 (by decide)).2 (by omega) qasys (by
    rw [qa_is.2.2.2.2.2.2.2.2.2.1]
    rfl) (fun P r M h hp => ?_)
  obtain ⟨hseg, henv, hrel, -, -, -, -, -, -, -, hret, -⟩ := h
  refine henv _ _ _ _ _ (fun hE _ => ?_)
  have h0 : r 0 = 0 := hE.1
  obtain ⟨⟨x1, x2⟩, ⟨a1, a2⟩, o⟩ := hp
  obtain ⟨l, ea⟩ : ∃ a : Nat, r 404 = (a : Int) := ⟨(r 404).toNat, by omega⟩
  obtain ⟨s, es⟩ : ∃ s : Nat, r 403 = (s : Int) := ⟨(r 403).toNat, by omega⟩
  have hl : l < 5 := by omega
  have h4 : s < 4096 := by omega
  obtain ⟨of', ot⟩ := o.2.2.2.1 l hl
  obtain ⟨x, ex⟩ : ∃ x : Nat, r (115 + l) = (x : Int) := ⟨(r (115 + l)).toNat, by omega⟩
  obtain ⟨y, ey⟩ : ∃ y : Nat, r (120 + l) = (y : Int) := ⟨(r (120 + l)).toNat, by omega⟩
  have ev : qa_nV r = ((if r 74 ≤ (l : Int) then s else if s &&& (2 ^ x ||| 2 ^ y) = 0 then s else s ||| (2 ^ x ||| 2 ^ y) : Nat) : Int) := by
    unfold qa_nV wq_Ul
    rw [ea, es]
    show ((if r 74 ≤ (l : Int) then s else if s &&& (2 ^ (r (115 + l)).toNat ||| 2 ^ (r (120 + l)).toNat) = 0 then s else s ||| (2 ^ (r (115 + l)).toNat ||| 2 ^ (r (120 + l)).toNat) : Nat) : Int) = _
    rw [ex, ey]
    rfl
  have p1 := wq_p2 (j := x) (by omega)
  have p2 := wq_p2 (j := y) (by omega)
  have po := wq_or p1 p2
  have v3 : ai_op 6 (ai_op 8 1 (r (115 + l))) (ai_op 8 1 (r (120 + l))) = ((2 ^ x ||| 2 ^ y : Nat) : Int) := by
    rw [wq_sh ex (by omega), wq_sh ey (by omega), wq_o6 (by omega) (by omega)]
  have v5 : pt_v r (qa_x5 5 l) = ((s &&& (2 ^ x ||| 2 ^ y) : Nat) : Int) := by
    show ai_op 5 (r 403) (ai_op 6 (ai_op 8 1 (r (115 + l))) (ai_op 8 1 (r (120 + l)))) = _
    rw [v3, es, wq_o5 (by omega) (by omega)]
  have v6 : pt_v r (qa_x5 6 l) = ((s ||| (2 ^ x ||| 2 ^ y) : Nat) : Int) := by
    show ai_op 6 (r 403) (ai_op 6 (ai_op 8 1 (r (115 + l))) (ai_op 8 1 (r (120 + l)))) = _
    rw [v3, es, wq_o6 (by omega) (by omega)]
  refine hrel (0, 0, 0) _ (qa_nL l wa_u) _ [] r M ⟨rfl, ⟨by show 403 < 502; omega, rfl⟩, ⟨by show 0 < 502; omega, by show r 404 + 0 = r 0 + (l : Int); rw [h0, ea]; omega⟩, trivial, trivial⟩ trivial ?_
  have back : ∀ (pc : Nat) (L : List ai_V) (x : ai_X) (r2 : Nat → Int) (v : Int), pt_is 5 123 pc = true → (∀ t, t < 402 → r2 t = r t) → ai_vx r2 x = v → v = qa_nV r → P (pc, 0, 0) L [.inl x] r2 M := fun pc L x r2 v b1 b2 b3 b4 => hret (pc, 0, 0) L x r2 M rfl b1 (Nat.ble_eq_true_of_le (Nat.zero_le _)) (Nat.ble_eq_true_of_le (Nat.zero_le _)) ⟨by rw [b3, b4], rfl, b2⟩
  have c := List.all_eq_true.mp qa_n_c l (List.mem_range.mpr hl)
  refine hseg _ _ _ _ _ r M _ _ _ _ _ c ⟨pt_m0, pt_m1 ⟨by show (0 : Int) ≤ r 403; omega, by show r 403 ≤ (4095 : Int); omega⟩, pt_m0⟩ ⟨fun g => ?_, fun g => ?_, fun g => ?_, trivial⟩
  · have g1 : r 74 ≤ (l : Int) := g.1
    exact back 12 _ _ _ (s : Int) qa_is.2.2.2.1 (fun _ _ => rfl) (by show r 403 + 0 = _; omega) (by rw [ev, if_pos g1])
  · have g1 : ((l + 1 : Nat) : Int) ≤ r 74 := g.1
    have g2 : pt_v r (qa_x5 5 l) ≤ 0 := g.2.1
    rw [v5] at g2
    exact back 48 _ _ _ (s : Int) qa_is.2.2.2.2.1 (fun t ht => if_neg (by show ¬ t = 405; omega)) (by show r 403 + 0 = _; omega) (by rw [ev, if_neg (by omega), if_pos (by omega)])
  · have g1 : ((l + 1 : Nat) : Int) ≤ r 74 := g.1
    have g2 : 1 ≤ pt_v r (qa_x5 5 l) := g.2.1
    rw [v5] at g2
    refine back 48 _ _ _ ((s ||| (2 ^ x ||| 2 ^ y) : Nat) : Int) qa_is.2.2.2.2.1 (fun t ht => ?_) (show pt_v r (qa_x5 6 l) + 0 = _ by rw [Int.add_zero, v6]) (by rw [ev, if_neg (by omega), if_neg (by omega)])
    show (if t = 405 then _ else if t = 482 then _ else r t) = r t
    rw [if_neg (by omega), if_neg (by omega)]
