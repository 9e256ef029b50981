/-! WAY: trace (the class) -/
noncomputable def qa_tL (u : ai_V) : List ai_V := [wa_r 198, wa_i 403, wa_i 404, wa_i 405, u]
noncomputable def qa_xd : pt_X := [(0, 69, 0), (3, 0, -1), (0, 405, 0), (2, 1, 0)]
theorem qa_t_c1 : pt_row qaY 121 [9] true (0, 0, 0) [wa_r 198, wa_i 403, wa_u, wa_u, wa_u] [] [] [] [] [] [((9, 0, 0), (qa_tL wa_u, []), [(69, wq_k 0), (404, wq_p 403), (405, wq_k 0)], [])] = true ∧
    pt_row qaY 121 [39, 69] true (9, 0, 0) (qa_tL wa_u) [] [] [(404, (1, 4095)), (405, (0, 12))] [] [] [((39, 0, 0), (qa_tL wa_u, [wa_i 404, wa_r 201, wa_i 69, wa_r 199]), [], [])] = true ∧
    pt_row qaY 121 [39, 69] true (9, 0, 0) (qa_tL wa_u) [] [] [(404, (0, 0)), (405, (0, 12))] [] [] [((69, 0, 0), (qa_tL wa_u, []), [], [])] = true ∧
    pt_row qaY 121 [43] false (40, 0, 0) (qa_tL wa_u) [wa_i 482, wa_i 69, wa_r 199] [] [] [] [] [((43, 0, 0), (qa_tL wa_u, [wa_i 483, wa_i 69, wa_r 199]), [(483, [(0, 482, 0), (1, 0, 15), (2, 5, 0)])], [])] = true ∧
    pt_row qaY 121 [59] false (44, 0, 0) (qa_tL wa_u) [] [] [(69, (0, 12))] [] [] [((59, 0, 0), (qa_tL wa_u, [wa_i 404, wa_r 201]), [(69, [(0, 69, 0), (3, 0, 1)])], [])] = true ∧
    pt_row qaY 121 [9] false (60, 0, 0) (qa_tL wa_u) [wa_i 482] [] [(405, (0, 12))] [] [] [((9, 0, 0), (qa_tL wa_u, []), [(404, [(0, 482, 0), (1, 0, 4), (2, 9, 0)]), (405, [(0, 405, 0), (3, 0, 1)])], [])] = true := by decide +kernel
theorem qa_t_c2 : pt_row qaY 121 [71] false (69, 0, 0) (qa_tL wa_u) [] [] [] [] [] [((71, 0, 0), (qa_tL wa_u, []), [(405, wq_k 0)], [])] = true ∧
    pt_row qaY 121 [86, 133] true (71, 0, 0) (qa_tL wa_u) [] [] [(69, (0, 13)), (405, (0, 13))] [] [] [((133, 0, 0), (qa_tL wa_u, [wa_i 69]), [], [(0, [(0, 69, 0), (1, 0, 2), (2, 3, 0)], wq_p 405)]), ((86, 0, 0), (qa_tL wa_u, [wa_i 405, wa_r 199]), [], [(0, wq_p 405, [(0, 69, 0), (1, 0, 2), (2, 3, 0), (3, 0, -1)])])] = true ∧
    pt_row qaY 121 [106] false (87, 0, 0) (qa_tL wa_u) [wa_i 482] [] [(69, (0, 13)), (405, (0, 13))] [] [] [((106, 0, 0), (qa_tL (wa_i 406), [wa_i 483, wa_r 199, wa_i 405, wa_r 199]), [(406, wq_p 482), (483, qa_xd)], [])] = true ∧
    pt_row qaY 121 [122] false (108, 0, 0) (qa_tL (wa_i 406)) [] [] [(69, (0, 13)), (405, (0, 13))] [] [] [((122, 0, 0), (qa_tL (wa_i 406), [wa_i 406, wa_i 483, wa_r 199]), [(483, qa_xd)], [])] = true ∧
    pt_row qaY 121 [71] false (123, 0, 0) (qa_tL (wa_i 406)) [] [] [(405, (0, 12))] [] [] [((71, 0, 0), (qa_tL wa_u, []), [(405, [(0, 405, 0), (3, 0, 1)])], [])] = true := by decide +kernel
theorem qa_t_k : (pt_lck qaY 121 39 1 201 4096 0 482 (qa_tL wa_u) [wa_i 69, wa_r 199] = true ∧ pt_sck qaY 121 43 2 199 13 0 = true ∧ pt_lck qaY 121 59 1 201 4096 0 482 (qa_tL wa_u) [] = true ∧ pt_lck qaY 121 86 1 199 13 0 482 (qa_tL wa_u) [] = true) ∧ pt_lck qaY 121 106 1 199 13 0 482 (qa_tL (wa_i 406)) [wa_i 405, wa_r 199] = true ∧ pt_sck qaY 121 107 2 199 13 0 = true ∧ pt_sck qaY 121 122 2 199 13 0 = true ∧ pt_is 5 121 133 = true ∧ (ct_mt 121).2.2.1 = 5 := by decide +kernel
theorem wq_o3 : ∀ N, N < 14 → ai_op 3 (Int.ofNat N) 2 = Int.ofNat (N / 2) := by decide +kernel
theorem wq_d16 {s a : Nat} (hs : s < 4096) (ha : a < 13) : ai_op 5 ((16 * s + a : Nat) : Int) 15 = (a : Int) ∧ ai_op 9 ((16 * s + a : Nat) : Int) 4 = (s : Int) := by
  constructor
  · have := wq_o5 (x := 16 * s + a) (y := 15) (by omega) (by omega)
    refine Eq.trans this ?_
    have e : (16 * s + a) &&& 15 = a := by
      have := Nat.and_two_pow_sub_one_eq_mod (16 * s + a) 4
      have h15 : 2 ^ 4 - 1 = 15 := rfl
      rw [h15] at this
      rw [this]
      omega
    rw [e]
  · have := wq_o9 (x := 16 * s + a) (j := 4) (by omega) (by omega)
    refine Eq.trans this ?_
    have e : (16 * s + a) / 2 ^ 4 = s := by omega
    rw [e]
/-- the frame of a trace -/
noncomputable def qa_tI (r0 : Nat → Int) (M0 : Nat → Nat → Int) (r : Nat → Int) (M : Nat → Nat → Int) : Prop := (∀ t, t < 402 → t ≠ 69 → r t = r0 t) ∧ ∀ z, z ≠ 199 → M z = M0 z
section QAT
variable {n : Nat} {Z : (Nat → Int) → (Nat → Nat → Int) → Option Int → Prop} {P : pt_P} {r0 : Nat → Int} {M0 : Nat → Nat → Int} {N : Nat} {σ α : Nat → Nat}
theorem qa_tloop2 (h : pt_Cl n 121 qaY 1 Z P) (hN : N ≤ 12) (hα : ∀ k, k < N → α k < 13) (hz : ∀ r2 M2, qa_tI r0 M0 r2 M2 → r2 69 = (N : Int) → M2 199 = (fun x => if x < N then (α x : Int) else M0 199 x) → Z r2 M2 (some (N : Int))) :
    ∀ (k i : Nat) (r : Nat → Int) (M : Nat → Nat → Int), i + k = N / 2 → qa_tI r0 M0 r M → r 69 = (N : Int) → r 405 = (i : Int) → (∀ x, M 199 x = if x < N then (if x < i ∨ N - 1 - x < i then (α x : Int) else (α (N - 1 - x) : Int)) else M0 199 x) → P (71, 0, 0) (qa_tL wa_u) [] r M := by
  obtain ⟨hseg, henv, -, -, hld, -, hst, -, -, -, hret, -, -, -⟩ := h
  obtain ⟨c1, c2, c3, c4, c5⟩ := qa_t_c2
  obtain ⟨-, k5, k6, k7, k8, k9⟩ := qa_t_k
  have o3 : ai_op 3 (N : Int) 2 = ((N / 2 : Nat) : Int) := wq_o3 N (by omega)
  intro k
  induction k with
  | zero =>
    intro i r M hi I e1 e2 e3
    refine hseg _ _ _ _ _ r M _ _ _ _ _ c2 ⟨pt_m0, pt_m2 ⟨by show (0 : Int) ≤ r 69; omega, by show r 69 ≤ (13 : Int); omega⟩ ⟨by show (0 : Int) ≤ r 405; omega, by show r 405 ≤ (13 : Int); omega⟩, pt_m0⟩ ⟨fun _ => ?_, fun g => ?_, trivial⟩
    · refine hret (133, 0, 0) _ (69, 0) r M rfl k8 (Nat.ble_eq_true_of_le (Nat.zero_le _)) (Nat.ble_eq_true_of_le (Nat.zero_le _)) ?_
      have ev : ai_vx r (69, 0) = (N : Int) := by
        show r 69 + 0 = _
        omega
      rw [ev]
      refine hz r M I e1 (funext fun x => ?_)
      rw [e3]
      by_cases w : x < N
      · rw [if_pos w, if_pos w]
        by_cases w2 : x < i ∨ N - 1 - x < i
        · rw [if_pos w2]
        · rw [if_neg w2, show N - 1 - x = x by omega]
      · rw [if_neg w, if_neg w]
    · have g1 : r 405 ≤ ai_op 3 (r 69) 2 + -1 := g.1
      rw [e1, o3] at g1
      omega
  | succ k ih =>
    intro i r M hi I e1 e2 e3
    refine hseg _ _ _ _ _ r M _ _ _ _ _ c2 ⟨pt_m0, pt_m2 ⟨by show (0 : Int) ≤ r 69; omega, by show r 69 ≤ (13 : Int); omega⟩ ⟨by show (0 : Int) ≤ r 405; omega, by show r 405 ≤ (13 : Int); omega⟩, pt_m0⟩ ⟨fun g => ?_, fun _ => ?_, trivial⟩
    · have g1 : ai_op 3 (r 69) 2 ≤ r 405 := g.1
      rw [e1, o3] at g1
      omega
    refine hld (86, 0, 0) _ [] r M 199 13 482 i (405, 0) qa_t_k.1.2.2.2 (by omega) (by show r 405 + 0 = _; omega) ?_
    have v0 : M 199 i = (α (N - 1 - i) : Int) := by
      rw [e3, if_pos (by omega), if_neg (by omega)]
    rw [v0]
    obtain ⟨r1, hr1⟩ : ∃ r1, r1 = pt_set r 482 (α (N - 1 - i) : Int) := ⟨_, rfl⟩
    rw [← hr1]
    have n1 : ∀ t, t ≠ 482 → r1 t = r t := fun t ht => by
      rw [hr1]
      exact if_neg ht
    have l1 : r1 69 = (N : Int) := (n1 _ (by omega)).trans e1
    have i1 : r1 405 = (i : Int) := (n1 _ (by omega)).trans e2
    have xd : ∀ r2 : Nat → Int, r2 69 = (N : Int) → r2 405 = (i : Int) → pt_v r2 qa_xd = ((N - 1 - i : Nat) : Int) := fun r2 f1 f2 => by
      show ai_op 1 (r2 69 + -1) (r2 405) = _
      rw [f1, f2, wq_o1 (by omega) (by omega)]
      omega
    refine hseg _ _ _ _ _ r1 M _ _ _ _ _ c3 ⟨pt_m0, pt_m2 ⟨by show (0 : Int) ≤ r1 69; omega, by show r1 69 ≤ (13 : Int); omega⟩ ⟨by show (0 : Int) ≤ r1 405; omega, by show r1 405 ≤ (13 : Int); omega⟩, pt_m0⟩ ⟨fun _ => ?_, trivial⟩
    obtain ⟨r2, hr2⟩ : ∃ r2, r2 = pt_up r1 [(406, wq_p 482), (483, qa_xd)] := ⟨_, rfl⟩
    show P (106, 0, 0) (qa_tL (wa_i 406)) [wa_i 483, wa_r 199, wa_i 405, wa_r 199] (pt_up r1 [(406, wq_p 482), (483, qa_xd)]) M
    rw [← hr2]
    have n2 : ∀ t, t ≠ 406 → t ≠ 483 → r2 t = r1 t := fun t h1 h2 => by
      rw [hr2]
      show (if t = 406 then _ else if t = 483 then _ else r1 t) = r1 t
      rw [if_neg h1, if_neg h2]
    have a2 : r2 406 = (α (N - 1 - i) : Int) := by
      rw [hr2]
      show r1 482 = _
      rw [hr1]
      exact wq_sset
    have d2 : r2 483 = ((N - 1 - i : Nat) : Int) := by
      rw [hr2]
      exact xd r1 l1 i1
    refine hld (106, 0, 0) _ [wa_i 405, wa_r 199] r2 M 199 13 482 (N - 1 - i) (483, 0) k5 (by omega) (by show r2 483 + 0 = _; omega) ?_
    have v1 : M 199 (N - 1 - i) = (α i : Int) := by
      rw [e3, if_pos (by omega), if_neg (by omega), show N - 1 - (N - 1 - i) = i by omega]
    rw [v1]
    obtain ⟨r3, hr3⟩ : ∃ r3, r3 = pt_set r2 482 (α i : Int) := ⟨_, rfl⟩
    rw [← hr3]
    have n3 : ∀ t, t ≠ 482 → r3 t = r2 t := fun t ht => by
      rw [hr3]
      exact if_neg ht
    refine hst (107, 0, 0) _ [] r3 M 199 13 i (405, 0) (482, 0) k6 (by omega) (by show r3 405 + 0 = _; rw [n3 _ (by omega), n2 _ (by omega) (by omega)]; omega) ?_
    have v3 : ai_vx r3 (482, 0) = (α i : Int) := by
      show r3 482 + 0 = _
      rw [hr3, wq_sset, Int.add_zero]
    rw [v3]
    obtain ⟨M3, hM3⟩ : ∃ M3, M3 = pt_sto M 199 i (α i : Int) := ⟨_, rfl⟩
    rw [← hM3]
    have l3 : r3 69 = (N : Int) := by rw [n3 _ (by omega), n2 _ (by omega) (by omega), l1]
    have i3 : r3 405 = (i : Int) := by rw [n3 _ (by omega), n2 _ (by omega) (by omega), i1]
    refine hseg _ _ _ _ _ r3 M3 _ _ _ _ _ c4 ⟨pt_m0, pt_m2 ⟨by show (0 : Int) ≤ r3 69; omega, by show r3 69 ≤ (13 : Int); omega⟩ ⟨by show (0 : Int) ≤ r3 405; omega, by show r3 405 ≤ (13 : Int); omega⟩, pt_m0⟩ ⟨fun _ => ?_, trivial⟩
    obtain ⟨r4, hr4⟩ : ∃ r4, r4 = pt_up r3 [(483, qa_xd)] := ⟨_, rfl⟩
    show P (122, 0, 0) (qa_tL (wa_i 406)) [wa_i 406, wa_i 483, wa_r 199] (pt_up r3 [(483, qa_xd)]) M3
    rw [← hr4]
    have n4 : ∀ t, t ≠ 483 → r4 t = r3 t := fun t ht => by
      rw [hr4]
      exact if_neg ht
    have d4 : r4 483 = ((N - 1 - i : Nat) : Int) := by
      rw [hr4]
      exact xd r3 l3 i3
    refine hst (122, 0, 0) _ [] r4 M3 199 13 (N - 1 - i) (483, 0) (406, 0) k7 (by omega) (by show r4 483 + 0 = _; omega) ?_
    have v4 : ai_vx r4 (406, 0) = (α (N - 1 - i) : Int) := by
      show r4 406 + 0 = _
      rw [n4 _ (by omega), n3 _ (by omega), a2, Int.add_zero]
    rw [v4]
    obtain ⟨M4, hM4⟩ : ∃ M4, M4 = pt_sto M3 199 (N - 1 - i) (α (N - 1 - i) : Int) := ⟨_, rfl⟩
    rw [← hM4]
    refine hseg _ _ _ _ _ r4 M4 _ _ _ _ _ c5 ⟨pt_m0, pt_m1 ⟨by show (0 : Int) ≤ r4 405; rw [n4 _ (by omega)]; omega, by show r4 405 ≤ (12 : Int); rw [n4 _ (by omega)]; omega⟩, pt_m0⟩ ⟨fun _ => ?_, trivial⟩
    obtain ⟨r5, hr5⟩ : ∃ r5, r5 = pt_up r4 [(405, [(0, 405, 0), (3, 0, 1)])] := ⟨_, rfl⟩
    show P (71, 0, 0) (qa_tL wa_u) [] (pt_up r4 [(405, [(0, 405, 0), (3, 0, 1)])]) M4
    rw [← hr5]
    have n5 : ∀ t, t ≠ 405 → r5 t = r4 t := fun t ht => by
      rw [hr5]
      exact if_neg ht
    have low : ∀ t, t < 402 → r5 t = r t := fun t ht => by rw [n5 t (by omega), n4 t (by omega), n3 t (by omega), n2 t (by omega) (by omega), n1 t (by omega)]
    refine ih (i + 1) r5 M4 (by omega) ⟨fun t h1 h2 => (low t h1).trans (I.1 t h1 h2), fun z hz' => ?_⟩ ((low _ (by omega)).trans e1) (by rw [hr5]; show r4 405 + 1 = _; rw [n4 _ (by omega)]; omega) (fun x => ?_)
    · rw [← I.2 z hz']
      funext x
      rw [hM4, hM3]
      show (if z = 199 ∧ x = N - 1 - i then _ else if z = 199 ∧ x = i then _ else M z x) = _
      rw [if_neg (fun w => hz' w.1), if_neg (fun w => hz' w.1)]
    · have ex : M4 199 x = if x = N - 1 - i then (α (N - 1 - i) : Int) else if x = i then (α i : Int) else M 199 x := by
        rw [hM4, hM3]
        show (if 199 = 199 ∧ x = N - 1 - i then _ else if 199 = 199 ∧ x = i then _ else M 199 x) = _
        by_cases w : x = N - 1 - i
        · rw [if_pos ⟨rfl, w⟩, if_pos w]
        · rw [if_neg (fun z => w z.2), if_neg w]
          by_cases w2 : x = i
          · rw [if_pos ⟨rfl, w2⟩, if_pos w2]
          · rw [if_neg (fun z => w2 z.2), if_neg w2]
      rw [ex]
      by_cases w : x = N - 1 - i
      · rw [if_pos w, if_pos (show x < N by omega), if_pos (show x < i + 1 ∨ N - 1 - x < i + 1 by omega), w]
      · rw [if_neg w]
        by_cases w2 : x = i
        · rw [if_pos w2, if_pos (show x < N by omega), if_pos (show x < i + 1 ∨ N - 1 - x < i + 1 by omega), w2]
        · rw [if_neg w2, e3]
          by_cases w3 : x < N
          · rw [if_pos w3, if_pos w3]
            by_cases w4 : x < i ∨ N - 1 - x < i
            · rw [if_pos w4, if_pos (show x < i + 1 ∨ N - 1 - x < i + 1 by omega)]
            · rw [if_neg w4, if_neg (show ¬ (x < i + 1 ∨ N - 1 - x < i + 1) by omega)]
          · rw [if_neg w3, if_neg w3]
end QAT
