/-! WAY: reachOfOn, servedLoad (the class) -/
noncomputable def qa_cL (q m : Nat) : List ai_V := [wa_r 198, wa_i 403, wa_i 404, wa_k m]
noncomputable def qa_cE (q m : Nat) : List pt_E := [((4, 0, 0), (qa_cL q (m + 1), []), [(70, wq_k q)], [(0, wq_b 403 (4 + m), wq_k 0)]),
  ((4, 0, 0), (qa_cL q (m + 1), []), [(404, [(0, 404, 0), (0, 147 + m, 0), (2, 0, 0)]), (70, wq_k q)], [(0, wq_k 1, wq_b 403 (4 + m)), (0, [(0, 139 + m, 0)], wq_k 2)]),
  ((4, 0, 0), (qa_cL q (m + 1), []), [(404, [(0, 404, 0), (0, 147 + m, 0), (0, 187 + (4 * m + q), 0), (2, 12, 0), (2, 0, 0)]), (70, wq_k q)], [(0, wq_k 1, wq_b 403 (4 + m)), (0, wq_k 3, [(0, 139 + m, 0)]), (0, [(0, 139 + m, 0)], wq_k 3)])]
theorem qa_c_c : (List.range 4).all (fun q => (List.range 4).all (fun m => pt_row qaY 125 [4, 60] true (4, 0, 0) (qa_cL q m) [] [(70, .ofNat q)] [(75, (.ofNat (m + 1), 4)), (403, (0, 4095))] [] [] (qa_cE q m))) = true := by decide +kernel
theorem qa_c_x : (List.range 4).all (fun q => (List.range 5).all (fun m => pt_row qaY 125 [4, 60] true (4, 0, 0) (qa_cL q m) [] [] [(75, (0, .ofNat m))] [] [] [((60, 0, 0), (qa_cL q m, [wa_i 404]), [], [])])) = true := by decide +kernel
theorem qa_c_i : (List.range 4).all (fun q => pt_row qaY 125 [4] true (0, 0, 0) [wa_r 198, wa_i 403, wa_u, wa_u] [] [] [] [] [] [((4, 0, 0), (qa_cL q 0, []), [(404, wq_k 0)], [])]) = true := by decide +kernel
theorem qa_c_is : pt_is 5 125 60 = true ∧ (ct_mt 125).2.2.1 = 4 := by decide +kernel
theorem qa_c_loop {n : Nat} {Z : (Nat → Int) → (Nat → Nat → Int) → Option Int → Prop} {P : pt_P} {M : Nat → Nat → Int} (h : pt_Cl n 125 qaY 1 Z P) {q x mc : Nat} (hq : q < 4) (hx : x < 4096) (hmc : mc ≤ 4) : ∀ (d m : Nat) (r : Nat → Int), m + d = mc → ai_gE r qaE → r 403 = (x : Int) → r 75 = (mc : Int) ∧ r 70 = (q : Int) → r 404 = wq_R r q 4 x m → (∀ r2, (∀ t, t < 402 → r2 t = r t) → Z r2 M (some (wq_R r q 4 x mc))) → P (4, 0, 0) (qa_cL q m) [] r M := by
  obtain ⟨hseg, henv, -, -, -, -, -, -, -, -, hret, -, -, -⟩ := h
  intro d
  induction d with
  | zero =>
    intro m r hm hE hb hk h3 hz
    have hm : m = mc := by omega
    subst hm
    have c := List.all_eq_true.mp (List.all_eq_true.mp qa_c_x q (List.mem_range.mpr hq)) m (List.mem_range.mpr (by omega))
    refine hseg _ _ _ _ _ r M _ _ _ _ _ c ⟨pt_m0, pt_m1 ⟨by show (0 : Int) ≤ r 75; have := hk.1; omega, by show r 75 ≤ (m : Int); have := hk.1; omega⟩, pt_m0⟩ ⟨fun _ => ?_, trivial⟩
    refine hret (60, 0, 0) _ (404, 0) _ M rfl qa_c_is.1 (Nat.ble_eq_true_of_le (Nat.zero_le _)) (Nat.ble_eq_true_of_le (Nat.zero_le _)) ?_
    have := hz r (fun _ _ => rfl)
    rw [← h3] at this
    show Z r M (some (r 404 + 0))
    rw [Int.add_zero]
    exact this
  | succ d ih =>
    intro m r hm hE hb hk h3 hz
    have c := List.all_eq_true.mp (List.all_eq_true.mp qa_c_c q (List.mem_range.mpr hq)) m (List.mem_range.mpr (by omega))
    have qq : (q : Int) = r 70 := hk.2.symm
    have vb := wq_vb (m := 4 + m) hb (by omega) (by omega)
    have go : ∀ (W : List (Nat × pt_X)) (v : Int), (∀ t, t ≠ 404 → pt_up r W t = r t) → pt_up r W 404 = v → wq_R r q 4 x (m + 1) = v → P (4, 0, 0) (qa_cL q (m + 1)) [] (pt_up r W) M := fun W v w1 w2 w3 => by
      have low : ∀ t, t < 402 → pt_up r W t = r t := fun t ht => w1 t (by omega)
      refine henv _ _ _ _ _ (fun hE2 _ => ?_)
      refine ih (m + 1) _ (by omega) hE2 ((w1 _ (by omega)).trans hb) ⟨(low _ (by omega)).trans hk.1, (low _ (by omega)).trans hk.2⟩ (by rw [w2, wq_R_c (fun t ht => low t (by omega)) hq (by omega), w3]) (fun r2 h2 => ?_)
      rw [wq_R_c (fun t ht => low t (by omega)) hq hmc]
      exact hz r2 (fun t ht => (h2 t ht).trans (low t ht))
    refine hseg _ _ _ _ _ r M _ _ _ _ _ c ⟨pt_m1 hk.2, pt_m2 ⟨by show ((m + 1 : Nat) : Int) ≤ r 75; have := hk.1; omega, by show r 75 ≤ (4 : Int); have := hk.1; omega⟩ ⟨by show (0 : Int) ≤ r 403; omega, by show r 403 ≤ (4095 : Int); omega⟩, pt_m0⟩ ⟨fun g => ?_, fun g => ?_, fun g => ?_, trivial⟩
    · have g1 : pt_v r (wq_b 403 (4 + m)) ≤ 0 := g.1
      rw [vb] at g1
      refine go _ _ (fun t _ => by
        by_cases e : t = 70
        · subst e
          exact qq
        · exact if_neg e) rfl ?_
      unfold wq_R
      rw [if_neg (fun w => by rw [if_pos w] at g1; omega)]
      exact h3.symm
    · have g1 : 1 ≤ pt_v r (wq_b 403 (4 + m)) := g.1
      have g2 : r (139 + m) ≤ 2 := g.2.1
      rw [vb] at g1
      refine go _ _ (fun t ht => by
        by_cases e : t = 70
        · subst e
          exact qq
        · exact (if_neg ht).trans (if_neg e)) (if_pos rfl) ?_
      unfold wq_R
      rw [if_pos (Classical.byContradiction (fun w => by rw [if_neg w] at g1; omega)), ← h3]
      unfold wq_rc
      rw [if_neg (by omega)]
      rfl
    · have g1 : 1 ≤ pt_v r (wq_b 403 (4 + m)) := g.1
      have g2 : 3 ≤ r (139 + m) := g.2.1
      have g3 : r (139 + m) ≤ 3 := g.2.2.1
      rw [vb] at g1
      refine go _ _ (fun t ht => by
        by_cases e : t = 70
        · subst e
          exact qq
        · exact (if_neg ht).trans (if_neg e)) (if_pos rfl) ?_
      unfold wq_R
      rw [if_pos (Classical.byContradiction (fun w => by rw [if_neg w] at g1; omega)), ← h3]
      unfold wq_rc
      rw [if_pos (by omega)]
      rfl
noncomputable def qa_sL (q m : Nat) : List ai_V := [wa_r 198, wa_i 403, wa_i 404, wa_k m]
noncomputable def qa_sE (q m : Nat) : List pt_E := [((4, 0, 0), (qa_sL q (m + 1), []), [(70, wq_k q)], [(0, wq_b 403 (8 + m), wq_k 0)]),
  ((4, 0, 0), (qa_sL q (m + 1), []), [(404, [(0, 404, 0), (0, 171 + (4 * m + q), 0), (2, 0, 0)]), (70, wq_k q)], [(0, wq_k 1, wq_b 403 (8 + m))])]
theorem qa_s_c : (List.range 4).all (fun q => (List.range 4).all (fun m => pt_row qaY 126 [4, 47] true (4, 0, 0) (qa_sL q m) [] [(70, .ofNat q)] [(403, (0, 4095))] [] [] (qa_sE q m))) = true := by decide +kernel
theorem qa_s_x : (List.range 4).all (fun q => (List.range 5).all (fun m => Nat.blt m 4 || pt_row qaY 126 [4, 47] true (4, 0, 0) (qa_sL q m) [] [] [] [] [] [((47, 0, 0), (qa_sL q m, [wa_i 404]), [], [])])) = true := by decide +kernel
theorem qa_s_i : (List.range 4).all (fun q => pt_row qaY 126 [4] true (0, 0, 0) [wa_r 198, wa_i 403, wa_u, wa_u] [] [] [] [] [] [((4, 0, 0), (qa_sL q 0, []), [(404, wq_k 0)], [])]) = true := by decide +kernel
theorem qa_s_is : pt_is 5 126 47 = true ∧ (ct_mt 126).2.2.1 = 4 := by decide +kernel
theorem qa_s_loop {n : Nat} {Z : (Nat → Int) → (Nat → Nat → Int) → Option Int → Prop} {P : pt_P} {M : Nat → Nat → Int} (h : pt_Cl n 126 qaY 1 Z P) {q x mc : Nat} (hq : q < 4) (hx : x < 4096) (hmc : mc = 4) : ∀ (d m : Nat) (r : Nat → Int), m + d = mc → ai_gE r qaE → r 403 = (x : Int) → True ∧ r 70 = (q : Int) → r 404 = wq_S r q 8 x m → (∀ r2, (∀ t, t < 402 → r2 t = r t) → Z r2 M (some (wq_S r q 8 x mc))) → P (4, 0, 0) (qa_sL q m) [] r M := by
  obtain ⟨hseg, henv, -, -, -, -, -, -, -, -, hret, -, -, -⟩ := h
  intro d
  induction d with
  | zero =>
    intro m r hm hE hb hk h3 hz
    have hm : m = mc := by omega
    subst hm
    have c := List.all_eq_true.mp (List.all_eq_true.mp qa_s_x q (List.mem_range.mpr hq)) m (List.mem_range.mpr (by omega))
    rw [Bool.or_eq_true] at c
    have c := c.resolve_left (fun w => by
      have := Nat.le_of_ble_eq_true w
      omega)
    refine hseg _ _ _ _ _ r M _ _ _ _ _ c ⟨pt_m0, pt_m0, pt_m0⟩ ⟨fun _ => ?_, trivial⟩
    refine hret (47, 0, 0) _ (404, 0) _ M rfl qa_s_is.1 (Nat.ble_eq_true_of_le (Nat.zero_le _)) (Nat.ble_eq_true_of_le (Nat.zero_le _)) ?_
    have := hz r (fun _ _ => rfl)
    rw [← h3] at this
    show Z r M (some (r 404 + 0))
    rw [Int.add_zero]
    exact this
  | succ d ih =>
    intro m r hm hE hb hk h3 hz
    have c := List.all_eq_true.mp (List.all_eq_true.mp qa_s_c q (List.mem_range.mpr hq)) m (List.mem_range.mpr (by omega))
    have qq : (q : Int) = r 70 := hk.2.symm
    have vb := wq_vb (m := 8 + m) hb (by omega) (by omega)
    have go : ∀ (W : List (Nat × pt_X)) (v : Int), (∀ t, t ≠ 404 → pt_up r W t = r t) → pt_up r W 404 = v → wq_S r q 8 x (m + 1) = v → P (4, 0, 0) (qa_sL q (m + 1)) [] (pt_up r W) M := fun W v w1 w2 w3 => by
      have low : ∀ t, t < 402 → pt_up r W t = r t := fun t ht => w1 t (by omega)
      refine henv _ _ _ _ _ (fun hE2 _ => ?_)
      refine ih (m + 1) _ (by omega) hE2 ((w1 _ (by omega)).trans hb) ⟨trivial, (low _ (by omega)).trans hk.2⟩ (by rw [w2, wq_S_c (fun t ht => low t (by omega)) hq (by omega), w3]) (fun r2 h2 => ?_)
      rw [wq_S_c (fun t ht => low t (by omega)) hq (by omega)]
      exact hz r2 (fun t ht => (h2 t ht).trans (low t ht))
    refine hseg _ _ _ _ _ r M _ _ _ _ _ c ⟨pt_m1 hk.2, pt_m1 ⟨by show (0 : Int) ≤ r 403; omega, by show r 403 ≤ (4095 : Int); omega⟩, pt_m0⟩ ⟨fun g => ?_, fun g => ?_, trivial⟩
    · have g1 : pt_v r (wq_b 403 (8 + m)) ≤ 0 := g.1
      rw [vb] at g1
      refine go _ _ (fun t _ => by
        by_cases e : t = 70
        · subst e
          exact qq
        · exact if_neg e) rfl ?_
      unfold wq_S
      rw [if_neg (fun w => by rw [if_pos w] at g1; omega)]
      exact h3.symm
    · have g1 : 1 ≤ pt_v r (wq_b 403 (8 + m)) := g.1
      rw [vb] at g1
      refine go _ _ (fun t ht => by
        by_cases e : t = 70
        · subst e
          exact qq
        · exact (if_neg ht).trans (if_neg e)) (if_pos rfl) ?_
      unfold wq_S
      rw [if_pos (Classical.byContradiction (fun w => by rw [if_neg w] at g1; omega)), ← h3]
      rfl
