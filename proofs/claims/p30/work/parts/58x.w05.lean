/-! WAY: couldMake, servedLoads (the reference) -/
noncomputable def qb_cL (q m : Nat) : List ai_V := [wa_r 264, wa_i 402, wa_k q, wa_i 404, wa_k m]
noncomputable def qb_cE (q m : Nat) : List pt_E := [((5, 0, 0), (qb_cL q (m + 1), []), [], [(0, wq_b 402 (0 + m), wq_k 0)]),
  ((5, 0, 0), (qb_cL q (m + 1), []), [(404, [(0, 404, 0), (0, 147 + m, 0), (2, 0, 0)])], [(0, wq_k 1, wq_b 402 (0 + m)), (0, [(0, 139 + m, 0)], wq_k 2)]),
  ((5, 0, 0), (qb_cL q (m + 1), []), [(404, [(0, 404, 0), (0, 147 + m, 0), (0, 187 + (4 * m + q), 0), (2, 12, 0), (2, 0, 0)])], [(0, wq_k 1, wq_b 402 (0 + m)), (0, wq_k 3, [(0, 139 + m, 0)]), (0, [(0, 139 + m, 0)], wq_k 3)])]
theorem qb_c_c : (List.range 4).all (fun q => (List.range 4).all (fun m => pt_row qbY 249 [5, 76] true (5, 0, 0) (qb_cL q m) [] [] [(75, (.ofNat (m + 1), 4)), (402, (0, 15))] [] [] (qb_cE q m))) = true := by decide +kernel
theorem qb_c_x : (List.range 4).all (fun q => (List.range 5).all (fun m => pt_row qbY 249 [5, 76] true (5, 0, 0) (qb_cL q m) [] [] [(75, (0, .ofNat m))] [] [] [((76, 0, 0), (qb_cL q m, [wa_i 404]), [], [])])) = true := by decide +kernel
theorem qb_c_i : (List.range 4).all (fun q => pt_row qbY 249 [5] true (0, 0, 0) [wa_r 264, wa_i 402, wa_k q, wa_u, wa_u] [] [] [] [] [] [((5, 0, 0), (qb_cL q 0, []), [(404, wq_k 0)], [])]) = true := by decide +kernel
theorem qb_c_is : pt_is 5 249 76 = true ∧ (ct_mt 249).2.2.1 = 5 := by decide +kernel
theorem qb_c_loop {n : Nat} {Z : (Nat → Int) → (Nat → Nat → Int) → Option Int → Prop} {P : pt_P} {M : Nat → Nat → Int} (h : pt_Cl n 249 qbY 1 Z P) {q x mc : Nat} (hq : q < 4) (hx : x < 16) (hmc : mc ≤ 4) : ∀ (d m : Nat) (r : Nat → Int), m + d = mc → ai_gE r qbE → r 402 = (x : Int) → r 75 = (mc : Int) → r 404 = wq_R r q 0 x m → (∀ r2, (∀ t, t < 401 → r2 t = r t) → Z r2 M (some (wq_R r q 0 x mc))) → P (5, 0, 0) (qb_cL q m) [] r M := by
  obtain ⟨hseg, henv, -, -, -, -, -, -, -, -, hret, -, -, -⟩ := h
  intro d
  induction d with
  | zero =>
    intro m r hm hE hb hk h3 hz
    have hm : m = mc := by omega
    subst hm
    have c := List.all_eq_true.mp (List.all_eq_true.mp qb_c_x q (List.mem_range.mpr hq)) m (List.mem_range.mpr (by omega))
    refine hseg _ _ _ _ _ r M _ _ _ _ _ c ⟨pt_m0, pt_m1 ⟨by show (0 : Int) ≤ r 75; have := hk; omega, by show r 75 ≤ (m : Int); have := hk; omega⟩, pt_m0⟩ ⟨fun _ => ?_, trivial⟩
    refine hret (76, 0, 0) _ (404, 0) _ M rfl qb_c_is.1 (Nat.ble_eq_true_of_le (Nat.zero_le _)) (Nat.ble_eq_true_of_le (Nat.zero_le _)) ?_
    have := hz r (fun _ _ => rfl)
    rw [← h3] at this
    show Z r M (some (r 404 + 0))
    rw [Int.add_zero]
    exact this
  | succ d ih =>
    intro m r hm hE hb hk h3 hz
    have c := List.all_eq_true.mp (List.all_eq_true.mp qb_c_c q (List.mem_range.mpr hq)) m (List.mem_range.mpr (by omega))
    have vb := wq_vb (m := 0 + m) hb (by omega) (by omega)
    have go : ∀ (W : List (Nat × pt_X)) (v : Int), (∀ t, t ≠ 404 → pt_up r W t = r t) → pt_up r W 404 = v → wq_R r q 0 x (m + 1) = v → P (5, 0, 0) (qb_cL q (m + 1)) [] (pt_up r W) M := fun W v w1 w2 w3 => by
      have low : ∀ t, t < 401 → pt_up r W t = r t := fun t ht => w1 t (by omega)
      refine henv _ _ _ _ _ (fun hE2 _ => ?_)
      refine ih (m + 1) _ (by omega) hE2 ((w1 _ (by omega)).trans hb) ((low _ (by omega)).trans hk) (by rw [w2, wq_R_c (fun t ht => low t (by omega)) hq (by omega), w3]) (fun r2 h2 => ?_)
      rw [wq_R_c (fun t ht => low t (by omega)) hq hmc]
      exact hz r2 (fun t ht => (h2 t ht).trans (low t ht))
    refine hseg _ _ _ _ _ r M _ _ _ _ _ c ⟨pt_m0, pt_m2 ⟨by show ((m + 1 : Nat) : Int) ≤ r 75; have := hk; omega, by show r 75 ≤ (4 : Int); have := hk; omega⟩ ⟨by show (0 : Int) ≤ r 402; omega, by show r 402 ≤ (15 : Int); omega⟩, pt_m0⟩ ⟨fun g => ?_, fun g => ?_, fun g => ?_, trivial⟩
    · have g1 : pt_v r (wq_b 402 (0 + m)) ≤ 0 := g.1
      rw [vb] at g1
      refine go _ _ (fun t _ => rfl) rfl ?_
      unfold wq_R
      rw [if_neg (fun w => by rw [if_pos w] at g1; omega)]
      exact h3.symm
    · have g1 : 1 ≤ pt_v r (wq_b 402 (0 + m)) := g.1
      have g2 : r (139 + m) ≤ 2 := g.2.1
      rw [vb] at g1
      refine go _ _ (fun t ht => (if_neg ht)) (if_pos rfl) ?_
      unfold wq_R
      rw [if_pos (Classical.byContradiction (fun w => by rw [if_neg w] at g1; omega)), ← h3]
      unfold wq_rc
      rw [if_neg (by omega)]
      rfl
    · have g1 : 1 ≤ pt_v r (wq_b 402 (0 + m)) := g.1
      have g2 : 3 ≤ r (139 + m) := g.2.1
      have g3 : r (139 + m) ≤ 3 := g.2.2.1
      rw [vb] at g1
      refine go _ _ (fun t ht => (if_neg ht)) (if_pos rfl) ?_
      unfold wq_R
      rw [if_pos (Classical.byContradiction (fun w => by rw [if_neg w] at g1; omega)), ← h3]
      unfold wq_rc
      rw [if_pos (by omega)]
      rfl
noncomputable def qb_sL (q m : Nat) : List ai_V := [wa_r 264, wa_i 402, wa_k q, wa_i 404, wa_k m]
noncomputable def qb_sE (q m : Nat) : List pt_E := [((5, 0, 0), (qb_sL q (m + 1), []), [], [(0, wq_b 402 (0 + m), wq_k 0)]),
  ((5, 0, 0), (qb_sL q (m + 1), []), [(404, [(0, 404, 0), (0, 171 + (4 * m + q), 0), (2, 0, 0)])], [(0, wq_k 1, wq_b 402 (0 + m))])]
theorem qb_s_c : (List.range 4).all (fun q => (List.range 4).all (fun m => pt_row qbY 250 [5, 49] true (5, 0, 0) (qb_sL q m) [] [] [(73, (.ofNat (m + 1), 4)), (402, (0, 15))] [] [] (qb_sE q m))) = true := by decide +kernel
theorem qb_s_x : (List.range 4).all (fun q => (List.range 5).all (fun m => pt_row qbY 250 [5, 49] true (5, 0, 0) (qb_sL q m) [] [] [(73, (0, .ofNat m))] [] [] [((49, 0, 0), (qb_sL q m, [wa_i 404]), [], [])])) = true := by decide +kernel
theorem qb_s_i : (List.range 4).all (fun q => pt_row qbY 250 [5] true (0, 0, 0) [wa_r 264, wa_i 402, wa_k q, wa_u, wa_u] [] [] [] [] [] [((5, 0, 0), (qb_sL q 0, []), [(404, wq_k 0)], [])]) = true := by decide +kernel
theorem qb_s_is : pt_is 5 250 49 = true ∧ (ct_mt 250).2.2.1 = 5 := by decide +kernel
theorem qb_s_loop {n : Nat} {Z : (Nat → Int) → (Nat → Nat → Int) → Option Int → Prop} {P : pt_P} {M : Nat → Nat → Int} (h : pt_Cl n 250 qbY 1 Z P) {q x mc : Nat} (hq : q < 4) (hx : x < 16) (hmc : mc ≤ 4) : ∀ (d m : Nat) (r : Nat → Int), m + d = mc → ai_gE r qbE → r 402 = (x : Int) → r 73 = (mc : Int) → r 404 = wq_S r q 0 x m → (∀ r2, (∀ t, t < 401 → r2 t = r t) → Z r2 M (some (wq_S r q 0 x mc))) → P (5, 0, 0) (qb_sL q m) [] r M := by
  obtain ⟨hseg, henv, -, -, -, -, -, -, -, -, hret, -, -, -⟩ := h
  intro d
  induction d with
  | zero =>
    intro m r hm hE hb hk h3 hz
    have hm : m = mc := by omega
    subst hm
    have c := List.all_eq_true.mp (List.all_eq_true.mp qb_s_x q (List.mem_range.mpr hq)) m (List.mem_range.mpr (by omega))
    refine hseg _ _ _ _ _ r M _ _ _ _ _ c ⟨pt_m0, pt_m1 ⟨by show (0 : Int) ≤ r 73; have := hk; omega, by show r 73 ≤ (m : Int); have := hk; omega⟩, pt_m0⟩ ⟨fun _ => ?_, trivial⟩
    refine hret (49, 0, 0) _ (404, 0) _ M rfl qb_s_is.1 (Nat.ble_eq_true_of_le (Nat.zero_le _)) (Nat.ble_eq_true_of_le (Nat.zero_le _)) ?_
    have := hz r (fun _ _ => rfl)
    rw [← h3] at this
    show Z r M (some (r 404 + 0))
    rw [Int.add_zero]
    exact this
  | succ d ih =>
    intro m r hm hE hb hk h3 hz
    have c := List.all_eq_true.mp (List.all_eq_true.mp qb_s_c q (List.mem_range.mpr hq)) m (List.mem_range.mpr (by omega))
    have vb := wq_vb (m := 0 + m) hb (by omega) (by omega)
    have go : ∀ (W : List (Nat × pt_X)) (v : Int), (∀ t, t ≠ 404 → pt_up r W t = r t) → pt_up r W 404 = v → wq_S r q 0 x (m + 1) = v → P (5, 0, 0) (qb_sL q (m + 1)) [] (pt_up r W) M := fun W v w1 w2 w3 => by
      have low : ∀ t, t < 401 → pt_up r W t = r t := fun t ht => w1 t (by omega)
      refine henv _ _ _ _ _ (fun hE2 _ => ?_)
      refine ih (m + 1) _ (by omega) hE2 ((w1 _ (by omega)).trans hb) ((low _ (by omega)).trans hk) (by rw [w2, wq_S_c (fun t ht => low t (by omega)) hq (by omega), w3]) (fun r2 h2 => ?_)
      rw [wq_S_c (fun t ht => low t (by omega)) hq hmc]
      exact hz r2 (fun t ht => (h2 t ht).trans (low t ht))
    refine hseg _ _ _ _ _ r M _ _ _ _ _ c ⟨pt_m0, pt_m2 ⟨by show ((m + 1 : Nat) : Int) ≤ r 73; have := hk; omega, by show r 73 ≤ (4 : Int); have := hk; omega⟩ ⟨by show (0 : Int) ≤ r 402; omega, by show r 402 ≤ (15 : Int); omega⟩, pt_m0⟩ ⟨fun g => ?_, fun g => ?_, trivial⟩
    · have g1 : pt_v r (wq_b 402 (0 + m)) ≤ 0 := g.1
      rw [vb] at g1
      refine go _ _ (fun t _ => rfl) rfl ?_
      unfold wq_S
      rw [if_neg (fun w => by rw [if_pos w] at g1; omega)]
      exact h3.symm
    · have g1 : 1 ≤ pt_v r (wq_b 402 (0 + m)) := g.1
      rw [vb] at g1
      refine go _ _ (fun t ht => (if_neg ht)) (if_pos rfl) ?_
      unfold wq_S
      rw [if_pos (Classical.byContradiction (fun w => by rw [if_neg w] at g1; omega)), ← h3]
      rfl
