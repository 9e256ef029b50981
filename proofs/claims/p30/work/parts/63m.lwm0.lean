/-! way by its contracts: what is wanted -/
noncomputable def kv_bt (m t : Nat) : Bool := Nat.blt t 392 && Nat.beq (Nat.land (Nat.shiftRight m t) 1) 1
noncomputable def kv_p1 : Nat → Bool := kv_bt 1226502878427806664933002346867263369176676454341880982133679988051793364240513617270444771408542961417128885348349
noncomputable def kv_p2 : Nat → Bool := kv_bt 1226502878427806664933002346867263369176676454341880982133679988051750379554143491032709996725088393197745021648897
noncomputable def kv_X1 : List (Nat × Nat × Nat) := [(401, 335, 0)]
noncomputable def kv_X2 : List (Nat × Nat × Nat) := []
noncomputable def kv_A1 : List (Nat × ai_X) := [(403, (393, 0))]
noncomputable def kv_A2 : List (Nat × ai_X) := [(402, (393, 0))]
noncomputable def kv_Pf : List (Nat × Nat × Nat) := [(1, 0, 4), (72, 264, 1)]
theorem kv_Pfok : lx_pc kv_Pf = true := by decide +kernel
noncomputable def kv_rw (t : Nat) : Bool := Nat.ble 379 t && Nat.blt t (379 + 13)
noncomputable def kv_R1 : List (Nat × Nat × Nat) := (List.range 13).map (fun k => (379 + k, 199, k))
noncomputable def kv_R2 : List (Nat × Nat × Nat) := (List.range 13).map (fun k => (379 + k, 330, k))
noncomputable def kv_ch (t : Nat) : Bool := ((Nat.beq t 69 || (Nat.beq t 70 || Nat.beq t 71)) || (Nat.beq t 72 || Nat.beq t 112)) || kv_rw t
noncomputable def kv_P0 (t : Nat) : Bool := Nat.blt t 402 && !(kv_ch t)
theorem kv_rwF {t : Nat} (h : kv_rw t = false) : ¬ (379 ≤ t ∧ t < 379 + 13) := fun q => by
  unfold kv_rw at h
  rw [Nat.ble_eq_true_of_le q.1, show Nat.blt t (379 + 13) = true from Nat.ble_eq_true_of_le q.2] at h
  cases h
theorem kv_chF {t : Nat} (h : kv_ch t = false) : ((t ≠ 69 ∧ t ≠ 70 ∧ t ≠ 71) ∧ t ≠ 72 ∧ t ≠ 112) ∧ ¬ (379 ≤ t ∧ t < 379 + 13) := by
  unfold kv_ch at h
  simp only [Bool.or_eq_false_iff] at h
  obtain ⟨⟨⟨h1, h2, h3⟩, h4, h5⟩, h6⟩ := h
  exact ⟨⟨⟨Nat.ne_of_beq_eq_false h1, Nat.ne_of_beq_eq_false h2, Nat.ne_of_beq_eq_false h3⟩, Nat.ne_of_beq_eq_false h4, Nat.ne_of_beq_eq_false h5⟩, kv_rwF h6⟩
theorem kv_bt_lt {m t : Nat} (h : kv_bt m t = true) : t < 392 := by
  unfold kv_bt at h
  rw [Bool.and_eq_true] at h
  exact Nat.le_of_ble_eq_true h.1
theorem kv_pn : (List.range 392).all (fun t => (!(kv_p1 t) || !((Nat.beq t 72 || Nat.beq t 112) || kv_rw t)) && (!(kv_p2 t) || !((Nat.beq t 69 || (Nat.beq t 70 || Nat.beq t 71)) || kv_rw t))) = true := by decide +kernel
theorem kv_n1 {t : Nat} (h : kv_p1 t = true) : t < 392 ∧ (t ≠ 72 ∧ t ≠ 112) ∧ ¬ (379 ≤ t ∧ t < 379 + 13) := by
  have hl := kv_bt_lt h
  have g := List.all_eq_true.mp kv_pn t (List.mem_range.mpr hl)
  rw [Bool.and_eq_true, h] at g
  have g1 : (!((Nat.beq t 72 || Nat.beq t 112) || kv_rw t)) = true := g.1
  rw [Bool.not_eq_true', Bool.or_eq_false_iff, Bool.or_eq_false_iff] at g1
  exact ⟨hl, ⟨Nat.ne_of_beq_eq_false g1.1.1, Nat.ne_of_beq_eq_false g1.1.2⟩, kv_rwF g1.2⟩
theorem kv_n2 {t : Nat} (h : kv_p2 t = true) : t < 392 ∧ (t ≠ 69 ∧ t ≠ 70 ∧ t ≠ 71) ∧ ¬ (379 ≤ t ∧ t < 379 + 13) := by
  have hl := kv_bt_lt h
  have g := List.all_eq_true.mp kv_pn t (List.mem_range.mpr hl)
  rw [Bool.and_eq_true, h] at g
  have g1 : (!((Nat.beq t 69 || (Nat.beq t 70 || Nat.beq t 71)) || kv_rw t)) = true := g.2
  rw [Bool.not_eq_true', Bool.or_eq_false_iff, Bool.or_eq_false_iff, Bool.or_eq_false_iff] at g1
  exact ⟨hl, ⟨Nat.ne_of_beq_eq_false g1.1.1, Nat.ne_of_beq_eq_false g1.1.2.1, Nat.ne_of_beq_eq_false g1.1.2.2⟩, kv_rwF g1.2⟩
theorem kv_P0_ok {t : Nat} (h : kv_P0 t = true) : t < 402 ∧ ((t ≠ 69 ∧ t ≠ 70 ∧ t ≠ 71) ∧ t ≠ 72 ∧ t ≠ 112) ∧ ¬ (379 ≤ t ∧ t < 379 + 13) := by
  unfold kv_P0 at h
  rw [Bool.and_eq_true, Bool.not_eq_true'] at h
  exact ⟨Nat.le_of_ble_eq_true h.1, kv_chF h.2⟩
theorem kv_nmc : (List.range 392).all (fun t => !(decide (t = 73 ∨ t = 74 ∨ t = 75 ∨ (115 ≤ t ∧ t < 125) ∨ (135 ≤ t ∧ t < 139) ∨ (139 ≤ t ∧ t < 143) ∨ (147 ≤ t ∧ t < 151) ∨ (171 ≤ t ∧ t < 203) ∨ (371 ≤ t ∧ t < 379))) || (kv_p1 t && kv_p2 t)) = true := by decide +kernel
theorem kv_nm {t : Nat} (h : t = 73 ∨ t = 74 ∨ t = 75 ∨ (115 ≤ t ∧ t < 125) ∨ (135 ≤ t ∧ t < 139) ∨ (139 ≤ t ∧ t < 143) ∨ (147 ≤ t ∧ t < 151) ∨ (171 ≤ t ∧ t < 203) ∨ (371 ≤ t ∧ t < 379)) : kv_p1 t = true ∧ kv_p2 t = true := by
  have g := List.all_eq_true.mp kv_nmc t (List.mem_range.mpr (by omega))
  rw [decide_eq_true h] at g
  have g : (kv_p1 t && kv_p2 t) = true := g
  rw [Bool.and_eq_true] at g
  exact g
theorem kv_hp1 : ∀ t, kv_p1 t = true → t < qaY.1.1 := fun t h => by
  have := (kv_n1 h).1
  show t < 502
  omega
theorem kv_hp2 : ∀ t, kv_p2 t = true → t < qbY.1.1 := fun t h => by
  have := (kv_n2 h).1
  show t < 501
  omega
theorem kv_hB : ∀ t, (kv_P0 t = true ∨ kv_p1 t = true ∨ kv_p2 t = true) → t < 404 := fun t h => by
  rcases h with h | h | h
  · have := (kv_P0_ok h).1
    omega
  · have := (kv_n1 h).1
    omega
  · have := (kv_n2 h).1
    omega
theorem kv_tk : (kv_R1 ++ kv_R2).all gq_tk = true := by decide +kernel
theorem kv_t1 {r : Nat → Int} {c : Nat → Nat → Int} (h0 : r 0 = 0) (hct : gq_ct r c) {k : Nat} (hk : k < 13) : c 199 k = r (379 + k) := gq_tk_ok (z := (379 + k, 199, k)) h0 hct (List.all_eq_true.mp kv_tk _ (List.mem_append_left _ (List.mem_map.mpr ⟨k, List.mem_range.mpr hk, rfl⟩)))
theorem kv_t2 {r : Nat → Int} {c : Nat → Nat → Int} (h0 : r 0 = 0) (hct : gq_ct r c) {k : Nat} (hk : k < 13) : c 330 k = r (379 + k) := gq_tk_ok (z := (379 + k, 330, k)) h0 hct (List.all_eq_true.mp kv_tk _ (List.mem_append_right _ (List.mem_map.mpr ⟨k, List.mem_range.mpr hk, rfl⟩)))
theorem kv_ik1 : gq_ik gq_E lx_h (fun _ => true) kv_p1 kv_X1 kv_A1 qaY = true := by decide +kernel
theorem kv_ik2 : gq_ik gq_E lx_h (gq_ot qaY) kv_p2 kv_X2 kv_A2 qbY = true := by decide +kernel
theorem kv_gn : ((gq_gn qaY && gq_gn qbY) && (qaY.2.2.1.all (gq_g1 lx_h (fun _ => true)) && qbY.2.2.1.all (gq_g1 lx_h (gq_ot qaY)))) = true := by decide +kernel
theorem kv_c1 : gq_ck1 qaY qbY kv_p1 kv_p2 kv_X1 kv_X2 kv_A1 kv_A2 = true := by
  unfold gq_ck1
  rw [kv_ik1, kv_ik2, kv_gn]
  rfl
theorem kv_cv : gq_cv kv_P0 = true := by decide +kernel
noncomputable def kv_hF : ai_H := lx_h
theorem kv_c2 : gq_ck2 qaY qbY kv_P0 kv_p1 kv_p2 [] kv_R1 kv_R2 kv_hF = true := by decide +kernel
theorem kv_row : gq_row 27 1517 280 true qaY [wa_r 335, wa_i 403, wa_r 16] (qa_wL ++ [wa_r 335]) kv_A1 (0, 0) (1, 6) 1529 252 false qbY [wa_i 402, wa_r 264] [wa_r 264, wa_i 402] kv_A2 (0, 0) (403, 0) [] kv_hF [] kv_Pf = true := by decide +kernel
theorem kv_bud : ct_bud 280 = (1, 6) ∧ ct_bud 252 = (0, 0) := by decide +kernel
theorem kv_f27_s0 : gq_frow 27 gq_rd [(393, (-2147483648, -1))] [] [] kv_Pf = true := by decide +kernel
theorem kv_f27_s1 : gq_frow 27 gq_rd [(393, (4, 2147483647))] [] [] kv_Pf = true := by decide +kernel
