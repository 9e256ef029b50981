/-! a minute, in pieces: falls, rises, the speed, who is cut -/
noncomputable def nf_p1 (r : Nat → Int) : Nat → Int := fun t => if 370 ≤ t ∧ t < 374 then (if r (374 + (t - 370)) = r 105 then 0 else r t) else r t
noncomputable def nf_p2 (r : Nat → Int) : Nat → Int := fun t => if 370 ≤ t ∧ t < 374 then (if r 106 < 49900 ∧ (((t - 370 : Nat) : Int) + 1 ≤ r 110 ∧ 0 < r t) then ai_op 12 (r (146 + (t - 370))) (ai_op 0 (r t) (r 104)) else r t) else r t
noncomputable def nf_ld (r : Nat → Int) (p : Nat) : Int := if ai_op 5 (ai_op 9 (r 107) (p : Int)) 1 = 0 then r (60 + p) else 0
noncomputable def nf_sum (a b c d : Int) : Int := ai_op 0 (ai_op 0 (ai_op 0 (ai_op 0 0 a) b) c) d
noncomputable def nf_sp (s l m : Int) : Int := ai_op 12 50000 (ai_op 1 s (ai_op 2 50 (ai_op 1 l m)))
noncomputable def nf_mk (r : Nat → Int) : Int := nf_sum (r 370) (r (370 + 1)) (r (370 + 2)) (r (370 + 3))
noncomputable def nf_p3 (r : Nat → Int) : Nat → Int := fun t => if t = 106 then nf_sp (r 106) (nf_sum (nf_ld r 0) (nf_ld r 1) (nf_ld r 2) (nf_ld r 3)) (nf_mk r) else r t
noncomputable def nf_p4 (r : Nat → Int) : Nat → Int := fun t => if t = 107 then (if r 106 < 49000 ∧ (r 108 < r 109 ∧ r 108 < 4) then ai_op 6 (r 107) (ai_op 8 1 (r (64 + (r 108).toNat))) else r 107) else if t = 108 then (if r 106 < 49000 ∧ (r 108 < r 109 ∧ r 108 < 4) then r 108 + 1 else r 108) else if t = 102 then (if r 106 < 47500 then 1 else 0) else r t
noncomputable def nf_P1 : List (Nat × Nat × Nat) := [(370, 196, 0), (370 + 1, 196, 1), (370 + 2, 196, 2), (370 + 3, 196, 3)]
noncomputable def nf_P3 : List (Nat × Nat × Nat) := [(106, 193, 2)]
noncomputable def nf_P4 : List (Nat × Nat × Nat) := [(107, 193, 4), (108, 193, 9), (102, 193, 1)]
noncomputable def nf_d1 (E : ai_E) (j : Nat) (X : ai_X) : Bool := (cx_q X (0, 0) && cy_eq E (374 + j, 0) (105, 0)) || (cx_q X (370 + j, 0) && ai_nef (374 + j, 0) (105, 0) E.2.2)
noncomputable def nf_up (E : ai_E) (ms : Nat) (j : Nat) (X : ai_X) : Bool := match ai_find 0 (370 + j, 0) (104, 0) E.2.2 with
  | some w => match ai_find 12 (ms + j, 0) (w, 0) E.2.2 with
    | some z => cx_q X (z, 0)
    | none => false
  | none => false
noncomputable def nf_d2 (E : ai_E) (j : Nat) (X : ai_X) : Bool := (cx_q X (370 + j, 0) && (cx_bd E (106, 0) (49900, ai_hi64) || (cx_bd E (370 + j, 0) (ai_lo64, 0) || cx_bd E (110, 0) (ai_lo64, (j : Int))))) || ((cx_bd E (106, 0) (ai_lo64, 49899) && (cx_bd E (370 + j, 0) (1, ai_hi64) && cx_bd E (110, 0) ((j : Int) + 1, ai_hi64))) && nf_up E 146 j X)
noncomputable def nf_bit (E : ai_E) (p : Nat) (x : ai_X) : Option ai_X := match ai_find 9 (107, 0) (0, (p : Int)) E.2.2 with
  | some u => match ai_find 5 (u, 0) (0, 1) E.2.2 with
    | some v => match cx_bd E (v, 0) (0, 0) && cx_bd E x (ai_lo32, ai_hi32) with
      | true => some x
      | false => match cx_bd E (v, 0) (1, 1) with
        | true => some (0, 0)
        | false => none
    | none => none
  | none => none
noncomputable def nf_ad (E : ai_E) (x y : Option ai_X) : Option ai_X := match x with
  | none => none
  | some x => match y with
    | none => none
    | some y => match cx_q x (0, 0) with
      | true => match cx_bd E y (ai_lo32, ai_hi32) with
        | true => some y
        | false => none
      | false => match cx_q y (0, 0) with
        | true => match cx_bd E x (ai_lo32, ai_hi32) with
          | true => some x
          | false => none
        | false => match ai_find 0 x y E.2.2 with
          | some z => some (z, 0)
          | none => none
noncomputable def nf_sm (E : ai_E) (a b c d : Option ai_X) : Option ai_X := nf_ad E (nf_ad E (nf_ad E (nf_ad E (some (0, 0)) a) b) c) d
noncomputable def nf_spd (E : ai_E) (l m : Option ai_X) (X : ai_X) : Bool := match l, m with
  | some l, some m => match ai_find 1 l m E.2.2 with
    | some a => match ai_find 2 (0, 50) (a, 0) E.2.2 with
      | some b => match ai_find 1 (106, 0) (b, 0) E.2.2 with
        | some c => match ai_find 12 (0, 50000) (c, 0) E.2.2 with
          | some z => cx_q X (z, 0)
          | none => false
        | none => false
      | none => false
    | none => false
  | _, _ => false
noncomputable def nf_mks (E : ai_E) : Option ai_X := nf_sm E (some (370, 0)) (some (370 + 1, 0)) (some (370 + 2, 0)) (some (370 + 3, 0))
noncomputable def nf_d3 (E : ai_E) (X : ai_X) : Bool := nf_spd E (nf_sm E (nf_bit E 0 (60, 0)) (nf_bit E 1 (60 + 1, 0)) (nf_bit E 2 (60 + 2, 0)) (nf_bit E 3 (60 + 3, 0))) (nf_mks E) X
noncomputable def nf_d4 (E : ai_E) (oc k : Nat) (ct cm dk : ai_X) : Bool := (((cx_bd E (106, 0) (ai_lo64, 48999) && (cx_bd E (109, 0) ((k : Int) + 1, ai_hi64) && Nat.blt k 4)) && ((match ai_find 8 (0, 1) (oc + k, 0) E.2.2 with
  | some u => match ai_find 6 (107, 0) (u, 0) E.2.2 with
    | some z => cx_q ct (z, 0)
    | none => false
  | none => false) && cx_q cm (0, ((k + 1 : Nat) : Int)))) || ((cx_bd E (106, 0) (49000, ai_hi64) || (cx_bd E (109, 0) (ai_lo64, (k : Int)) || Nat.ble 4 k)) && (cx_q ct (107, 0) && cx_q cm (0, (k : Int))))) && ((cx_bd E (106, 0) (ai_lo64, 47499) && cx_q dk (0, 1)) || (cx_bd E (106, 0) (47500, ai_hi64) && cx_q dk (0, 0)))
section NFB
variable {r : Nat → Int} {E : ai_E}
theorem nf_find (hE : ai_gE r E) {o : Nat} {x y : ai_X} {t : Nat} (h : ai_find o x y E.2.2 = some t) : ai_vx r (t, 0) = ai_op o (ai_vx r x) (ai_vx r y) := by
  have := (hE.2.2.2.2 _ (ai_find_ok h)).2.2.2
  show r t + 0 = _
  rw [Int.add_zero]
  exact this
theorem nf_v (t : Nat) : ai_vx r (t, 0) = r t := Int.add_zero _
theorem nf_c (hE : ai_gE r E) (k : Int) : ai_vx r (0, k) = k := by
  show r 0 + k = k
  rw [hE.1, Int.zero_add]
theorem nf_d1_ok (hE : ai_gE r E) {j : Nat} {X : ai_X} (h : nf_d1 E j X = true) : ai_vx r X = if r (374 + j) = r 105 then 0 else r (370 + j) := by
  unfold nf_d1 at h
  rw [Bool.or_eq_true, Bool.and_eq_true, Bool.and_eq_true] at h
  rcases h with ⟨h1, h2⟩ | ⟨h1, h2⟩
  · have e := cy_eq_ok hE h2
    rw [nf_v, nf_v] at e
    rw [cx_q_ok h1, nf_c hE, if_pos e]
  · have e := ai_nef_ok hE.1 (cy_ds hE) h2
    rw [nf_v, nf_v] at e
    rw [cx_q_ok h1, nf_v, if_neg e]
theorem nf_up_ok (hE : ai_gE r E) {ms j : Nat} {X : ai_X} (h : nf_up E ms j X = true) : ai_vx r X = ai_op 12 (r (ms + j)) (ai_op 0 (r (370 + j)) (r 104)) := by
  unfold nf_up at h
  split at h
  · rename_i w e1
    split at h
    · rename_i z e2
      rw [cx_q_ok h, nf_find hE e2, nf_find hE e1, nf_v, nf_v, nf_v]
    · cases h
  · cases h
theorem nf_bd (hE : ai_gE r E) {t : Nat} {b : Int × Int} (h : cx_bd E (t, 0) b = true) : b.1 ≤ r t ∧ r t ≤ b.2 := by
  have := cx_bd_ok hE h
  rw [nf_v] at this
  exact ⟨this.2.1, this.2.2.1⟩
theorem nf_d2_ok (hE : ai_gE r E) {j : Nat} {X : ai_X} (h : nf_d2 E j X = true) : ai_vx r X = if r 106 < 49900 ∧ ((j : Int) + 1 ≤ r 110 ∧ 0 < r (370 + j)) then ai_op 12 (r (146 + j)) (ai_op 0 (r (370 + j)) (r 104)) else r (370 + j) := by
  unfold nf_d2 at h
  simp only [Bool.or_eq_true, Bool.and_eq_true] at h
  rcases h with ⟨h1, h2⟩ | ⟨⟨h1, h2, h3⟩, h4⟩
  · rw [cx_q_ok h1, nf_v, if_neg]
    rintro ⟨g1, g2, g3⟩
    rcases h2 with q | q | q
    · have := (nf_bd hE q).1
      have : (49900 : Int) ≤ r 106 := this
      omega
    · have := (nf_bd hE q).2
      have : r (370 + j) ≤ 0 := this
      omega
    · have := (nf_bd hE q).2
      have : r 110 ≤ (j : Int) := this
      omega
  · have b1 : r 106 ≤ 49899 := (nf_bd hE h1).2
    have b2 : 1 ≤ r (370 + j) := (nf_bd hE h2).1
    have b3 : (j : Int) + 1 ≤ r 110 := (nf_bd hE h3).1
    rw [nf_up_ok hE h4, if_pos ⟨by omega, b3, by omega⟩]
theorem nf_op0 {x : Int} (h : ai_lo32 ≤ x ∧ x ≤ ai_hi32) : ai_op 0 0 x = x ∧ ai_op 0 x 0 = x := by
  have h1 : -2147483648 ≤ x := h.1
  have h2 : x ≤ 2147483647 := h.2
  refine ⟨?_, ?_⟩
  · show (0 + x).bmod 4294967296 = x
    rw [Int.zero_add]
    exact Int.bmod_eq_of_le_mul_two (by omega) (by omega)
  · show (x + 0).bmod 4294967296 = x
    rw [Int.add_zero]
    exact Int.bmod_eq_of_le_mul_two (by omega) (by omega)
theorem nf_ad_ok (hE : ai_gE r E) {x y : Option ai_X} {z : ai_X} {a b : Int} (hx : ∀ u, x = some u → ai_vx r u = a) (hy : ∀ u, y = some u → ai_vx r u = b) (h : nf_ad E x y = some z) : ai_vx r z = ai_op 0 a b := by
  unfold nf_ad at h
  split at h
  · cases h
  · rename_i x
    have hx := hx x rfl
    split at h
    · cases h
    · rename_i y
      have hy := hy y rfl
      split at h
      · rename_i e
        split at h
        · rename_i e2
          cases h
          have b2 := cx_bd_ok hE e2
          rw [cx_q_ok e, nf_c hE] at hx
          rw [← hx, ← hy]
          exact (nf_op0 ⟨b2.2.1, b2.2.2.1⟩).1.symm
        · cases h
      · split at h
        · rename_i e
          split at h
          · rename_i e2
            cases h
            have b2 := cx_bd_ok hE e2
            rw [cx_q_ok e, nf_c hE] at hy
            rw [← hx, ← hy]
            exact (nf_op0 ⟨b2.2.1, b2.2.2.1⟩).2.symm
          · cases h
        · split at h
          · rename_i t e
            cases h
            rw [nf_find hE e, hx, hy]
          · cases h
theorem nf_sm_ok (hE : ai_gE r E) {x y z w : Option ai_X} {u : ai_X} {a b c d : Int} (h1 : ∀ u, x = some u → ai_vx r u = a) (h2 : ∀ u, y = some u → ai_vx r u = b) (h3 : ∀ u, z = some u → ai_vx r u = c) (h4 : ∀ u, w = some u → ai_vx r u = d) (h : nf_sm E x y z w = some u) : ai_vx r u = nf_sum a b c d :=
  nf_ad_ok hE (fun _ q1 => nf_ad_ok hE (fun _ q2 => nf_ad_ok hE (fun _ q3 => nf_ad_ok hE (a := 0) (fun v q4 => by cases q4; exact nf_c hE 0) h1 q3) h2 q2) h3 q1) h4 h
theorem nf_bit_ok (hE : ai_gE r E) {p : Nat} {x u : ai_X} (h : nf_bit E p x = some u) : ai_vx r u = if ai_op 5 (ai_op 9 (r 107) (p : Int)) 1 = 0 then ai_vx r x else 0 := by
  unfold nf_bit at h
  split at h
  · rename_i a e1
    split at h
    · rename_i v e2
      have ev : r v = ai_op 5 (ai_op 9 (r 107) (p : Int)) 1 := by
        have := nf_find hE e2
        rw [nf_v, nf_find hE e1, nf_v, nf_c hE, nf_c hE] at this
        exact this
      split at h
      · rename_i e3
        cases h
        rw [Bool.and_eq_true] at e3
        have b := nf_bd hE e3.1
        have b1 : (0 : Int) ≤ r v := b.1
        have b2 : r v ≤ 0 := b.2
        rw [if_pos (by rw [← ev]; omega)]
      · split at h
        · rename_i e3
          cases h
          have b := nf_bd hE e3
          have b1 : (1 : Int) ≤ r v := b.1
          rw [if_neg (by rw [← ev]; omega), nf_c hE]
        · cases h
    · cases h
  · cases h
theorem nf_mks_ok (hE : ai_gE r E) {u : ai_X} (h : nf_mks E = some u) : ai_vx r u = nf_mk r :=
  nf_sm_ok hE (fun v q => by cases q; exact nf_v _) (fun v q => by cases q; exact nf_v _) (fun v q => by cases q; exact nf_v _) (fun v q => by cases q; exact nf_v _) h
theorem nf_spd_ok (hE : ai_gE r E) {l m : Option ai_X} {X : ai_X} {a b : Int} (hl : ∀ u, l = some u → ai_vx r u = a) (hm : ∀ u, m = some u → ai_vx r u = b) (h : nf_spd E l m X = true) : ai_vx r X = nf_sp (r 106) a b := by
  unfold nf_spd at h
  split at h
  · rename_i l m
    split at h
    · rename_i t1 e1
      split at h
      · rename_i t2 e2
        split at h
        · rename_i t3 e3
          split at h
          · rename_i t4 e4
            rw [cx_q_ok h, nf_find hE e4, nf_find hE e3, nf_find hE e2, nf_find hE e1, hl _ rfl, hm _ rfl, nf_v, nf_c hE, nf_c hE]
            rfl
          · cases h
        · cases h
      · cases h
    · cases h
  · cases h
theorem nf_d3_ok (hE : ai_gE r E) {X : ai_X} (h : nf_d3 E X = true) : ai_vx r X = nf_sp (r 106) (nf_sum (nf_ld r 0) (nf_ld r 1) (nf_ld r 2) (nf_ld r 3)) (nf_mk r) := by
  have b : ∀ p u, nf_bit E p (60 + p, 0) = some u → ai_vx r u = nf_ld r p := fun p u q => by
    rw [nf_bit_ok hE q, nf_v]
    rfl
  exact nf_spd_ok hE (fun _ q => nf_sm_ok hE (b 0) (b 1) (b 2) (b 3) q) (fun _ q => nf_mks_ok hE q) h
theorem nf_d4_ok (hE : ai_gE r E) {oc k : Nat} {ct cm dk : ai_X} (h : nf_d4 E oc k ct cm dk = true) :
    (ai_vx r ct = if r 106 < 49000 ∧ ((k : Int) < r 109 ∧ (k : Int) < 4) then ai_op 6 (r 107) (ai_op 8 1 (r (oc + k))) else r 107) ∧ (ai_vx r cm = if r 106 < 49000 ∧ ((k : Int) < r 109 ∧ (k : Int) < 4) then (k : Int) + 1 else (k : Int)) ∧ (ai_vx r dk = if r 106 < 47500 then 1 else 0) := by
  unfold nf_d4 at h
  rw [Bool.and_eq_true] at h
  obtain ⟨h1, h2⟩ := h
  have hd : ai_vx r dk = if r 106 < 47500 then 1 else 0 := by
    rw [Bool.or_eq_true, Bool.and_eq_true, Bool.and_eq_true] at h2
    rcases h2 with ⟨q1, q2⟩ | ⟨q1, q2⟩
    · have b : r 106 ≤ 47499 := (nf_bd hE q1).2
      rw [cx_q_ok q2, nf_c hE, if_pos (by omega)]
    · have b : (47500 : Int) ≤ r 106 := (nf_bd hE q1).1
      rw [cx_q_ok q2, nf_c hE, if_neg (by omega)]
  rw [Bool.or_eq_true] at h1
  rcases h1 with h1 | h1
  · simp only [Bool.and_eq_true] at h1
    obtain ⟨⟨q1, q2, q3⟩, q4, q5⟩ := h1
    have b1 : r 106 ≤ 48999 := (nf_bd hE q1).2
    have b2 : (k : Int) + 1 ≤ r 109 := (nf_bd hE q2).1
    have b3 : k < 4 := Nat.le_of_ble_eq_true q3
    have hc : r 106 < 49000 ∧ ((k : Int) < r 109 ∧ (k : Int) < 4) := ⟨by omega, by omega, by omega⟩
    refine ⟨?_, ?_, hd⟩
    · rw [if_pos hc]
      split at q4
      · rename_i u e1
        split at q4
        · rename_i z e2
          rw [cx_q_ok q4, nf_find hE e2, nf_find hE e1, nf_v, nf_v, nf_c hE]
        · cases q4
      · cases q4
    · rw [if_pos hc, cx_q_ok q5, nf_c hE]
      rfl
  · simp only [Bool.and_eq_true, Bool.or_eq_true] at h1
    obtain ⟨q1, q2, q3⟩ := h1
    have hc : ¬ (r 106 < 49000 ∧ ((k : Int) < r 109 ∧ (k : Int) < 4)) := by
      rintro ⟨g1, g2, g3⟩
      rcases q1 with q | q | q
      · have b : (49000 : Int) ≤ r 106 := (nf_bd hE q).1
        omega
      · have b : r 109 ≤ (k : Int) := (nf_bd hE q).2
        omega
      · have := Nat.le_of_ble_eq_true q
        omega
    refine ⟨?_, ?_, hd⟩
    · rw [if_neg hc, cx_q_ok q2, nf_v]
    · rw [if_neg hc, cx_q_ok q3, nf_c hE]
end NFB
