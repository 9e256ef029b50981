/-! THE NETS (the reference): a matrix's rows -/
theorem zn_n1 {v : Nat} (h : v < 6) : zn_g1 v = true := by
  rcases (by omega : v = 0 ∨ v = 1 ∨ v = 2 ∨ v = 3 ∨ v = 4 ∨ v = 5) with rfl | rfl | rfl | rfl | rfl | rfl
  · exact zn_n1_0
  · exact zn_n1_1
  · exact zn_n1_2
  · exact zn_n1_3
  · exact zn_n1_4
  · exact zn_n1_5
theorem zn_n2 : (List.range 5).all (fun l => zn_w [23, 167] true 23 (zn_nL (l + 1) l) [] [] [(72, (.ofNat (l + 1), 5))] [] [((23, 0, 0), (zn_nL (l + 1) (l + 1), []), [], [])]) = true := by decide +kernel
theorem zn_n3 : (List.range 6).all (fun v => (List.range 6).all (fun l => zn_w [23, 167] true 23 (zn_nL v l) [] [] [(72, (0, .ofNat l))] [] [((167, 0, 0), (zn_0 v, []), [], [])])) = true := by decide +kernel
theorem zn_d : (List.range 6).all (fun v => (List.range 5).all (fun p => zn_w [203] true 167 (zn_0 v) [] [(71, .ofNat p)] [] [294] [((203, 0, 0), (zn_pL v 0 wa_u, []), [(71, ra_c p), (574 + v, rb_dx p)], [])])) = true := by decide +kernel
noncomputable def zn_hL (i j : Nat) : List ai_V := [wa_r 264, wa_k i, wa_k j, wa_u, wa_u, wa_u]
theorem zn_h : (List.range 4).all (fun p => (List.range (p + 1)).all (fun i => (List.range (p + 1)).all (fun j => pt_row zyY 212 [32, 69] true (0, 0, 0) (zn_hL i j) [] [(71, .ofNat (p + 1))] [] [] [] [((match Nat.beq i p || Nat.beq j p with
  | true => 32
  | false => 69, 0, 0), (zn_hL i j, [zn_q (727 + 90)]), [(71, ra_c (p + 1)), (727 + 90, rb_hx (p + 1) i j)], [])]))) = true := by decide +kernel
theorem zn_pl : ((lh_plain 212 = true ∧ lh_plain 213 = true ∧ lh_plain 214 = true) ∧ ct_bud 212 = (0, 0) ∧ ct_bud 213 = (0, 0) ∧ ct_bud 214 = (0, 0)) ∧ ((pt_is 6 212 32 = true ∧ pt_is 6 212 69 = true) ∧ pt_is 7 213 294 = true ∧ pt_is 7 214 35 = true) ∧ (ct_mt 212).2.2.1 = 6 ∧ (ct_mt 213).2.2.1 = 5 ∧ (ct_mt 214).2.2.1 = 2 := by decide +kernel
theorem zn_bd : (List.range 5).all (fun l => (zyE.2.1.any (fun q => decide (q = (113 + l, ((0 : Int), (3 : Int))))) && zyE.2.1.any (fun q => decide (q = (118 + l, ((0 : Int), (3 : Int)))))) && zyE.2.1.any (fun q => decide (q = (123 + l, ((0 : Int), (9 : Int)))))) = true := by decide +kernel
theorem zn_b {r : Nat → Int} (hE : ai_gE r zyE) : ∀ l, l < 5 → (0 ≤ r (113 + l) ∧ r (113 + l) ≤ 3) ∧ (0 ≤ r (118 + l) ∧ r (118 + l) ≤ 3) ∧ 0 ≤ r (123 + l) ∧ r (123 + l) ≤ 9 := fun l hl => by
  have g := List.all_eq_true.mp zn_bd l (List.mem_range.mpr hl)
  rw [Bool.and_eq_true, Bool.and_eq_true] at g
  exact ⟨ze_eb hE g.1.1, ze_eb hE g.1.2, ze_eb hE g.2⟩
/-- lines told rightly -/
noncomputable def zn_H (r : Nat → Int) : Prop := rb_ok r ∧ (∀ l, l < 5 → (0 ≤ r (113 + l) ∧ r (113 + l) ≤ 3) ∧ (0 ≤ r (118 + l) ∧ r (118 + l) ≤ 3) ∧ (0 ≤ r (123 + l) ∧ r (123 + l) ≤ 9)) ∧ (0 ≤ r 72 ∧ r 72 ≤ 5) ∧ (0 ≤ r 71 ∧ r 71 ≤ 4)
theorem zn_Hr {r : Nat → Int} (h : zn_H r) (v : Nat) : zn_H (zn_r r v) := by
  obtain ⟨h1, h2, h3, h4⟩ := h
  have n : ∀ t, ¬ (123 ≤ t ∧ t < 123 + 5) → 0 ≤ v → v < 6 → zn_r r v t = r t := fun t ht _ hv => by
    unfold zn_r
    rw [if_neg (by omega)]
  by_cases hv : v < 6
  · have n := fun t ht => n t ht (Nat.zero_le v) hv
    refine ⟨fun l hl w => ?_, fun l hl => ?_, ?_, ?_⟩
    · rw [n 72 (by omega)] at w
      rw [n _ (by omega), n _ (by omega), n _ (by omega)]
      exact h1 l hl w
    · rw [n (113 + l) (by omega), n (118 + l) (by omega)]
      refine ⟨(h2 l hl).1, (h2 l hl).2.1, ?_⟩
      unfold zn_r
      split
      · omega
      · exact (h2 l hl).2.2
    · rw [n _ (by omega)]
      exact h3
    · rw [n _ (by omega)]
      exact h4
  · have e : ∀ t, t < 123 + 5 → zn_r r v t = r t := fun t ht => by
      unfold zn_r
      rw [if_neg (by omega)]
    refine ⟨fun l hl w => ?_, fun l hl => ?_, ?_, ?_⟩
    · rw [e 72 (by omega)] at w
      rw [e _ (by omega), e _ (by omega), e _ (by omega)]
      exact h1 l hl w
    · rw [e (113 + l) (by omega), e (118 + l) (by omega), e (123 + l) (by omega)]
      exact h2 l hl
    · rw [e _ (by omega)]
      exact h3
    · rw [e _ (by omega)]
      exact h4
/-- the matrix's numbers are small; a line without stiffness adds nothing -/
theorem zn_mxb {r : Nat → Int} (h : zn_H r) : ∀ l, l ≤ 5 → ∀ x, x < 16 → -45 ≤ rb_mx r l x ∧ rb_mx r l x ≤ 45 := fun l hl x hx => by
  have g := fy_mx (r := r) h (i := x / 4) (j := x % 4) (by omega) (by omega) l hl
  rw [show 4 * (x / 4) + x % 4 = x by omega] at g
  have b := fy_bd h (x / 4) (x % 4) (min l (r 72).toNat) (by omega)
  omega
theorem zn_add0 {a b : Nat} {p : Nat → Int} (h : ∀ x, x < 16 → -45 ≤ p x ∧ p x ≤ 45) : ∀ x, x < 16 → rb_add a b 0 p x = p x := fun x hx => by
  have g := h x hx
  have e1 : ai_op 20 (p x) 0 = p x := by
    show (p x + 0).bmod 18446744073709551616 = p x
    rw [Int.add_zero]
    exact rb_small (by omega)
  have e2 : ai_op 21 (p x) 0 = p x := by
    show (p x - 0).bmod 18446744073709551616 = p x
    rw [Int.sub_zero]
    exact rb_small (by omega)
  unfold rb_add
  rw [e1, e2]
  split
  · rfl
  split
  · rfl
  split
  · rfl
  split <;> rfl
noncomputable def zn_iM (r r' : Nat → Int) : Prop := ∀ t, t < 727 → ¬ (390 ≤ t ∧ t < 390 + 16) → r' t = r t
