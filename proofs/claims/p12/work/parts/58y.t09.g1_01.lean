/-! TEXTS (the class): a word's code -/
noncomputable def ga_wq : List (Nat × Nat × Nat × Int) := [(0, 0, 3, -1), (1, 11, 14, -2), (2, 23, 26, -3), (3, 35, 38, -4), (4, 47, 50, -5), (8, 59, 62, -15), (9, 71, 74, -16), (5, 83, 86, -12), (6, 95, 98, -13), (7, 107, 110, -14)]
/-- the words in the order in which they are asked -/
noncomputable def ga_wN (q : Nat × Nat × Nat × Int) : Bool := cy_vk 109 q.2.2.1 110 gaY.2.1 [rd_ref (q.1 + 1), wa_r 84] [wa_r 84, rd_ref (q.1 + 1)] [] && pt_cck gaY 109 110 (q.2.2.1, 0, 0) 1 471 [wa_r 84] [] [wa_r 84, rd_ref (q.1 + 1)] [wa_r 84, rd_ref (q.1 + 1)]
theorem ga_w_k : ga_wq.all ga_wN = true := by decide +kernel
noncomputable def ga_wpc : List (Nat × Nat × Nat) := [(3, 10, 14), (14, 22, 26), (26, 34, 38), (38, 46, 50), (50, 58, 62), (62, 70, 74), (74, 82, 86), (86, 94, 98), (98, 106, 110)]
noncomputable def ga_wrow (i : Nat) : Bool := match ga_wq[i]?, ga_wq[i + 1]?, ga_wpc[i]? with
  | some q, some q2, some z => Nat.beq q.2.2.1 z.1 && (pt_row gaY 109 [z.2.1, z.2.2] false (z.1 + 3, 0, 0) [wa_r 84] [wa_i 471] [] [(471, (1, 1))] [] [] [((z.2.1, 0, 0), ([wa_r 84], [gz_n q.2.2.2]), [], [])] && pt_row gaY 109 [z.2.1, z.2.2] false (z.1 + 3, 0, 0) [wa_r 84] [wa_i 471] [] [(471, (0, 0))] [] [] [((z.2.2, 0, 0), ([wa_r 84], [rd_ref (q2.1 + 1), wa_r 84]), [], [])]) && pt_is 5 109 z.2.1
  | _, _, _ => false
theorem ga_w_r : (List.range 9).all ga_wrow = true := by decide +kernel
theorem ga_w_e : pt_row gaY 109 [3] true (0, 0, 0) [wa_r 84] [] [] [] [] [] [((3, 0, 0), ([wa_r 84], [rd_ref 1, wa_r 84]), [], [])] = true ∧ pt_row gaY 109 [123] false (113, 0, 0) [wa_r 84] [wa_i 471] [] [(471, (1, 1))] [] [] [((123, 0, 0), ([wa_r 84], [gz_n (-14)]), [], [])] = true ∧ pt_row gaY 109 [123] false (113, 0, 0) [wa_r 84] [wa_i 471] [] [(471, (0, 0))] [] [] [((123, 0, 0), ([wa_r 84], [gz_n (-17)]), [], [])] = true ∧ pt_is 5 109 123 = true ∧ (ct_mt 109).2.2.1 = 1 := by decide +kernel
section GAW
variable {n : Nat} {Z : (Nat → Int) → (Nat → Nat → Int) → Option Int → Prop} {P : pt_P} {r : Nat → Int} {M : Nat → Nat → Int} {A : Nat → Int} {N : Nat}
theorem ga_wself {k : Nat} {r : Nat → Int} : pt_up r (pt_wc [wa_r 84, rd_ref (k + 1)] [wa_r 84, rd_ref (k + 1)]) = r := rfl
/-- a word asked -/
theorem ga_wcall (h : pt_Cl (n + 1) 109 gaY 1 Z P) (hn : 4 ≤ n) {q : Nat × Nat × Nat × Int} (hq : q ∈ ga_wq) (hp : ga_rP A N r M) (k : P (q.2.2.1 + 3, 0, 0) [wa_r 84] [wa_i 471] (pt_set r 471 (if ps_m A q.1 (r 41).toNat (r 40).toNat = true then 1 else 0)) M) : P (q.2.2.1, 0, 0) [wa_r 84] [rd_ref (q.1 + 1), wa_r 84] r M := by
  have k10 : q.1 < 10 := by
    have g : ga_wq.all (fun q => Nat.blt q.1 10) = true := by decide +kernel
    exact Nat.le_of_ble_eq_true (List.all_eq_true.mp g q hq)
  exact gz_cv h (ga_b0 110 (by decide)).1 (show 391 ≤ 471 by omega) (ga_b0 110 (by decide)).2 (List.all_eq_true.mp ga_w_k q hq) (ga_rM (A := A) (N := N) hn k10) hp (fun t ht => rfl) k
theorem ga_rP_c {r2 : Nat → Int} (f : ∀ t, t < 391 → r2 t = r t) (hp : ga_rP A N r M) : ga_rP A N r2 M := by
  obtain ⟨⟨t1, t2, t3⟩, p1, p2, p3⟩ := hp
  exact ⟨⟨(f _ (by omega)).trans t1, t2, t3⟩, by rw [f _ (by omega)]; exact p1, by rw [f _ (by omega), f _ (by omega)]; exact p2, by rw [f _ (by omega)]; exact p3⟩
theorem ga_wone (h : pt_Cl (n + 1) 109 gaY 1 Z P) (hn : 4 ≤ n) (h00 : r 0 = 0) {q : Nat × Nat × Nat × Int} (hq : q ∈ ga_wq) {pr pn : Nat} {Sn : List ai_V} {st : List Nat} (row1 : pt_row gaY 109 st false (q.2.2.1 + 3, 0, 0) [wa_r 84] [wa_i 471] [] [(471, (1, 1))] [] [] [((pr, 0, 0), ([wa_r 84], [gz_n q.2.2.2]), [], [])] = true) (row0 : pt_row gaY 109 st false (q.2.2.1 + 3, 0, 0) [wa_r 84] [wa_i 471] [] [(471, (0, 0))] [] [] [((pn, 0, 0), ([wa_r 84], Sn), [], [])] = true) (his : pt_is 5 109 pr = true) (hp : ga_rP A N r M)
    (hz : ps_m A q.1 (r 41).toNat (r 40).toNat = true → ∀ r2, (∀ t, t < 391 → r2 t = r t) → Z r2 M (some q.2.2.2)) (kn : ¬ ps_m A q.1 (r 41).toNat (r 40).toNat = true → ∀ r2, (∀ t, t < 391 → r2 t = r t) → P (pn, 0, 0) [wa_r 84] Sn r2 M) : P (q.2.2.1, 0, 0) [wa_r 84] [rd_ref (q.1 + 1), wa_r 84] r M := by
  refine ga_wcall h hn hq hp ?_
  obtain ⟨hseg, -, -, -, -, -, -, -, -, -, hret, -⟩ := h
  by_cases m : ps_m A q.1 (r 41).toNat (r 40).toNat = true
  · rw [if_pos m]
    obtain ⟨r1, hr1⟩ : ∃ r1, r1 = pt_set r 471 1 := ⟨_, rfl⟩
    rw [← hr1]
    have f1 : ∀ t, t < 391 → r1 t = r t := fun t ht => by
      rw [hr1]
      exact if_neg (by omega)
    have s1 : r1 471 = 1 := by
      rw [hr1]
      exact gz_sset
    refine hseg _ _ _ _ _ r1 M _ _ _ _ _ row1 ⟨pt_m0, pt_m1 ⟨by show (1 : Int) ≤ r1 471; omega, by show r1 471 ≤ (1 : Int); omega⟩, pt_m0⟩ ⟨fun _ => ?_, trivial⟩
    show P (pr, 0, 0) [wa_r 84] [gz_n q.2.2.2] r1 M
    refine hret (pr, 0, 0) _ (0, q.2.2.2) r1 M rfl his (Nat.ble_eq_true_of_le (Nat.zero_le _)) (Nat.ble_eq_true_of_le (Nat.zero_le _)) ?_
    have ev : ai_vx r1 (0, q.2.2.2) = q.2.2.2 := by
      show r1 0 + q.2.2.2 = _
      rw [f1 0 (by omega), h00, Int.zero_add]
    rw [ev]
    exact hz m r1 f1
  · rw [if_neg m]
    obtain ⟨r1, hr1⟩ : ∃ r1, r1 = pt_set r 471 0 := ⟨_, rfl⟩
    rw [← hr1]
    have f1 : ∀ t, t < 391 → r1 t = r t := fun t ht => by
      rw [hr1]
      exact if_neg (by omega)
    have s1 : r1 471 = 0 := by
      rw [hr1]
      exact gz_sset
    refine hseg _ _ _ _ _ r1 M _ _ _ _ _ row0 ⟨pt_m0, pt_m1 ⟨by show (0 : Int) ≤ r1 471; omega, by show r1 471 ≤ (0 : Int); omega⟩, pt_m0⟩ ⟨fun _ => ?_, trivial⟩
    exact kn m r1 f1
end GAW
theorem ga_w_r1 {i : Nat} (hi : i < 9) : ga_wrow i = true := List.all_eq_true.mp ga_w_r i (List.mem_range.mpr hi)
theorem ga_wM {A : Nat → Int} {N n : Nat} (hn : 4 ≤ n) : pt_Met (n + 1 + 1) 109 gaY [wa_r 84] (ga_rP A N) (gz_pu 391 (fun r => ps_wd A (r 41).toNat (r 40).toNat)) 1 := by
  refine pt_intro (L0 := [wa_r 84]) (ga_b0 109 (by decide)).2 (by omega) gasys (by
    rw [ga_w_e.2.2.2.2]
    rfl) (fun P r M h hp => ?_)
  have h' := h
  obtain ⟨hseg, henv, -, -, -, -, -, -, -, -, hret, -⟩ := h'
  refine henv _ _ _ _ _ (fun hE _ => ?_)
  have h00 : r 0 = 0 := hE.1
  obtain ⟨s, es⟩ : ∃ s, s = (r 41).toNat := ⟨_, rfl⟩
  obtain ⟨e, ee⟩ : ∃ e, e = (r 40).toNat := ⟨_, rfl⟩
  have fin : ∀ r2 v, (∀ t, t < 391 → r2 t = r t) → ps_wd A s e = v → gz_pu 391 (fun r => ps_wd A (r 41).toNat (r 40).toNat) r M r2 M (some v) := fun r2 v f g => by
    refine ⟨?_, rfl, f⟩
    dsimp only
    rw [← es, ← ee, g]
  refine hseg _ _ _ _ _ r M _ _ _ _ _ ga_w_e.1 ⟨pt_m0, pt_m0, pt_m0⟩ ⟨fun _ => ?_, trivial⟩
  show P (3, 0, 0) [wa_r 84] [rd_ref 1, wa_r 84] r M
  have w0 := ga_w_r1 (i := 0) (by omega)
  have w0 : (Nat.beq 3 3 && (pt_row gaY 109 [10, 14] false (3 + 3, 0, 0) [wa_r 84] [wa_i 471] [] [(471, (1, 1))] [] [] [((10, 0, 0), ([wa_r 84], [gz_n (-1)]), [], [])] && pt_row gaY 109 [10, 14] false (3 + 3, 0, 0) [wa_r 84] [wa_i 471] [] [(471, (0, 0))] [] [] [((14, 0, 0), ([wa_r 84], [rd_ref (1 + 1), wa_r 84]), [], [])]) && pt_is 5 109 10) = true := w0
  simp only [Bool.and_eq_true] at w0
  have es0 : (r 41).toNat = s := by rw [es]
  have ee0 : (r 40).toNat = e := by rw [ee]
  refine ga_wone (q := (0, 0, 3, -1)) (r := r) (A := A) (N := N) h hn h00 (by simp [ga_wq]) w0.1.2.1 w0.1.2.2 w0.2 hp (fun m g1 g2 => fin g1 (-1) (fun t ht => (g2 t ht).trans ((fun _ _ => rfl) t ht)) ?_) (fun m g1 g2 => ?_)
  · dsimp only at m
    rw [es0, ee0] at m
    unfold ps_wd
    rw [if_pos m]
  have m0 : ¬ ps_m A 0 s e = true := by
    dsimp only at m
    rw [es0, ee0] at m
    exact m
  have f1 : ∀ t, t < 391 → g1 t = r t := fun t ht => (g2 t ht).trans ((fun _ _ => rfl) t ht)
  clear m g2
  obtain ⟨r1, hr1⟩ : ∃ r1, r1 = g1 := ⟨_, rfl⟩
  rw [← hr1] at f1 ⊢
  clear hr1 g1
  have w1 := ga_w_r1 (i := 1) (by omega)
  have w1 : (Nat.beq 14 14 && (pt_row gaY 109 [22, 26] false (14 + 3, 0, 0) [wa_r 84] [wa_i 471] [] [(471, (1, 1))] [] [] [((22, 0, 0), ([wa_r 84], [gz_n (-2)]), [], [])] && pt_row gaY 109 [22, 26] false (14 + 3, 0, 0) [wa_r 84] [wa_i 471] [] [(471, (0, 0))] [] [] [((26, 0, 0), ([wa_r 84], [rd_ref (2 + 1), wa_r 84]), [], [])]) && pt_is 5 109 22) = true := w1
  simp only [Bool.and_eq_true] at w1
  have es1 : (r1 41).toNat = s := by rw [es, f1 _ (by omega)]
  have ee1 : (r1 40).toNat = e := by rw [ee, f1 _ (by omega)]
  refine ga_wone (q := (1, 11, 14, -2)) (r := r1) (A := A) (N := N) h hn ((f1 0 (by omega)).trans h00) (by simp [ga_wq]) w1.1.2.1 w1.1.2.2 w1.2 (ga_rP_c f1 hp) (fun m g1 g2 => fin g1 (-2) (fun t ht => (g2 t ht).trans (f1 t ht)) ?_) (fun m g1 g2 => ?_)
  · dsimp only at m
    rw [es1, ee1] at m
    unfold ps_wd
    rw [if_neg m0, if_pos m]
  have m1 : ¬ ps_m A 1 s e = true := by
    dsimp only at m
    rw [es1, ee1] at m
    exact m
  have f2 : ∀ t, t < 391 → g1 t = r t := fun t ht => (g2 t ht).trans (f1 t ht)
  clear m g2
  obtain ⟨r2, hr2⟩ : ∃ r2, r2 = g1 := ⟨_, rfl⟩
  rw [← hr2] at f2 ⊢
  clear hr2 g1
  have w2 := ga_w_r1 (i := 2) (by omega)
  have w2 : (Nat.beq 26 26 && (pt_row gaY 109 [34, 38] false (26 + 3, 0, 0) [wa_r 84] [wa_i 471] [] [(471, (1, 1))] [] [] [((34, 0, 0), ([wa_r 84], [gz_n (-3)]), [], [])] && pt_row gaY 109 [34, 38] false (26 + 3, 0, 0) [wa_r 84] [wa_i 471] [] [(471, (0, 0))] [] [] [((38, 0, 0), ([wa_r 84], [rd_ref (3 + 1), wa_r 84]), [], [])]) && pt_is 5 109 34) = true := w2
  simp only [Bool.and_eq_true] at w2
  have es2 : (r2 41).toNat = s := by rw [es, f2 _ (by omega)]
  have ee2 : (r2 40).toNat = e := by rw [ee, f2 _ (by omega)]
  refine ga_wone (q := (2, 23, 26, -3)) (r := r2) (A := A) (N := N) h hn ((f2 0 (by omega)).trans h00) (by simp [ga_wq]) w2.1.2.1 w2.1.2.2 w2.2 (ga_rP_c f2 hp) (fun m g1 g2 => fin g1 (-3) (fun t ht => (g2 t ht).trans (f2 t ht)) ?_) (fun m g1 g2 => ?_)
  · dsimp only at m
    rw [es2, ee2] at m
    unfold ps_wd
    rw [if_neg m0, if_neg m1, if_pos m]
  have m2 : ¬ ps_m A 2 s e = true := by
    dsimp only at m
    rw [es2, ee2] at m
    exact m
  have f3 : ∀ t, t < 391 → g1 t = r t := fun t ht => (g2 t ht).trans (f2 t ht)
  clear m g2
  obtain ⟨r3, hr3⟩ : ∃ r3, r3 = g1 := ⟨_, rfl⟩
  rw [← hr3] at f3 ⊢
  clear hr3 g1
  have w3 := ga_w_r1 (i := 3) (by omega)
  have w3 : (Nat.beq 38 38 && (pt_row gaY 109 [46, 50] false (38 + 3, 0, 0) [wa_r 84] [wa_i 471] [] [(471, (1, 1))] [] [] [((46, 0, 0), ([wa_r 84], [gz_n (-4)]), [], [])] && pt_row gaY 109 [46, 50] false (38 + 3, 0, 0) [wa_r 84] [wa_i 471] [] [(471, (0, 0))] [] [] [((50, 0, 0), ([wa_r 84], [rd_ref (4 + 1), wa_r 84]), [], [])]) && pt_is 5 109 46) = true := w3
  simp only [Bool.and_eq_true] at w3
  have es3 : (r3 41).toNat = s := by rw [es, f3 _ (by omega)]
  have ee3 : (r3 40).toNat = e := by rw [ee, f3 _ (by omega)]
  refine ga_wone (q := (3, 35, 38, -4)) (r := r3) (A := A) (N := N) h hn ((f3 0 (by omega)).trans h00) (by simp [ga_wq]) w3.1.2.1 w3.1.2.2 w3.2 (ga_rP_c f3 hp) (fun m g1 g2 => fin g1 (-4) (fun t ht => (g2 t ht).trans (f3 t ht)) ?_) (fun m g1 g2 => ?_)
  · dsimp only at m
    rw [es3, ee3] at m
    unfold ps_wd
    rw [if_neg m0, if_neg m1, if_neg m2, if_pos m]
  have m3 : ¬ ps_m A 3 s e = true := by
    dsimp only at m
    rw [es3, ee3] at m
    exact m
  have f4 : ∀ t, t < 391 → g1 t = r t := fun t ht => (g2 t ht).trans (f3 t ht)
  clear m g2
  obtain ⟨r4, hr4⟩ : ∃ r4, r4 = g1 := ⟨_, rfl⟩
  rw [← hr4] at f4 ⊢
  clear hr4 g1
  have w4 := ga_w_r1 (i := 4) (by omega)
  have w4 : (Nat.beq 50 50 && (pt_row gaY 109 [58, 62] false (50 + 3, 0, 0) [wa_r 84] [wa_i 471] [] [(471, (1, 1))] [] [] [((58, 0, 0), ([wa_r 84], [gz_n (-5)]), [], [])] && pt_row gaY 109 [58, 62] false (50 + 3, 0, 0) [wa_r 84] [wa_i 471] [] [(471, (0, 0))] [] [] [((62, 0, 0), ([wa_r 84], [rd_ref (8 + 1), wa_r 84]), [], [])]) && pt_is 5 109 58) = true := w4
  simp only [Bool.and_eq_true] at w4
  have es4 : (r4 41).toNat = s := by rw [es, f4 _ (by omega)]
  have ee4 : (r4 40).toNat = e := by rw [ee, f4 _ (by omega)]
  refine ga_wone (q := (4, 47, 50, -5)) (r := r4) (A := A) (N := N) h hn ((f4 0 (by omega)).trans h00) (by simp [ga_wq]) w4.1.2.1 w4.1.2.2 w4.2 (ga_rP_c f4 hp) (fun m g1 g2 => fin g1 (-5) (fun t ht => (g2 t ht).trans (f4 t ht)) ?_) (fun m g1 g2 => ?_)
  · dsimp only at m
    rw [es4, ee4] at m
    unfold ps_wd
    rw [if_neg m0, if_neg m1, if_neg m2, if_neg m3, if_pos m]
  have m4 : ¬ ps_m A 4 s e = true := by
    dsimp only at m
    rw [es4, ee4] at m
    exact m
  have f5 : ∀ t, t < 391 → g1 t = r t := fun t ht => (g2 t ht).trans (f4 t ht)
  clear m g2
  obtain ⟨r5, hr5⟩ : ∃ r5, r5 = g1 := ⟨_, rfl⟩
  rw [← hr5] at f5 ⊢
  clear hr5 g1
  have w5 := ga_w_r1 (i := 5) (by omega)
  have w5 : (Nat.beq 62 62 && (pt_row gaY 109 [70, 74] false (62 + 3, 0, 0) [wa_r 84] [wa_i 471] [] [(471, (1, 1))] [] [] [((70, 0, 0), ([wa_r 84], [gz_n (-15)]), [], [])] && pt_row gaY 109 [70, 74] false (62 + 3, 0, 0) [wa_r 84] [wa_i 471] [] [(471, (0, 0))] [] [] [((74, 0, 0), ([wa_r 84], [rd_ref (9 + 1), wa_r 84]), [], [])]) && pt_is 5 109 70) = true := w5
  simp only [Bool.and_eq_true] at w5
  have es5 : (r5 41).toNat = s := by rw [es, f5 _ (by omega)]
  have ee5 : (r5 40).toNat = e := by rw [ee, f5 _ (by omega)]
  refine ga_wone (q := (8, 59, 62, -15)) (r := r5) (A := A) (N := N) h hn ((f5 0 (by omega)).trans h00) (by simp [ga_wq]) w5.1.2.1 w5.1.2.2 w5.2 (ga_rP_c f5 hp) (fun m g1 g2 => fin g1 (-15) (fun t ht => (g2 t ht).trans (f5 t ht)) ?_) (fun m g1 g2 => ?_)
  · dsimp only at m
    rw [es5, ee5] at m
    unfold ps_wd
    rw [if_neg m0, if_neg m1, if_neg m2, if_neg m3, if_neg m4, if_pos m]
  have m5 : ¬ ps_m A 8 s e = true := by
    dsimp only at m
    rw [es5, ee5] at m
    exact m
  have f6 : ∀ t, t < 391 → g1 t = r t := fun t ht => (g2 t ht).trans (f5 t ht)
  clear m g2
  obtain ⟨r6, hr6⟩ : ∃ r6, r6 = g1 := ⟨_, rfl⟩
  rw [← hr6] at f6 ⊢
  clear hr6 g1
  have w6 := ga_w_r1 (i := 6) (by omega)
  have w6 : (Nat.beq 74 74 && (pt_row gaY 109 [82, 86] false (74 + 3, 0, 0) [wa_r 84] [wa_i 471] [] [(471, (1, 1))] [] [] [((82, 0, 0), ([wa_r 84], [gz_n (-16)]), [], [])] && pt_row gaY 109 [82, 86] false (74 + 3, 0, 0) [wa_r 84] [wa_i 471] [] [(471, (0, 0))] [] [] [((86, 0, 0), ([wa_r 84], [rd_ref (5 + 1), wa_r 84]), [], [])]) && pt_is 5 109 82) = true := w6
  simp only [Bool.and_eq_true] at w6
  have es6 : (r6 41).toNat = s := by rw [es, f6 _ (by omega)]
  have ee6 : (r6 40).toNat = e := by rw [ee, f6 _ (by omega)]
  refine ga_wone (q := (9, 71, 74, -16)) (r := r6) (A := A) (N := N) h hn ((f6 0 (by omega)).trans h00) (by simp [ga_wq]) w6.1.2.1 w6.1.2.2 w6.2 (ga_rP_c f6 hp) (fun m g1 g2 => fin g1 (-16) (fun t ht => (g2 t ht).trans (f6 t ht)) ?_) (fun m g1 g2 => ?_)
  · dsimp only at m
    rw [es6, ee6] at m
    unfold ps_wd
    rw [if_neg m0, if_neg m1, if_neg m2, if_neg m3, if_neg m4, if_neg m5, if_pos m]
  have m6 : ¬ ps_m A 9 s e = true := by
    dsimp only at m
    rw [es6, ee6] at m
    exact m
  have f7 : ∀ t, t < 391 → g1 t = r t := fun t ht => (g2 t ht).trans (f6 t ht)
  clear m g2
  obtain ⟨r7, hr7⟩ : ∃ r7, r7 = g1 := ⟨_, rfl⟩
  rw [← hr7] at f7 ⊢
  clear hr7 g1
  have w7 := ga_w_r1 (i := 7) (by omega)
  have w7 : (Nat.beq 86 86 && (pt_row gaY 109 [94, 98] false (86 + 3, 0, 0) [wa_r 84] [wa_i 471] [] [(471, (1, 1))] [] [] [((94, 0, 0), ([wa_r 84], [gz_n (-12)]), [], [])] && pt_row gaY 109 [94, 98] false (86 + 3, 0, 0) [wa_r 84] [wa_i 471] [] [(471, (0, 0))] [] [] [((98, 0, 0), ([wa_r 84], [rd_ref (6 + 1), wa_r 84]), [], [])]) && pt_is 5 109 94) = true := w7
  simp only [Bool.and_eq_true] at w7
  have es7 : (r7 41).toNat = s := by rw [es, f7 _ (by omega)]
  have ee7 : (r7 40).toNat = e := by rw [ee, f7 _ (by omega)]
  refine ga_wone (q := (5, 83, 86, -12)) (r := r7) (A := A) (N := N) h hn ((f7 0 (by omega)).trans h00) (by simp [ga_wq]) w7.1.2.1 w7.1.2.2 w7.2 (ga_rP_c f7 hp) (fun m g1 g2 => fin g1 (-12) (fun t ht => (g2 t ht).trans (f7 t ht)) ?_) (fun m g1 g2 => ?_)
  · dsimp only at m
    rw [es7, ee7] at m
    unfold ps_wd
    rw [if_neg m0, if_neg m1, if_neg m2, if_neg m3, if_neg m4, if_neg m5, if_neg m6, if_pos m]
  have m7 : ¬ ps_m A 5 s e = true := by
    dsimp only at m
    rw [es7, ee7] at m
    exact m
  have f8 : ∀ t, t < 391 → g1 t = r t := fun t ht => (g2 t ht).trans (f7 t ht)
  clear m g2
  obtain ⟨r8, hr8⟩ : ∃ r8, r8 = g1 := ⟨_, rfl⟩
  rw [← hr8] at f8 ⊢
  clear hr8 g1
  have w8 := ga_w_r1 (i := 8) (by omega)
  have w8 : (Nat.beq 98 98 && (pt_row gaY 109 [106, 110] false (98 + 3, 0, 0) [wa_r 84] [wa_i 471] [] [(471, (1, 1))] [] [] [((106, 0, 0), ([wa_r 84], [gz_n (-13)]), [], [])] && pt_row gaY 109 [106, 110] false (98 + 3, 0, 0) [wa_r 84] [wa_i 471] [] [(471, (0, 0))] [] [] [((110, 0, 0), ([wa_r 84], [rd_ref (7 + 1), wa_r 84]), [], [])]) && pt_is 5 109 106) = true := w8
  simp only [Bool.and_eq_true] at w8
  have es8 : (r8 41).toNat = s := by rw [es, f8 _ (by omega)]
  have ee8 : (r8 40).toNat = e := by rw [ee, f8 _ (by omega)]
  refine ga_wone (q := (6, 95, 98, -13)) (r := r8) (A := A) (N := N) h hn ((f8 0 (by omega)).trans h00) (by simp [ga_wq]) w8.1.2.1 w8.1.2.2 w8.2 (ga_rP_c f8 hp) (fun m g1 g2 => fin g1 (-13) (fun t ht => (g2 t ht).trans (f8 t ht)) ?_) (fun m g1 g2 => ?_)
  · dsimp only at m
    rw [es8, ee8] at m
    unfold ps_wd
    rw [if_neg m0, if_neg m1, if_neg m2, if_neg m3, if_neg m4, if_neg m5, if_neg m6, if_neg m7, if_pos m]
  have m8 : ¬ ps_m A 6 s e = true := by
    dsimp only at m
    rw [es8, ee8] at m
    exact m
  have f9 : ∀ t, t < 391 → g1 t = r t := fun t ht => (g2 t ht).trans (f8 t ht)
  clear m g2
  obtain ⟨r9, hr9⟩ : ∃ r9, r9 = g1 := ⟨_, rfl⟩
  rw [← hr9] at f9 ⊢
  clear hr9 g1
  have es9 : (r9 41).toNat = s := by rw [es, f9 _ (by omega)]
  have ee9 : (r9 40).toNat = e := by rw [ee, f9 _ (by omega)]
  refine ga_wone (q := (7, 107, 110, -14)) (r := r9) (A := A) (N := N) h hn ((f9 0 (by omega)).trans h00) (by simp [ga_wq]) ga_w_e.2.1 ga_w_e.2.2.1 ga_w_e.2.2.2.1 (ga_rP_c f9 hp) (fun m g1 g2 => fin g1 (-14) (fun t ht => (g2 t ht).trans (f9 t ht)) ?_) (fun m g1 g2 => ?_)
  · dsimp only at m
    rw [es9, ee9] at m
    unfold ps_wd
    rw [if_neg m0, if_neg m1, if_neg m2, if_neg m3, if_neg m4, if_neg m5, if_neg m6, if_neg m7, if_neg m8, if_pos m]
  have m9 : ¬ ps_m A 7 s e = true := by
    dsimp only at m
    rw [es9, ee9] at m
    exact m
  have f10 : ∀ t, t < 391 → g1 t = r t := fun t ht => (g2 t ht).trans (f9 t ht)
  clear m g2
  obtain ⟨r10, hr10⟩ : ∃ r10, r10 = g1 := ⟨_, rfl⟩
  rw [← hr10] at f10 ⊢
  clear hr10 g1
  show P (123, 0, 0) [wa_r 84] [gz_n (-17)] r10 M
  refine hret (123, 0, 0) _ (0, -17) r10 M rfl ga_w_e.2.2.2.1 (by decide +kernel) (by decide +kernel) ?_
  have ev : ai_vx r10 (0, -17) = -17 := by
    show r10 0 + -17 = _
    rw [f10 0 (by omega), h00]
    rfl
  rw [ev]
  refine fin r10 _ f10 ?_
  unfold ps_wd
  rw [if_neg m0, if_neg m1, if_neg m2, if_neg m3, if_neg m4, if_neg m5, if_neg m6, if_neg m7, if_neg m8, if_neg m9]
