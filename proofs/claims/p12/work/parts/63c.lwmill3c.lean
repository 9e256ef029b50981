/-! THE LAW: mill of kind 2 by boxes of its other numbers -/
noncomputable def lx_bx (l : List (Int × List (Int × Int))) : Int → List (Int × Int) := fun j => match l.find? (fun q => ai_eq q.1 j) with
  | some q => q.2
  | none => [(ai_lo32, ai_hi32)]
theorem lx_bx_cov {l : List (Int × List (Int × Int))} {y : Int → Int} (hy : ∀ k, ai_lo32 ≤ y k ∧ y k ≤ ai_hi32) (h : ∀ q ∈ l, ∃ b ∈ q.2, b.1 ≤ y q.1 ∧ y q.1 ≤ b.2) : ∀ k, 0 ≤ k → k ≤ 9 → ∃ q ∈ lx_bx l k, q.1 ≤ y k ∧ y k ≤ q.2 := fun k _ _ => by
  unfold lx_bx
  cases e : l.find? (fun q => ai_eq q.1 k) with
  | none => exact ⟨_, List.mem_cons_self, hy k⟩
  | some q =>
    have e1 := List.mem_of_find?_eq_some e
    have e2 := List.find?_some e
    have e2 := ai_eq_iff.mp e2
    obtain ⟨b, b1, b2⟩ := h q e1
    rw [e2] at b2
    exact ⟨b, b1, b2⟩
theorem lx_ex1 {a : Int × Int} {x : Int} (h : a.1 ≤ x ∧ x ≤ a.2) : ∃ z ∈ [a], z.1 ≤ x ∧ x ≤ z.2 := ⟨a, List.mem_cons_self, h⟩
theorem lx_ex2 {a b : Int × Int} {x : Int} (h : (a.1 ≤ x ∧ x ≤ a.2) ∨ (b.1 ≤ x ∧ x ≤ b.2)) : ∃ z ∈ [a, b], z.1 ≤ x ∧ x ≤ z.2 := by
  rcases h with h | h
  · exact ⟨a, List.mem_cons_self, h⟩
  · exact ⟨b, List.mem_cons_of_mem _ List.mem_cons_self, h⟩
noncomputable def lx_SX (T : List (Nat × us_C)) (C : List Nat) (P : List (Nat × Nat × Nat)) (k v : Nat) : Prop := ∀ y : Int → Int, (∀ j, ai_lo32 ≤ y j ∧ y j ≤ ai_hi32) → y 2 = 2 → ∃ B : Int → List (Int × Int), (∀ j, 0 ≤ j → j ≤ 9 → ∃ b ∈ B j, b.1 ≤ y j ∧ y j ≤ b.2) ∧ lx_mkA T B C P k v = true
noncomputable def lx_bA : List (Int × List (Int × Int)) := [(2, [(2, 2)]), (3, [(-2147483648, -1), (3, 2147483647)])]
noncomputable def lx_bB : List (Int × List (Int × Int)) := [(2, [(2, 2)]), (3, [(0, 2)]), (4, [(-2147483648, 0), (8, 2147483647)])]
noncomputable def lx_bC : List (Int × List (Int × Int)) := [(2, [(2, 2)]), (3, [(0, 2)]), (4, [(1, 7)]), (5, [(-2147483648, -1), (1000, 2147483647)])]
noncomputable def lx_bD : List (Int × List (Int × Int)) := [(2, [(2, 2)]), (3, [(0, 2)]), (4, [(1, 7)]), (5, [(0, 999)]), (6, [(-2147483648, -1), (16, 2147483647)])]
noncomputable def lx_bE : List (Int × List (Int × Int)) := [(2, [(2, 2)]), (3, [(0, 2)]), (4, [(1, 7)]), (5, [(0, 999)]), (6, [(0, 15)]), (7, [(-2147483648, -1), (8, 2147483647)])]
noncomputable def lx_bF : List (Int × List (Int × Int)) := [(2, [(2, 2)]), (3, [(0, 2)]), (4, [(1, 7)]), (5, [(0, 999)]), (6, [(0, 15)]), (7, [(0, 7)])]
theorem lx_six {T : List (Nat × us_C)} {C : List Nat} {P : List (Nat × Nat × Nat)} {k v : Nat} (hA : lx_mkA T (lx_bx lx_bA) C P k v = true) (hB : lx_mkA T (lx_bx lx_bB) C P k v = true) (hC : lx_mkA T (lx_bx lx_bC) C P k v = true) (hD : lx_mkA T (lx_bx lx_bD) C P k v = true) (hE : lx_mkA T (lx_bx lx_bE) C P k v = true) (hF : lx_mkA T (lx_bx lx_bF) C P k v = true) : lx_SX T C P k v := fun y hy h2 => by
  have b3 := hy 3
  have b4 := hy 4
  have b5 := hy 5
  have b6 := hy 6
  have b7 := hy 7
  unfold ai_lo32 ai_hi32 at b3 b4 b5 b6 b7
  by_cases p0 : y 3 ≤ -1 ∨ 3 ≤ y 3
  · exact ⟨_, lx_bx_cov (l := lx_bA) hy (List.forall_mem_cons.mpr ⟨lx_ex1 (by show (2 : Int) ≤ y 2 ∧ y 2 ≤ (2 : Int); omega), List.forall_mem_cons.mpr ⟨lx_ex2 (by show ((-2147483648 : Int) ≤ y 3 ∧ y 3 ≤ (-1 : Int)) ∨ ((3 : Int) ≤ y 3 ∧ y 3 ≤ (2147483647 : Int)); omega), fun _ q => nomatch q⟩⟩), hA⟩
  by_cases p1 : y 4 ≤ 0 ∨ 8 ≤ y 4
  · exact ⟨_, lx_bx_cov (l := lx_bB) hy (List.forall_mem_cons.mpr ⟨lx_ex1 (by show (2 : Int) ≤ y 2 ∧ y 2 ≤ (2 : Int); omega), List.forall_mem_cons.mpr ⟨lx_ex1 (by show (0 : Int) ≤ y 3 ∧ y 3 ≤ (2 : Int); omega), List.forall_mem_cons.mpr ⟨lx_ex2 (by show ((-2147483648 : Int) ≤ y 4 ∧ y 4 ≤ (0 : Int)) ∨ ((8 : Int) ≤ y 4 ∧ y 4 ≤ (2147483647 : Int)); omega), fun _ q => nomatch q⟩⟩⟩), hB⟩
  by_cases p2 : y 5 ≤ -1 ∨ 1000 ≤ y 5
  · exact ⟨_, lx_bx_cov (l := lx_bC) hy (List.forall_mem_cons.mpr ⟨lx_ex1 (by show (2 : Int) ≤ y 2 ∧ y 2 ≤ (2 : Int); omega), List.forall_mem_cons.mpr ⟨lx_ex1 (by show (0 : Int) ≤ y 3 ∧ y 3 ≤ (2 : Int); omega), List.forall_mem_cons.mpr ⟨lx_ex1 (by show (1 : Int) ≤ y 4 ∧ y 4 ≤ (7 : Int); omega), List.forall_mem_cons.mpr ⟨lx_ex2 (by show ((-2147483648 : Int) ≤ y 5 ∧ y 5 ≤ (-1 : Int)) ∨ ((1000 : Int) ≤ y 5 ∧ y 5 ≤ (2147483647 : Int)); omega), fun _ q => nomatch q⟩⟩⟩⟩), hC⟩
  by_cases p3 : y 6 ≤ -1 ∨ 16 ≤ y 6
  · exact ⟨_, lx_bx_cov (l := lx_bD) hy (List.forall_mem_cons.mpr ⟨lx_ex1 (by show (2 : Int) ≤ y 2 ∧ y 2 ≤ (2 : Int); omega), List.forall_mem_cons.mpr ⟨lx_ex1 (by show (0 : Int) ≤ y 3 ∧ y 3 ≤ (2 : Int); omega), List.forall_mem_cons.mpr ⟨lx_ex1 (by show (1 : Int) ≤ y 4 ∧ y 4 ≤ (7 : Int); omega), List.forall_mem_cons.mpr ⟨lx_ex1 (by show (0 : Int) ≤ y 5 ∧ y 5 ≤ (999 : Int); omega), List.forall_mem_cons.mpr ⟨lx_ex2 (by show ((-2147483648 : Int) ≤ y 6 ∧ y 6 ≤ (-1 : Int)) ∨ ((16 : Int) ≤ y 6 ∧ y 6 ≤ (2147483647 : Int)); omega), fun _ q => nomatch q⟩⟩⟩⟩⟩), hD⟩
  by_cases p4 : y 7 ≤ -1 ∨ 8 ≤ y 7
  · exact ⟨_, lx_bx_cov (l := lx_bE) hy (List.forall_mem_cons.mpr ⟨lx_ex1 (by show (2 : Int) ≤ y 2 ∧ y 2 ≤ (2 : Int); omega), List.forall_mem_cons.mpr ⟨lx_ex1 (by show (0 : Int) ≤ y 3 ∧ y 3 ≤ (2 : Int); omega), List.forall_mem_cons.mpr ⟨lx_ex1 (by show (1 : Int) ≤ y 4 ∧ y 4 ≤ (7 : Int); omega), List.forall_mem_cons.mpr ⟨lx_ex1 (by show (0 : Int) ≤ y 5 ∧ y 5 ≤ (999 : Int); omega), List.forall_mem_cons.mpr ⟨lx_ex1 (by show (0 : Int) ≤ y 6 ∧ y 6 ≤ (15 : Int); omega), List.forall_mem_cons.mpr ⟨lx_ex2 (by show ((-2147483648 : Int) ≤ y 7 ∧ y 7 ≤ (-1 : Int)) ∨ ((8 : Int) ≤ y 7 ∧ y 7 ≤ (2147483647 : Int)); omega), fun _ q => nomatch q⟩⟩⟩⟩⟩⟩), hE⟩
  exact ⟨_, lx_bx_cov (l := lx_bF) hy (List.forall_mem_cons.mpr ⟨lx_ex1 (by show (2 : Int) ≤ y 2 ∧ y 2 ≤ (2 : Int); omega), List.forall_mem_cons.mpr ⟨lx_ex1 (by show (0 : Int) ≤ y 3 ∧ y 3 ≤ (2 : Int); omega), List.forall_mem_cons.mpr ⟨lx_ex1 (by show (1 : Int) ≤ y 4 ∧ y 4 ≤ (7 : Int); omega), List.forall_mem_cons.mpr ⟨lx_ex1 (by show (0 : Int) ≤ y 5 ∧ y 5 ≤ (999 : Int); omega), List.forall_mem_cons.mpr ⟨lx_ex1 (by show (0 : Int) ≤ y 6 ∧ y 6 ≤ (15 : Int); omega), List.forall_mem_cons.mpr ⟨lx_ex1 (by show (0 : Int) ≤ y 7 ∧ y 7 ≤ (7 : Int); omega), fun _ q => nomatch q⟩⟩⟩⟩⟩⟩), hF⟩
theorem lx_MKQ6 {k v : Nat} {T T2 : List (Nat × us_C)} {C C2 : List Nat} {P0 P P2 : List (Nat × Nat × Nat)} (hT : lt_all 60 T) (hT2 : lt_all 60 T2) (hP0 : lx_pcK k P0 = true) (hP : lx_pcK k P = true) (h1 : lx_mkU T (lx_bk (-2147483648) (-1)) C P0 P k = true) (h2 : lx_mkU T (lx_bk 4 2147483647) C P0 P k = true) (h3 : lx_mkU T (lx_bk 0 0) C P0 P k = true) (h4 : lx_mkU T (lx_bk 1 1) C P0 P k = true) (h5 : lx_mkU T (lx_bk 3 3) C P0 P k = true) (h6 : lx_SX T2 C2 P2 k v) : lx_MKQ k v := fun y hy => by
  have b2 := hy 2
  unfold ai_lo32 ai_hi32 at b2
  by_cases p1 : y 2 ≤ -1
  · exact ⟨_, _, _, _, lx_bk_cov hy ⟨b2.1, p1⟩, hT, Or.inr ⟨P0, hP0, hP, h1⟩⟩
  by_cases p2 : 4 ≤ y 2
  · exact ⟨_, _, _, _, lx_bk_cov hy ⟨p2, b2.2⟩, hT, Or.inr ⟨P0, hP0, hP, h2⟩⟩
  by_cases p3 : y 2 = 0
  · exact ⟨_, _, _, _, lx_bk_cov hy ⟨by omega, by omega⟩, hT, Or.inr ⟨P0, hP0, hP, h3⟩⟩
  by_cases p4 : y 2 = 1
  · exact ⟨_, _, _, _, lx_bk_cov hy ⟨by omega, by omega⟩, hT, Or.inr ⟨P0, hP0, hP, h4⟩⟩
  by_cases p5 : y 2 = 3
  · exact ⟨_, _, _, _, lx_bk_cov hy ⟨by omega, by omega⟩, hT, Or.inr ⟨P0, hP0, hP, h5⟩⟩
  obtain ⟨B, w1, w2⟩ := h6 y hy (by omega)
  exact ⟨_, _, _, _, w1, hT2, Or.inl w2⟩

theorem lx_m3_0_A : lx_mkA lx_Tv3 (lx_bx lx_bA) [270, 271, 272, 273, 274, 275, 276, 277, 278, 293] lx_P2 3 0 = true := by decide +kernel
theorem lx_m3_0_B : lx_mkA lx_Tv3 (lx_bx lx_bB) [270, 271, 272, 273, 274, 275, 276, 277, 278, 293] lx_P2 3 0 = true := by decide +kernel
theorem lx_m3_0_C : lx_mkA lx_Tv3 (lx_bx lx_bC) [270, 271, 272, 273, 274, 275, 276, 277, 278, 293] lx_P2 3 0 = true := by decide +kernel
theorem lx_m3_0_D : lx_mkA lx_Tv3 (lx_bx lx_bD) [270, 271, 272, 273, 274, 275, 276, 277, 278, 293] lx_P2 3 0 = true := by decide +kernel
theorem lx_m3_0_E : lx_mkA lx_Tv3 (lx_bx lx_bE) [270, 271, 272, 273, 274, 275, 276, 277, 278, 293] lx_P2 3 0 = true := by decide +kernel
theorem lx_m3_0_F : lx_mkA lx_Tv3 (lx_bx lx_bF) [270, 271, 272, 273, 274, 275, 276, 277, 278, 293] lx_P2 3 0 = true := by decide +kernel
theorem lx_m3_0 : lx_SX lx_Tv3 [270, 271, 272, 273, 274, 275, 276, 277, 278, 293] lx_P2 3 0 := lx_six lx_m3_0_A lx_m3_0_B lx_m3_0_C lx_m3_0_D lx_m3_0_E lx_m3_0_F
