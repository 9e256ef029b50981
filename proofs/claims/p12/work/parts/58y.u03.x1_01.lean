/-! ASKED (the class): joined, push, pull -/
noncomputable def jo_st : List Nat := [51, 55, 59, 71, 82, 93, 107, 121]
noncomputable def jo_pc (c : Int) : Nat := if c = -6 then 51 else if c = -7 then 55 else if c = -8 then 59 else if c = -9 then 71 else if c = -10 then 82 else if c = -11 then 93 else if c = -13 then 107 else 121
theorem jo_c : (ak_tab 424).all (ak_row gdY 67 424 jo_st (fun c => c) jo_pc) = true := by decide +kernel
theorem jo_k : (ak_ops.all (fun c => pt_is 5 67 (jo_pc c)) = true ∧ (ct_mt 67).2.2.1 = 3) ∧ lh_plain 67 = true ∧ ct_bud 67 = (0, 0) := by decide +kernel
theorem gd_i32 {r : Nat → Int} (hE : ai_gE r gdY.1) : (-2147483648 ≤ r 425 ∧ r 425 ≤ 2147483647) ∧ (-2147483648 ≤ r 426 ∧ r 426 ≤ 2147483647) ∧ -2147483648 ≤ r 424 ∧ r 424 ≤ 2147483647 := by
  have w : ((425, ((-2147483648 : Int), (2147483647 : Int))) ∈ gdE.2.1 ∧ (426, ((-2147483648 : Int), (2147483647 : Int))) ∈ gdE.2.1) ∧ (424, ((-2147483648 : Int), (2147483647 : Int))) ∈ gdE.2.1 := by decide +kernel
  exact ⟨(hE.2.2.2.1 _ w.1.1).2, (hE.2.2.2.1 _ w.1.2).2, (hE.2.2.2.1 _ w.2).2⟩
theorem jo_M {n : Nat} (hn : 4 ≤ n) : pt_Met (n + 1) 67 gdY (ak_tL 424) (fun r _ => r 424 ∈ ak_ops) (fun r M r2 M2 o => o = some (ak_j (r 424) (r 425) (r 426)) ∧ (∀ t, t < 424 → r2 t = r t) ∧ M2 = M) 1 := by
  refine pt_intro (L0 := ak_tL 424) jo_k.2.1 hn gdsys (by
    rw [jo_k.1.2]
    rfl) (fun P r M h hp => ?_)
  have h' := h
  obtain ⟨-, henv, -⟩ := h'
  refine henv _ _ _ _ _ (fun hE _ => ?_)
  obtain ⟨b1, b2, -⟩ := gd_i32 hE
  exact ak_two (c := r 424) h jo_c jo_k.1.1 hp rfl b1 b2 (fun r2 f => ⟨rfl, f, rfl⟩)
noncomputable def pu_L (v : Nat) : List ai_V := [wa_r (46 + 6 * v), wa_i 424]
noncomputable def pu_d (v : Nat) : Nat := 12 + 8 * v
theorem pu_c : (List.range 4).all (fun v => (pt_row gdY 68 [15] true (0, 0, 0) (pu_L v) [] [] [(pu_d v, (0, 47))] [] [] [((15, 0, 0), (pu_L v, [wa_r (49 + 6 * v), wa_i (pu_d v)]), [], [])] && pt_row gdY 68 [28, 39] false (16, 0, 0) (pu_L v) [wa_k 48, wa_i (pu_d v)] [] [(pu_d v, (0, 47))] [] [] [((28, 0, 0), (pu_L v, [wa_i 424, wa_i (pu_d v), wa_r (49 + 6 * v)]), [], [])]) && pt_row gdY 68 [39] false (29, 0, 0) (pu_L v) [] [] [(pu_d v, (0, 47))] [] [] [((39, 0, 0), (pu_L v, []), [(pu_d v, gz_d (pu_d v) 1)], [])]) = true := by decide +kernel
theorem pu_k : (List.range 4).all (fun v => pt_nck gdY 68 15 (49 + 6 * v) 48 && pt_sck gdY 68 28 2 (49 + 6 * v) 48 0) = true ∧ (pt_is 7 68 39 = true ∧ (ct_mt 68).2.2.1 = 2) ∧ lh_plain 68 = true ∧ ct_bud 68 = (0, 0) := by decide +kernel
theorem pu_M {n v : Nat} {st : List Int} (hn : 4 ≤ n) (hv : v < 4) (hs : st.length < 48) : pt_Met (n + 1) 68 gdY (pu_L v) (fun r M => r (pu_d v) = (st.length : Int) ∧ ak_at (49 + 6 * v) st M) (fun r M r2 M2 o => o = none ∧ (r2 (pu_d v) = ((r 424 :: st).length : Int) ∧ ak_at (49 + 6 * v) (r 424 :: st) M2) ∧ (∀ t, t < 424 → t ≠ pu_d v → r2 t = r t) ∧ ∀ z, z ≠ 49 + 6 * v → M2 z = M z) 0 := by
  refine pt_introN (L0 := pu_L v) pu_k.2.2.1 hn gdsys (by
    rw [pu_k.2.1.2]
    rfl) (fun P r M h hlen hp => ?_)
  have h' := h
  obtain ⟨hseg, -, -, -, -, -, hst, -, -, -, -, -, -, hvret⟩ := h'
  have cc := List.all_eq_true.mp pu_c v (List.mem_range.mpr hv)
  simp only [Bool.and_eq_true] at cc
  obtain ⟨⟨c1, c2⟩, c3⟩ := cc
  have ck := List.all_eq_true.mp pu_k.1 v (List.mem_range.mpr hv)
  rw [Bool.and_eq_true] at ck
  obtain ⟨p1, p2⟩ := hp
  have bd : (0 : Int) ≤ r (pu_d v) ∧ r (pu_d v) ≤ 47 := by omega
  refine hseg _ _ _ _ _ r M _ _ _ _ _ c1 ⟨pt_m0, pt_m1 bd, pt_m0⟩ ⟨fun _ => ?_, trivial⟩
  refine hlen (15, 0, 0) _ [wa_i (pu_d v)] r _ (49 + 6 * v) 48 ck.1 ?_
  refine hseg _ _ _ _ _ r M _ _ _ _ _ c2 ⟨pt_m0, pt_m1 bd, pt_m0⟩ ⟨fun _ => ?_, trivial⟩
  refine hst (28, 0, 0) _ [] r M (49 + 6 * v) 48 st.length (pu_d v, 0) (424, 0) ck.2 (by omega) (by show r (pu_d v) + 0 = _; omega) ?_
  have ev : ai_vx r (424, 0) = r 424 := Int.add_zero _
  rw [ev]
  refine hseg _ _ _ _ _ r _ _ _ _ _ _ c3 ⟨pt_m0, pt_m1 bd, pt_m0⟩ ⟨fun _ => ?_, trivial⟩
  obtain ⟨r2, hr2⟩ : ∃ r2, r2 = pt_up r [(pu_d v, gz_d (pu_d v) 1)] := ⟨_, rfl⟩
  show P (39, 0, 0) (pu_L v) [] (pt_up r [(pu_d v, gz_d (pu_d v) 1)]) _
  rw [← hr2]
  have v2 : ∀ t, r2 t = if t = pu_d v then r (pu_d v) + 1 else r t := fun t => by
    rw [hr2]
    rfl
  refine hvret (39, 0, 0) _ r2 _ rfl pu_k.2.1.1 (by decide +kernel) (by decide +kernel) ⟨rfl, ⟨?_, ak_at_push p2⟩, fun t _ b => ?_, fun z hz => ?_⟩
  · rw [v2, if_pos rfl, p1, List.length_cons]
    omega
  · rw [v2, if_neg b]
  · funext x
    exact if_neg (fun w => hz w.1)
noncomputable def qp_L (v : Nat) : List ai_V := [wa_r (46 + 6 * v)]
theorem qp_c : (List.range 4).all (fun v => pt_row gdY 69 [15] true (0, 0, 0) (qp_L v) [] [] [(pu_d v, (1, 48))] [] [] [((15, 0, 0), (qp_L v, [wa_r (49 + 6 * v), wa_i (pu_d v)]), [], [])] && pt_row gdY 69 [20, 39] false (16, 0, 0) (qp_L v) [wa_k 48, wa_i (pu_d v)] [] [(pu_d v, (1, 48))] [] [] [((39, 0, 0), (qp_L v, [wa_i (pu_d v), wa_r (49 + 6 * v)]), [(pu_d v, gz_d (pu_d v) (-1))], [])]) = true := by decide +kernel
theorem qp_k : (List.range 4).all (fun v => pt_nck gdY 69 15 (49 + 6 * v) 48 && pt_lck gdY 69 39 1 (49 + 6 * v) 48 0 506 (qp_L v) []) = true ∧ (pt_is 5 69 40 = true ∧ (ct_mt 69).2.2.1 = 1) ∧ lh_plain 69 = true ∧ ct_bud 69 = (0, 0) := by decide +kernel
theorem qp_M {n v : Nat} {x : Int} {st : List Int} (hn : 4 ≤ n) (hv : v < 4) (hs : st.length < 48) : pt_Met (n + 1) 69 gdY (qp_L v) (fun r M => r (pu_d v) = ((x :: st).length : Int) ∧ ak_at (49 + 6 * v) (x :: st) M) (fun r M r2 M2 o => o = some x ∧ (r2 (pu_d v) = (st.length : Int) ∧ ak_at (49 + 6 * v) st M2) ∧ (∀ t, t < 424 → t ≠ pu_d v → r2 t = r t) ∧ M2 = M) 1 := by
  refine pt_introN (L0 := qp_L v) qp_k.2.2.1 hn gdsys (by
    rw [qp_k.2.1.2]
    rfl) (fun P r M h hlen hp => ?_)
  have h' := h
  obtain ⟨hseg, -, -, -, hld, -, -, -, -, -, hret, -⟩ := h'
  have cc := List.all_eq_true.mp qp_c v (List.mem_range.mpr hv)
  simp only [Bool.and_eq_true] at cc
  obtain ⟨c1, c2⟩ := cc
  have ck := List.all_eq_true.mp qp_k.1 v (List.mem_range.mpr hv)
  rw [Bool.and_eq_true] at ck
  obtain ⟨p1, p2⟩ := hp
  rw [List.length_cons] at p1
  have bd : (1 : Int) ≤ r (pu_d v) ∧ r (pu_d v) ≤ 48 := by omega
  refine hseg _ _ _ _ _ r M _ _ _ _ _ c1 ⟨pt_m0, pt_m1 bd, pt_m0⟩ ⟨fun _ => ?_, trivial⟩
  refine hlen (15, 0, 0) _ [wa_i (pu_d v)] r _ (49 + 6 * v) 48 ck.1 ?_
  refine hseg _ _ _ _ _ r M _ _ _ _ _ c2 ⟨pt_m0, pt_m1 bd, pt_m0⟩ ⟨fun _ => ?_, trivial⟩
  obtain ⟨r2, hr2⟩ : ∃ r2, r2 = pt_up r [(pu_d v, gz_d (pu_d v) (-1))] := ⟨_, rfl⟩
  show P (39, 0, 0) (qp_L v) (.inl (pu_d v, 0) :: .inr (.inr (some (some (49 + 6 * v)))) :: []) (pt_up r [(pu_d v, gz_d (pu_d v) (-1))]) _
  rw [← hr2]
  have v2 : ∀ t, r2 t = if t = pu_d v then r (pu_d v) + -1 else r t := fun t => by
    rw [hr2]
    rfl
  have d2 : r2 (pu_d v) = (st.length : Int) := by
    rw [v2, if_pos rfl]
    omega
  refine hld (39, 0, 0) _ [] r2 M (49 + 6 * v) 48 506 st.length (pu_d v, 0) ck.2 (by omega) (by show r2 (pu_d v) + 0 = _; omega) ?_
  rw [ak_at_top p2]
  have n3 : ∀ t, t ≠ 506 → pt_set r2 506 x t = r2 t := fun t a => if_neg a
  have pd : pu_d v ≠ 506 := by
    unfold pu_d
    omega
  refine hret (40, 0, 0) _ (506, 0) _ M rfl qp_k.2.1.1 (by decide +kernel) (by decide +kernel) ⟨?_, ⟨(n3 _ pd).trans d2, ak_at_pop p2⟩, fun t a b => ?_, rfl⟩
  · show some (pt_set r2 506 x 506 + 0) = _
    rw [Int.add_zero]
    exact congrArg some (if_pos rfl)
  · rw [n3 t (by omega), v2, if_neg b]
