/-! the reference's place, line -/
theorem rb_plw : (lh_plain 174 = true ∧ lh_plain 175 = true) ∧ (ct_mt 174).2.2.1 = 1 ∧ (ct_mt 175).2.2.1 = 5 := by decide +kernel
noncomputable def rb_xW : List (Nat × pt_X) := [(418, ra_s 122), (121, ra_c 0), (122, [(0, 122, 0), (3, 0, 1)])]
theorem rb_a_c : pt_row rbY 174 [31] true (0, 0, 0) [rb_264] [] [] [(122, (0, 3))] [] [] [((31, 0, 0), ([rb_264], [ra_i 418]), rb_xW, [])] = true := by decide +kernel
noncomputable def rb_plQ (r : Nat → Int) (M : Nat → Nat → Int) (r2 : Nat → Int) (M2 : Nat → Nat → Int) (o : Option Int) : Prop := o = some (r 122) ∧ M2 = M ∧ r2 121 = 0 ∧ r2 122 = r 122 + 1 ∧ ∀ t, t < 338 → t ≠ 121 → t ≠ 122 → r2 t = r t
theorem rb_place {n : Nat} (hn : 4 ≤ n) : pt_Met (n + 1) 174 rbY [rb_264] (fun r _ => r 122 ≤ 3) rb_plQ 1 := by
  refine pt_intro (L0 := [rb_264]) rb_plw.1.1 hn rbsys (by
    rw [rb_plw.2.1]
    rfl) (fun P r M h hp => ?_)
  refine h.2.1 _ _ _ _ _ (fun hE _ => ?_)
  have bP := rb_eb hE rb_bnd.2.1
  refine h.1 _ _ _ _ _ _ _ _ _ _ _ _ rb_a_c ⟨pt_m0, pt_m1 ⟨bP.1, hp⟩, pt_m0⟩ ⟨fun _ => ?_, trivial⟩
  have up : ∀ t, pt_up r rb_xW t = if t = 418 then r 122 else if t = 121 then 0 else if t = 122 then r 122 + 1 else r t := fun t => rfl
  refine h.2.2.2.2.2.2.2.2.2.2.1 (31, 0, 0) _ (418, 0) _ M rfl (by decide +kernel) (by decide +kernel) (by decide +kernel) ⟨congrArg some (Int.add_zero _), rfl, rfl, rfl, fun t ht h1 h2 => ?_⟩
  refine (up t).trans ?_
  rw [if_neg (by omega), if_neg h1, if_neg h2]
noncomputable def rb_eL : List ai_V := [rb_264, ra_i 339, ra_i 340, ra_i 341, ra_i 342]
noncomputable def rb_eW (ln : Nat) : List (Nat × pt_X) := [(121, ra_c 0), (123, ra_c (ln + 1)), (164 + ln, ra_s 339), (169 + ln, ra_s 340), (174 + ln, ra_s 341), (333 + ln, ra_s 342)]
noncomputable def rb_eR (ln : Nat) (le : ai_X × ai_X) : Bool := pt_row rbY 175 [120] true (0, 0, 0) rb_eL [] [(123, .ofNat ln)] [(339, (0, 3)), (340, (0, 3)), (341, (1, 9)), (342, (0, 99))] [((339, 1), (122, 0)), ((340, 1), (122, 0)), le] [266, 267, 268, 269] [((120, 0, 0), (rb_eL, [rb_k ln]), rb_eW ln, [])]
theorem rb_e_c : (List.range 5).all (fun ln => rb_eR ln ((339, 1), (340, 0)) && rb_eR ln ((340, 1), (339, 0))) = true := by decide +kernel
noncomputable def rb_eQ (r : Nat → Int) (M : Nat → Nat → Int) (r2 : Nat → Int) (M2 : Nat → Nat → Int) (o : Option Int) : Prop := ∃ ln : Nat, ln < 5 ∧ r 123 = (ln : Int) ∧ o = some (r 123) ∧ M2 = M ∧ ∀ t, t < 338 → r2 t = pt_up r (rb_eW ln) t
theorem rb_line {n : Nat} (hn : 4 ≤ n) : pt_Met (n + 1) 175 rbY rb_eL (fun r _ => r 123 ≤ 4 ∧ (0 ≤ r 339 ∧ r 339 ≤ 3) ∧ (0 ≤ r 340 ∧ r 340 ≤ 3) ∧ (1 ≤ r 341 ∧ r 341 ≤ 9) ∧ (0 ≤ r 342 ∧ r 342 ≤ 99) ∧ r 339 ≠ r 340 ∧ r 339 + 1 ≤ r 122 ∧ r 340 + 1 ≤ r 122) rb_eQ 1 := by
  refine pt_intro (L0 := rb_eL) rb_plw.1.2 hn rbsys (by
    rw [rb_plw.2.2]
    rfl) (fun P r M h hp => ?_)
  refine h.2.1 _ _ _ _ _ (fun hE _ => ?_)
  have h0 : r 0 = 0 := hE.1
  have bL := rb_eb hE rb_bnd.1
  obtain ⟨p2, p3, p4, p5, p6, p7, p8, p9⟩ := hp
  obtain ⟨ln, hln⟩ : ∃ ln : Nat, r 123 = (ln : Int) := ⟨(r 123).toNat, by omega⟩
  have h5 : ln < 5 := by omega
  have rows := List.all_eq_true.mp rb_e_c ln (List.mem_range.mpr h5)
  rw [Bool.and_eq_true] at rows
  have fin : P (120, 0, 0) rb_eL [rb_k ln] (pt_up r (rb_eW ln)) M := by
    refine h.2.1 _ _ _ _ _ (fun hE2 _ => ?_)
    refine h.2.2.2.2.2.2.2.2.2.2.1 (120, 0, 0) _ (0, .ofNat ln) _ M rfl (by decide +kernel) (Nat.ble_eq_true_of_le (Nat.zero_le _)) (Nat.ble_eq_true_of_le (Nat.zero_le _)) ⟨ln, h5, hln, congrArg some ?_, rfl, fun t _ => rfl⟩
    show pt_up r (rb_eW ln) 0 + (ln : Int) = r 123
    rw [hE2.1, hln, Int.zero_add]
  have cps : ∀ q ∈ [(339, ((0 : Int), (3 : Int))), (340, ((0 : Int), (3 : Int))), (341, ((1 : Int), (9 : Int))), (342, ((0 : Int), (99 : Int)))], q.2.1 ≤ r q.1 ∧ r q.1 ≤ q.2.2 := pt_m4 p3 p4 p5 p6
  rcases (by omega : r 339 + 1 ≤ r 340 ∨ r 340 + 1 ≤ r 339) with q | q
  · exact h.1 _ _ _ _ _ _ _ _ _ _ _ _ rows.1 ⟨pt_m1 hln, cps, pt_m3 (by show r 339 + 1 ≤ r 122 + 0; omega) (by show r 340 + 1 ≤ r 122 + 0; omega) (by show r 339 + 1 ≤ r 340 + 0; omega)⟩ ⟨fun _ => fin, trivial⟩
  · exact h.1 _ _ _ _ _ _ _ _ _ _ _ _ rows.2 ⟨pt_m1 hln, cps, pt_m3 (by show r 339 + 1 ≤ r 122 + 0; omega) (by show r 340 + 1 ≤ r 122 + 0; omega) (by show r 340 + 1 ≤ r 339 + 0; omega)⟩ ⟨fun _ => fin, trivial⟩
