/-! ASKED (the class): what is asked of a unit -/
noncomputable def ao_L (v : Nat) : List ai_V := [wa_r 87, wa_k v, wa_i 425]
noncomputable abbrev ao_r (st : List Nat) (sk : Bool) (pc : Nat) (v : Nat) (S : List ai_V) (cp : List (Nat × Int × Int)) (le : List (ai_X × ai_X)) (pc2 : Nat) (S2 : List ai_V) (W : List (Nat × pt_X)) : Bool := pt_row gdY 6 st sk (pc, 0, 0) (ao_L v) S [] cp le [] [((pc2, 0, 0), (ao_L v, S2), W, [])]
theorem ao_c : (List.range 4).all (fun v => (ao_r [31, 39] true 0 v [] [(425, (1, 7))] [((415 + v, 1), (425, 0))] 31 [.inl (0, -1)] [] && ao_r [31, 39] true 0 v [] [(425, (1, 7))] [((425, 0), (415 + v, 0))] 39 [wa_i 425, wa_r (91 + v)] []) && (ao_r [49] false 40 v [wa_i 504] [(425, (1, 7))] [] 49 [.inl (425, -1), wa_r (91 + v), wa_i 504] [] && ao_r [51] false 50 v [wa_i 506, wa_i 504] [] [] 51 [wa_i 504] [(504, [(0, 504, 0), (0, 506, 0), (2, 1, 0)])])) = true := by decide +kernel
theorem ao_k : (List.range 4).all (fun v => pt_lck gdY 6 39 1 (91 + v) 8 0 504 (ao_L v) [] && pt_lck gdY 6 49 1 (91 + v) 8 0 506 (ao_L v) [wa_i 504]) = true ∧ ((pt_is 5 6 31 = true ∧ pt_is 5 6 51 = true) ∧ (ct_mt 6).2.2.1 = 3) ∧ lh_plain 6 = true ∧ ct_bud 6 = (0, 0) := by decide +kernel
noncomputable def ao_a : List ai_V := [wa_r 87, wa_i 424, wa_i 425]
theorem ao_M {n v u N : Nat} {S : Nat → Int} (hn : 4 ≤ n) (hv : v < 4) (hu : 1 ≤ u ∧ u ≤ 7) : pt_Met (n + 1) 6 gdY ao_a (fun r M => (r 424 = (v : Int) ∧ r 425 = (u : Int)) ∧ r (415 + v) = (N : Int) ∧ ∀ j, j ≤ N → M (91 + v) j = S j) (fun r M r2 M2 o => o = some (if u ≤ N then ai_op 1 (S u) (S (u - 1)) else -1) ∧ (∀ t, t < 424 → r2 t = r t) ∧ M2 = M) 1 := by
  refine pt_intro (L0 := ao_a) ao_k.2.2.1 (by omega) gdsys (by
    rw [ao_k.2.1.2]
    rfl) (fun P r M h hp => ?_)
  have h' := h
  obtain ⟨hseg, henv, hrel, -, hld, -, -, -, -, -, hret, -⟩ := h'
  obtain ⟨⟨p1, p2⟩, p3, p4⟩ := hp
  refine henv _ _ _ _ _ (fun hE _ => ?_)
  have h0 : r 0 = 0 := hE.1
  refine hrel (0, 0, 0) _ (ao_L v) [] [] r M ⟨rfl, ⟨by show 0 < 524; omega, by show r 424 + 0 = r 0 + (v : Int); omega⟩, ⟨by show 425 < 524; omega, rfl⟩, trivial⟩ trivial ?_
  have rows := List.all_eq_true.mp ao_c v (List.mem_range.mpr hv)
  simp only [Bool.and_eq_true] at rows
  obtain ⟨⟨c1, c2⟩, c3, c4⟩ := rows
  have ck := List.all_eq_true.mp ao_k.1 v (List.mem_range.mpr hv)
  rw [Bool.and_eq_true] at ck
  have b1 : ∀ r2 : Nat → Int, r2 425 = (u : Int) → (1 : Int) ≤ r2 425 ∧ r2 425 ≤ 7 := fun r2 e => by omega
  by_cases w : u ≤ N
  · refine hseg _ _ _ _ _ r M _ _ _ _ _ c2 ⟨pt_m0, pt_m1 (b1 r p2), pt_m1 (by show r 425 + 0 ≤ r (415 + v) + 0; omega)⟩ ⟨fun _ => ?_, trivial⟩
    refine hld (39, 0, 0) _ [] r M (91 + v) 8 504 u (425, 0) ck.1 (by omega) (by show r 425 + 0 = _; omega) ?_
    rw [p4 u w]
    obtain ⟨r1, hr1⟩ : ∃ r1, r1 = pt_set r 504 (S u) := ⟨_, rfl⟩
    show P (40, 0, 0) (ao_L v) [wa_i 504] (pt_set r 504 (S u)) M
    rw [← hr1]
    have n1 : ∀ t, t ≠ 504 → r1 t = r t := fun t x => by
      rw [hr1]
      exact if_neg x
    have s1 : r1 504 = S u := by
      rw [hr1]
      exact gz_sset
    have e1 : r1 425 = (u : Int) := (n1 _ (by omega)).trans p2
    refine hseg _ _ _ _ _ r1 M _ _ _ _ _ c3 ⟨pt_m0, pt_m1 (b1 r1 e1), pt_m0⟩ ⟨fun _ => ?_, trivial⟩
    refine hld (49, 0, 0) _ [wa_i 504] r1 M (91 + v) 8 506 (u - 1) (425, -1) ck.2 (by omega) (by show r1 425 + -1 = _; omega) ?_
    rw [p4 (u - 1) (by omega)]
    obtain ⟨r2, hr2⟩ : ∃ r2, r2 = pt_set r1 506 (S (u - 1)) := ⟨_, rfl⟩
    rw [← hr2]
    have n2 : ∀ t, t ≠ 506 → r2 t = r1 t := fun t x => by
      rw [hr2]
      exact if_neg x
    have s2 : r2 506 = S (u - 1) := by
      rw [hr2]
      exact gz_sset
    refine hseg _ _ _ _ _ r2 M _ _ _ _ _ c4 ⟨pt_m0, pt_m0, pt_m0⟩ ⟨fun _ => ?_, trivial⟩
    obtain ⟨r3, hr3⟩ : ∃ r3, r3 = pt_up r2 [(504, [(0, 504, 0), (0, 506, 0), (2, 1, 0)])] := ⟨_, rfl⟩
    show P (51, 0, 0) (ao_L v) [.inl (504, 0)] (pt_up r2 [(504, [(0, 504, 0), (0, 506, 0), (2, 1, 0)])]) M
    rw [← hr3]
    have v3 : ∀ t, r3 t = if t = 504 then ai_op 1 (r2 504) (r2 506) else r2 t := fun t => by
      rw [hr3]
      rfl
    refine hret (51, 0, 0) _ (504, 0) r3 M rfl ao_k.2.1.1.2 (by decide +kernel) (by decide +kernel) ⟨congrArg some ?_, fun t a => ?_, rfl⟩
    · show r3 504 + 0 = _
      rw [if_pos w, Int.add_zero, v3, if_pos rfl, n2 _ (by omega), s1, s2]
    · rw [v3, if_neg (by omega), n2 t (by omega), n1 t (by omega)]
  · refine hseg _ _ _ _ _ r M _ _ _ _ _ c1 ⟨pt_m0, pt_m1 (b1 r p2), pt_m1 (by show r (415 + v) + 1 ≤ r 425 + 0; omega)⟩ ⟨fun _ => ?_, trivial⟩
    refine hret (31, 0, 0) _ (0, -1) r M rfl ao_k.2.1.1.1 (by decide +kernel) (by decide +kernel) ⟨congrArg some ?_, fun _ _ => rfl, rfl⟩
    show r 0 + -1 = _
    rw [if_neg w, h0]
    rfl
