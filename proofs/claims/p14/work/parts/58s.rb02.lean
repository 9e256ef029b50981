/-! a height -/
theorem rb_plx : lh_plain 212 = true ∧ lh_plain 213 = true ∧ lh_plain 215 = true := by decide +kernel
theorem rb_bud : ct_bud 212 = (0, 0) ∧ ct_bud 213 = (0, 0) ∧ ct_bud 215 = (0, 0) := by decide +kernel
theorem rb_N0 : 0 < rbY.1.1 := by decide +kernel
theorem rb_eb {r : Nat → Int} {t : Nat} {lo hi : Int} (hE : ai_gE r rbE) (h : (t, (lo, hi)) ∈ rbE.2.1) : lo ≤ r t ∧ r t ≤ hi := (hE.2.2.2.1 _ h).2
theorem rb_bnd : (123, ((0 : Int), (5 : Int))) ∈ rbE.2.1 ∧ (122, ((0 : Int), (4 : Int))) ∈ rbE.2.1 ∧ ∀ l, l < 5 → (164 + l, ((0 : Int), (3 : Int))) ∈ rbE.2.1 ∧ (169 + l, ((0 : Int), (3 : Int))) ∈ rbE.2.1 ∧ (174 + l, ((0 : Int), (9 : Int))) ∈ rbE.2.1 := by
  have h : ((123, ((0 : Int), (5 : Int))) ∈ rbE.2.1 ∧ (122, ((0 : Int), (4 : Int))) ∈ rbE.2.1) ∧ ∀ l ∈ List.range 5, (164 + l, ((0 : Int), (3 : Int))) ∈ rbE.2.1 ∧ (169 + l, ((0 : Int), (3 : Int))) ∈ rbE.2.1 ∧ (174 + l, ((0 : Int), (9 : Int))) ∈ rbE.2.1 := by decide +kernel
  exact ⟨h.1.1, h.1.2, fun l hl => h.2 l (List.mem_range.mpr hl)⟩
theorem rb_cn {r : Nat → Int} (h0 : r 0 = 0) (t k : Nat) (hk : r t = (k : Int)) : pt_sv rbY.1.1 r (ra_i t) (rb_k k) := ⟨rb_N0, by
  show r t + 0 = r 0 + (k : Int)
  rw [hk, h0, Int.add_zero, Int.zero_add]⟩
noncomputable def rb_hQ (r : Nat → Int) (M : Nat → Nat → Int) (r2 : Nat → Int) (M2 : Nat → Nat → Int) (o : Option Int) : Prop := o = some (pt_v r (rb_hx (r 122).toNat (r 339).toNat (r 340).toNat)) ∧ M2 = M ∧ ∀ t, t < 338 → r2 t = r t
theorem rb_height {n : Nat} (hn : 4 ≤ n) : pt_Met (n + 1) 212 rbY [rb_264, ra_i 339, ra_i 340] (fun r _ => (0 ≤ r 339 ∧ r 339 + 1 ≤ r 122) ∧ (0 ≤ r 340 ∧ r 340 + 1 ≤ r 122)) rb_hQ 2 := by
  refine pt_intro (L0 := [rb_264, ra_i 339, ra_i 340, ra_u, ra_u, ra_u]) rb_plx.1 hn rbsys (by
    have e : (ct_mt 212).2.2.1 = 6 := by decide +kernel
    rw [e]
    rfl) (fun P r M h hp => ?_)
  obtain ⟨hseg, henv, hrel, hval, -, -, -, -, -, -, -, -, hret, -⟩ := h
  refine henv _ _ _ _ _ (fun hE _ => ?_)
  have h0 : r 0 = 0 := hE.1
  obtain ⟨⟨p1, p2⟩, p3, p4⟩ := hp
  have bP := rb_eb hE rb_bnd.2.1
  obtain ⟨p, hp⟩ : ∃ p : Nat, r 122 = ((p + 1 : Nat) : Int) := ⟨(r 122).toNat - 1, by omega⟩
  obtain ⟨i, hi⟩ : ∃ i : Nat, r 339 = (i : Int) := ⟨(r 339).toNat, by omega⟩
  obtain ⟨j, hj⟩ : ∃ j : Nat, r 340 = (j : Int) := ⟨(r 340).toNat, by omega⟩
  refine hrel _ _ [rb_264, rb_k i, rb_k j, ra_u, ra_u, ra_u] _ [] _ _ ⟨rfl, rb_cn h0 _ _ hi, rb_cn h0 _ _ hj, trivial, trivial, trivial, trivial⟩ trivial ?_
  have row := List.all_eq_true.mp (List.all_eq_true.mp (List.all_eq_true.mp rb_h_c p (List.mem_range.mpr (by omega))) i (List.mem_range.mpr (by omega))) j (List.mem_range.mpr (by omega))
  have fin : ∀ pc, pt_is 6 212 pc = true → P (pc, 0, 0) [rb_264, rb_k i, rb_k j, ra_u, ra_u, ra_u] [rb_q 428] (pt_up r [(122, ra_c (p + 1)), (428, rb_hx (p + 1) i j)]) M := fun pc hpc => by
    refine hret (pc, 0, 0) _ (428, 0) _ M rfl hpc (Nat.ble_eq_true_of_le (Nat.zero_le _)) (Nat.ble_eq_true_of_le (Nat.zero_le _)) ⟨congrArg some ?_, rfl, fun t ht => ?_⟩
    · show pt_v r (rb_hx (p + 1) i j) + 0 = _
      rw [Int.add_zero, hp, hi, hj]
      rfl
    · show (if t = 122 then pt_v r (ra_c (p + 1)) else if t = 428 then _ else r t) = r t
      by_cases e : t = 122
      · rw [if_pos e, e, hp]
        rfl
      · rw [if_neg e, if_neg (by omega)]
  split at row
  · exact hseg _ _ _ _ _ _ _ _ _ _ _ _ row ⟨pt_m1 hp, pt_m0, pt_m0⟩ ⟨fun _ => fin 32 (by decide +kernel), trivial⟩
  · exact hseg _ _ _ _ _ _ _ _ _ _ _ _ row ⟨pt_m1 hp, pt_m0, pt_m0⟩ ⟨fun _ => fin 69 (by decide +kernel), trivial⟩
