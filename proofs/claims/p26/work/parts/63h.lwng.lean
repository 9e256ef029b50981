/-! both minutes are one, where the clauses hold -/
noncomputable def nf_cl (k j : Nat) : ai_X × ai_X × ai_X × ai_X := match k with
  | 0 => ((0, ((j + 1 : Nat) : Int)), (109, 0), (382 + j, 0), (60 + j, 0))
  | 1 => ((0, ((j + 1 : Nat) : Int)), (109, 0), (378 + j, 0), (64 + j, 0))
  | 2 => ((109, 0), (0, (j : Int)), (60 + j, 0), (0, 0))
  | 3 => ((0, ((j + 1 : Nat) : Int)), (110, 0), (386 + j, 0), (146 + j, 0))
  | _ => ((110, 0), (0, (j : Int)), (370 + j, 0), (0, 0))
theorem nf_clok : (List.range 5).all (fun k => (List.range 4).all (fun j => lx_jcl.any (fun c => decide (c = nf_cl k j)))) = true := by decide +kernel
theorem nf_jc {r : Nat → Int} (hJ : lx_J r) {k j : Nat} (hk : k < 5) (hj : j < 4) : ai_vx r (nf_cl k j).1 ≤ ai_vx r (nf_cl k j).2.1 → ai_vx r (nf_cl k j).2.2.1 = ai_vx r (nf_cl k j).2.2.2 := by
  obtain ⟨c, c1, c2⟩ := List.any_eq_true.mp (List.all_eq_true.mp (List.all_eq_true.mp nf_clok k (List.mem_range.mpr hk)) j (List.mem_range.mpr hj))
  have c2 := of_decide_eq_true c2
  subst c2
  exact hJ _ c1
noncomputable def nf_J (r : Nat → Int) : Prop := ∀ j : Nat, j < 4 → ((j : Int) + 1 ≤ r 109 → r (382 + j) = r (60 + j)) ∧ ((j : Int) + 1 ≤ r 109 → r (378 + j) = r (64 + j)) ∧ (r 109 ≤ (j : Int) → r (60 + j) = 0) ∧ ((j : Int) + 1 ≤ r 110 → r (386 + j) = r (146 + j)) ∧ (r 110 ≤ (j : Int) → r (370 + j) = 0)
theorem nf_Jof {r : Nat → Int} (h0 : r 0 = 0) (hJ : lx_J r) : nf_J r := fun j hj => by
  have a0 := nf_jc hJ (k := 0) (j := j) (by omega) hj
  have a1 := nf_jc hJ (k := 1) (j := j) (by omega) hj
  have a2 := nf_jc hJ (k := 2) (j := j) (by omega) hj
  have a3 := nf_jc hJ (k := 3) (j := j) (by omega) hj
  have a4 := nf_jc hJ (k := 4) (j := j) (by omega) hj
  have a0 : r 0 + ((j + 1 : Nat) : Int) ≤ r 109 + 0 → r (382 + j) + 0 = r (60 + j) + 0 := a0
  have a1 : r 0 + ((j + 1 : Nat) : Int) ≤ r 109 + 0 → r (378 + j) + 0 = r (64 + j) + 0 := a1
  have a2 : r 109 + 0 ≤ r 0 + (j : Int) → r (60 + j) + 0 = r 0 + 0 := a2
  have a3 : r 0 + ((j + 1 : Nat) : Int) ≤ r 110 + 0 → r (386 + j) + 0 = r (146 + j) + 0 := a3
  have a4 : r 110 + 0 ≤ r 0 + (j : Int) → r (370 + j) + 0 = r 0 + 0 := a4
  rw [h0] at a0 a1 a2 a3 a4
  refine ⟨fun q => ?_, fun q => ?_, fun q => ?_, fun q => ?_, fun q => ?_⟩
  · have := a0 (by omega); omega
  · have := a1 (by omega); omega
  · have := a2 (by omega); omega
  · have := a3 (by omega); omega
  · have := a4 (by omega); omega
theorem nf_p1O {r : Nat → Int} {t : Nat} (h : ¬ (370 ≤ t ∧ t < 374)) : nf_p1 r t = r t := if_neg h
theorem nf_p2O {r : Nat → Int} {t : Nat} (h : ¬ (370 ≤ t ∧ t < 374)) : nf_p2 r t = r t := if_neg h
theorem nf_p3O {r : Nat → Int} {t : Nat} (h : t ≠ 106) : nf_p3 r t = r t := if_neg h
theorem nf_p4O {r : Nat → Int} {t : Nat} (h1 : t ≠ 107) (h2 : t ≠ 108) (h3 : t ≠ 102) : nf_p4 r t = r t := (if_neg h1).trans ((if_neg h2).trans (if_neg h3))
theorem nf_p12 {r : Nat → Int} {t : Nat} (h : ¬ (370 ≤ t ∧ t < 374)) : nf_p2 (nf_p1 r) t = r t := (nf_p2O h).trans (nf_p1O h)
theorem nf_e1 {r : Nat → Int} (h : nf_J r) : mf_p1 r = nf_p2 (nf_p1 r) := by
  funext t
  by_cases q : 370 ≤ t ∧ t < 374
  · have k1 : nf_p1 r t = if r (374 + (t - 370)) = r 105 then 0 else r t := if_pos q
    have e2 : nf_p2 (nf_p1 r) t = if nf_p1 r 106 < 49900 ∧ (((t - 370 : Nat) : Int) + 1 ≤ nf_p1 r 110 ∧ 0 < nf_p1 r t) then ai_op 12 (nf_p1 r (146 + (t - 370))) (ai_op 0 (nf_p1 r t) (nf_p1 r 104)) else nf_p1 r t := if_pos q
    have e3 : mf_p1 r t = if r (374 + (t - 370)) = r 105 then 0 else if r 106 < 49900 ∧ 0 < r t then ai_op 12 (r (386 + (t - 370))) (ai_op 0 (r t) (r 104)) else r t := if_pos q
    rw [e2, e3, k1, nf_p1O (t := 106) (by decide), nf_p1O (t := 110) (by decide), nf_p1O (t := 104) (by decide), nf_p1O (t := 146 + (t - 370)) (by omega)]
    obtain ⟨-, -, -, h4, h5⟩ := h (t - 370) (by omega)
    have et : 370 + (t - 370) = t := by omega
    rw [et] at h5
    by_cases f : r (374 + (t - 370)) = r 105
    · rw [if_pos f, if_pos f]
      have no : ¬ (r 106 < 49900 ∧ (((t - 370 : Nat) : Int) + 1 ≤ r 110 ∧ (0 : Int) < 0)) := fun q => absurd q.2.2 (by omega)
      rw [if_neg no]
    · rw [if_neg f, if_neg f]
      by_cases c : ((t - 370 : Nat) : Int) + 1 ≤ r 110
      · rw [h4 c]
        by_cases d : r 106 < 49900 ∧ 0 < r t
        · have yes : r 106 < 49900 ∧ (((t - 370 : Nat) : Int) + 1 ≤ r 110 ∧ 0 < r t) := ⟨d.1, c, d.2⟩
          rw [if_pos d, if_pos yes]
        · have no : ¬ (r 106 < 49900 ∧ (((t - 370 : Nat) : Int) + 1 ≤ r 110 ∧ 0 < r t)) := fun q => d ⟨q.1, q.2.2⟩
          rw [if_neg d, if_neg no]
      · have z := h5 (by omega)
        have no : ¬ (r 106 < 49900 ∧ (((t - 370 : Nat) : Int) + 1 ≤ r 110 ∧ 0 < r t)) := fun q => c q.2.1
        have no2 : ¬ (r 106 < 49900 ∧ 0 < r t) := fun q => by
          have := q.2
          omega
        rw [if_neg no, if_neg no2]
  · rw [nf_p12 q]
    exact if_neg q
theorem nf_e3 {r : Nat → Int} (h : nf_J r) : mf_p3 r = nf_p3 r := by
  have e : ∀ p, p < 4 → mf_ld r p = nf_ld r p := fun p hp => by
    obtain ⟨h1, -, h3, -⟩ := h p hp
    unfold mf_ld nf_ld
    by_cases c : (p : Int) < r 109
    · rw [if_pos c, h1 (by omega)]
    · rw [if_neg c, h3 (by omega), ite_self]
  funext t
  show (if t = 106 then nf_sp (r 106) (nf_sum (mf_ld r 0) (mf_ld r 1) (mf_ld r 2) (mf_ld r 3)) (nf_mk r) else r t) = (if t = 106 then nf_sp (r 106) (nf_sum (nf_ld r 0) (nf_ld r 1) (nf_ld r 2) (nf_ld r 3)) (nf_mk r) else r t)
  rw [e 0 (by omega), e 1 (by omega), e 2 (by omega), e 3 (by omega)]
theorem nf_e4 {r : Nat → Int} (h : nf_J r) (hc : 0 ≤ r 108) : mf_p4 r = nf_gn (nf_p4 r) := by
  have e : r 108 < r 109 → r 108 < 4 → r (378 + (r 108).toNat) = r (64 + (r 108).toNat) := fun a b => by
    obtain ⟨-, h2, -⟩ := h (r 108).toNat (by omega)
    exact h2 (by omega)
  have g : nf_p4 r 105 = r 105 := nf_p4O (by decide) (by decide) (by decide)
  have ec : (if r 106 < 49000 ∧ (r 108 < r 109 ∧ r 108 < 4) then ai_op 6 (r 107) (ai_op 8 1 (r (378 + (r 108).toNat))) else r 107) = (if r 106 < 49000 ∧ (r 108 < r 109 ∧ r 108 < 4) then ai_op 6 (r 107) (ai_op 8 1 (r (64 + (r 108).toNat))) else r 107) := by
    by_cases c : r 106 < 49000 ∧ (r 108 < r 109 ∧ r 108 < 4)
    · rw [e c.2.1 c.2.2]
    · rw [if_neg c, if_neg c]
  funext t
  by_cases q1 : t = 107
  · subst q1
    exact ec
  · by_cases q2 : t = 108
    · subst q2
      rfl
    · by_cases q3 : t = 102
      · subst q3
        rfl
      · have a : mf_p4 r t = if t = 105 then r 105 + 1 else r t := (if_neg q1).trans ((if_neg q2).trans (if_neg q3))
        rw [a]
        show _ = if t = 105 then nf_p4 r 105 + 1 else nf_p4 r t
        rw [g, nf_p4O q1 q2 q3]
theorem nf_JK {a b : Nat → Int} (h : nf_J a) (e : ∀ t, (¬ (370 ≤ t ∧ t < 374) ∧ t ≠ 106 ∧ t ≠ 107 ∧ t ≠ 108 ∧ t ≠ 102) → t ≠ 105 → t ≠ 71 → t < 399 → b t = a t) (e2 : ∀ j : Nat, j < 4 → a 110 ≤ (j : Int) → b (370 + j) = 0) : nf_J b := fun j hj => by
  obtain ⟨h1, h2, h3, h4, h5⟩ := h j hj
  have k : ∀ t, (t = 109 ∨ t = 110 ∨ t = 382 + j ∨ t = 60 + j ∨ t = 378 + j ∨ t = 64 + j ∨ t = 386 + j ∨ t = 146 + j) → b t = a t := fun t ht => e t ⟨by omega, by omega, by omega, by omega, by omega⟩ (by omega) (by omega) (by omega)
  rw [k 109 (by omega), k 110 (by omega), k (382 + j) (by omega), k (60 + j) (by omega), k (378 + j) (by omega), k (64 + j) (by omega), k (386 + j) (by omega), k (146 + j) (by omega)]
  exact ⟨h1, h2, h3, h4, fun q => e2 j hj q⟩
theorem nf_p2M {r : Nat → Int} (h : nf_J r) {j : Nat} (hj : j < 4) (hm : r 110 ≤ (j : Int)) : nf_p2 (nf_p1 r) (370 + j) = 0 := by
  have e := (h j hj).2.2.2.2 hm
  rw [← nf_e1 h]
  have q : 370 ≤ 370 + j ∧ 370 + j < 374 := ⟨by omega, by omega⟩
  have e3 : mf_p1 r (370 + j) = if r (374 + (370 + j - 370)) = r 105 then 0 else if r 106 < 49900 ∧ 0 < r (370 + j) then ai_op 12 (r (386 + (370 + j - 370))) (ai_op 0 (r (370 + j)) (r 104)) else r (370 + j) := if_pos q
  have no2 : ¬ (r 106 < 49900 ∧ 0 < r (370 + j)) := fun q => by
    have := q.2
    omega
  rw [e3, if_neg no2, e, ite_self]
theorem nf_J12 {r : Nat → Int} (h : nf_J r) : nf_J (nf_p2 (nf_p1 r)) := nf_JK h (fun _ h1 _ _ _ => nf_p12 h1.1) (fun _ hj hm => nf_p2M h hj hm)
theorem nf_J3 {r : Nat → Int} (h : nf_J r) : nf_J (nf_p3 r) := nf_JK h (fun _ h1 _ _ _ => nf_p3O h1.2.1) (fun j hj hm => (nf_p3O (by omega)).trans ((h j hj).2.2.2.2 hm))
theorem nf_stepE {r : Nat → Int} (h : nf_J r) (hc : 0 ≤ r 108) : mf_step r = nf_step r := by
  unfold mf_step nf_step
  by_cases d : r 102 = 0
  · rw [if_pos d, if_pos d]
    show mf_p4 (mf_p3 (mf_p1 r)) = nf_gn (nf_p4 (nf_p3 (nf_p2 (nf_p1 r))))
    have c2 : nf_p3 (nf_p2 (nf_p1 r)) 108 = r 108 := (nf_p3O (by decide)).trans (nf_p12 (by decide))
    rw [nf_e1 h, nf_e3 (nf_J12 h), nf_e4 (nf_J3 (nf_J12 h)) (by rw [c2]; exact hc)]
  · rw [if_neg d, if_neg d]
theorem nf_Jst {r : Nat → Int} (h : nf_J r) : nf_J (nf_step r) := nf_JK h (fun _ h1 h2 _ _ => nf_stepK h1 h2) (fun j hj hm => by
  have g : nf_step r (370 + j) = (if r 102 = 0 then nf_one r else r) (370 + j) := if_neg (by omega)
  rw [g]
  by_cases d : r 102 = 0
  · rw [if_pos d]
    show nf_p4 (nf_p3 (nf_p2 (nf_p1 r))) (370 + j) = 0
    rw [nf_p4O (by omega) (by omega) (by omega), nf_p3O (by omega)]
    exact nf_p2M h hj hm
  · rw [if_neg d]
    exact (h j hj).2.2.2.2 hm)
theorem nf_stC {r : Nat → Int} (hc : 0 ≤ r 108) : 0 ≤ nf_step r 108 := by
  have g : nf_step r 108 = (if r 102 = 0 then nf_one r else r) 108 := rfl
  rw [g]
  by_cases d : r 102 = 0
  · rw [if_pos d]
    have c2 : nf_p3 (nf_p2 (nf_p1 r)) 108 = r 108 := (nf_p3O (by decide)).trans (nf_p12 (by decide))
    show 0 ≤ nf_p4 (nf_p3 (nf_p2 (nf_p1 r))) 108
    generalize nf_p3 (nf_p2 (nf_p1 r)) = X at c2
    show 0 ≤ (if X 106 < 49000 ∧ (X 108 < X 109 ∧ X 108 < 4) then X 108 + 1 else X 108)
    split <;> omega
  · rw [if_neg d]
    exact hc
theorem nf_itJ {r : Nat → Int} (h : nf_J r) (hc : 0 ≤ r 108) : ∀ k, nf_J (nf_it k r) ∧ 0 ≤ nf_it k r 108
  | 0 => ⟨h, hc⟩
  | k + 1 => ⟨nf_Jst (nf_itJ h hc k).1, nf_stC (nf_itJ h hc k).2⟩
theorem nf_stepC {a b : Nat → Int} (h : ∀ t, t < 400 → a t = b t) : ∀ t, t < 400 → nf_step a t = nf_step b t := fun t ht => by
  unfold nf_step nf_gn
  rw [h 102 (by omega)]
  by_cases d : b 102 = 0
  · rw [if_pos d, if_pos d, nf_cg h t ht, nf_cg h 105 (by omega)]
  · rw [if_neg d, if_neg d, h t ht, h 105 (by omega)]
theorem nf_itC {a b : Nat → Int} (h : ∀ t, t < 400 → a t = b t) : ∀ (k t : Nat), t < 400 → nf_it k a t = nf_it k b t
  | 0, t, ht => h t ht
  | k + 1, t, ht => nf_stepC (nf_itC h k) t ht
theorem nf_JC {a b : Nat → Int} (e : ∀ t, t < 400 → b t = a t) (h : nf_J a) : nf_J b := nf_JK h (fun t _ _ _ ht => e t (by omega)) (fun j hj hm => (e _ (by omega)).trans ((h j hj).2.2.2.2 hm))
