/-! the reference's minute -/
noncomputable def mf_p1 (r : Nat → Int) : Nat → Int := fun t => if 370 ≤ t ∧ t < 374 then (if r (374 + (t - 370)) = r 105 then 0 else if r 106 < 49900 ∧ 0 < r t then ai_op 12 (r (386 + (t - 370))) (ai_op 0 (r t) (r 104)) else r t) else r t
noncomputable def mf_ld (r : Nat → Int) (p : Nat) : Int := if (p : Int) < r 109 then (if ai_op 5 (ai_op 9 (r 107) (p : Int)) 1 = 0 then r (382 + p) else 0) else 0
noncomputable def mf_p3 (r : Nat → Int) : Nat → Int := fun t => if t = 106 then nf_sp (r 106) (nf_sum (mf_ld r 0) (mf_ld r 1) (mf_ld r 2) (mf_ld r 3)) (nf_mk r) else r t
noncomputable def mf_p4 (r : Nat → Int) : Nat → Int := fun t => if t = 107 then (if r 106 < 49000 ∧ (r 108 < r 109 ∧ r 108 < 4) then ai_op 6 (r 107) (ai_op 8 1 (r (378 + (r 108).toNat))) else r 107) else if t = 108 then (if r 106 < 49000 ∧ (r 108 < r 109 ∧ r 108 < 4) then r 108 + 1 else r 108) else if t = 102 then (if r 106 < 47500 then 1 else 0) else if t = 105 then r 105 + 1 else r t
noncomputable def mf_one (r : Nat → Int) : Nat → Int := mf_p4 (mf_p3 (mf_p1 r))
noncomputable def mf_step (r : Nat → Int) : Nat → Int := if r 102 = 0 then mf_one r else nf_gn r
noncomputable def mf_P1 : List (Nat × Nat × Nat) := [(370, 322, 0), (370 + 1, 322, 1), (370 + 2, 322, 2), (370 + 3, 322, 3), (102, 264, 88)]
noncomputable def mf_P2 : List (Nat × Nat × Nat) := [(105, 264, 91), (102, 264, 88)]
noncomputable def mf_P3 : List (Nat × Nat × Nat) := [(106, 264, 92)]
noncomputable def mf_P4 : List (Nat × Nat × Nat) := [(107, 264, 93), (108, 264, 94), (102, 264, 88), (105, 264, 91)]
noncomputable def mf_d1 (E : ai_E) (j : Nat) (X : ai_X) : Bool := (cx_q X (0, 0) && cy_eq E (374 + j, 0) (105, 0)) || (ai_nef (374 + j, 0) (105, 0) E.2.2 && ((cx_q X (370 + j, 0) && (cx_bd E (106, 0) (49900, ai_hi64) || cx_bd E (370 + j, 0) (ai_lo64, 0))) || ((cx_bd E (106, 0) (ai_lo64, 49899) && cx_bd E (370 + j, 0) (1, ai_hi64)) && nf_up E 386 j X)))
noncomputable def mf_bit (E : ai_E) (p : Nat) : Option ai_X := match cx_bd E (109, 0) (ai_lo64, (p : Int)) with
  | true => some (0, 0)
  | false => match cx_bd E (109, 0) ((p : Int) + 1, ai_hi64) with
    | true => nf_bit E p (382 + p, 0)
    | false => none
noncomputable def mf_d3 (E : ai_E) (X : ai_X) : Bool := nf_spd E (nf_sm E (mf_bit E 0) (mf_bit E 1) (mf_bit E 2) (mf_bit E 3)) (nf_mks E) X
section MFB
variable {r : Nat → Int} {E : ai_E}
theorem mf_d1_ok (hE : ai_gE r E) {j : Nat} {X : ai_X} (h : mf_d1 E j X = true) : ai_vx r X = if r (374 + j) = r 105 then 0 else if r 106 < 49900 ∧ 0 < r (370 + j) then ai_op 12 (r (386 + j)) (ai_op 0 (r (370 + j)) (r 104)) else r (370 + j) := by
  unfold mf_d1 at h
  simp only [Bool.or_eq_true, Bool.and_eq_true] at h
  rcases h with ⟨h1, h2⟩ | ⟨h1, h2⟩
  · have e := cy_eq_ok hE h2
    rw [nf_v, nf_v] at e
    rw [cx_q_ok h1, nf_c hE, if_pos e]
  · have e := ai_nef_ok hE.1 (cy_ds hE) h1
    rw [nf_v, nf_v] at e
    rw [if_neg e]
    rcases h2 with ⟨q1, q2⟩ | ⟨⟨q1, q2⟩, q3⟩
    · rw [cx_q_ok q1, nf_v, if_neg]
      rintro ⟨g1, g2⟩
      rcases q2 with q | q
      · have b : (49900 : Int) ≤ r 106 := (nf_bd hE q).1
        omega
      · have b : r (370 + j) ≤ 0 := (nf_bd hE q).2
        omega
    · have b1 : r 106 ≤ 49899 := (nf_bd hE q1).2
      have b2 : 1 ≤ r (370 + j) := (nf_bd hE q2).1
      rw [nf_up_ok hE q3, if_pos ⟨by omega, by omega⟩]
theorem mf_bit_ok (hE : ai_gE r E) {p : Nat} {u : ai_X} (h : mf_bit E p = some u) : ai_vx r u = mf_ld r p := by
  unfold mf_bit at h
  unfold mf_ld
  split at h
  · rename_i e
    cases h
    have b : r 109 ≤ (p : Int) := (nf_bd hE e).2
    rw [if_neg (by omega), nf_c hE]
  · split at h
    · rename_i e
      have b : (p : Int) + 1 ≤ r 109 := (nf_bd hE e).1
      rw [if_pos (by omega), nf_bit_ok hE h, nf_v]
    · cases h
theorem mf_d3_ok (hE : ai_gE r E) {X : ai_X} (h : mf_d3 E X = true) : ai_vx r X = nf_sp (r 106) (nf_sum (mf_ld r 0) (mf_ld r 1) (mf_ld r 2) (mf_ld r 3)) (nf_mk r) :=
  nf_spd_ok hE (fun _ q => nf_sm_ok hE (fun _ g => mf_bit_ok hE g) (fun _ g => mf_bit_ok hE g) (fun _ g => mf_bit_ok hE g) (fun _ g => mf_bit_ok hE g) q) (fun _ q => nf_mks_ok hE q) h
end MFB
