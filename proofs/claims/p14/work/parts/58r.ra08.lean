/-! commonPart, LM.flow -/
noncomputable def ra_gL0 : List ai_V := [ra_i 325, ra_i 326, ra_u, ra_u, ra_u, ra_u]
noncomputable def ra_gL1 : List ai_V := [ra_i 325, ra_i 326, ra_i 327, ra_i 328, ra_i 329, ra_u]
noncomputable def ra_ab (t : Nat) : pt_X := [(0, t, 0), (1, 0, 0), (2, 13, 0)]
noncomputable def ra_re : pt_X := [(0, 327, 0), (0, 328, 0), (2, 4, 0)]
noncomputable def ra_gW : List (Nat × pt_X) := [(327, ra_s 328), (328, ra_re), (329, [(0, 329, 0), (3, 0, 1)])]
theorem ra_g_0 : pt_row raY 37 [13] true (0, 0, 0) ra_gL0 [] [] [] [] [] [((13, 0, 0), (ra_gL1, []), [(327, ra_ab 325), (328, ra_ab 326), (329, ra_c 0)], [])] = true := by decide +kernel
theorem ra_g_1 : pt_row raY 37 [13, 40] true (13, 0, 0) ra_gL1 [] [] [(327, (0, 2000000)), (328, (0, 2000000)), (329, (0, 100))] [] [] [((40, 0, 0), (ra_gL1, []), [], [(0, ra_c 100, ra_s 329)]), ((40, 0, 0), (ra_gL1, []), [], [(0, ra_s 328, ra_c 0)]), ((13, 0, 0), (ra_gL1, []), ra_gW, [(0, ra_c 1, ra_s 328), (0, ra_s 329, ra_c 99)])] = true := by decide +kernel
theorem ra_g_2 : pt_row raY 37 [41] true (40, 0, 0) ra_gL1 [] [] [] [] [] [((41, 0, 0), (ra_gL1, [ra_i 405]), [(405, ra_s 327)], [])] = true := by decide +kernel
theorem ra_small {x : Int} (h : -2000000000 ≤ x ∧ x ≤ 2000000000) : x.bmod 4294967296 = x := Int.bmod_eq_of_le_mul_two (by omega) (by omega)
theorem ra_abs {x : Int} (h : -2000000 ≤ x ∧ x ≤ 2000000) : ai_op 13 x 0 = (x.natAbs : Int) := by
  show (ai_abs x).bmod 4294967296 = (x.natAbs : Int)
  rw [ai_abs_of]
  exact ra_small (by omega)
theorem ra_rem {x y : Int} (hx : 0 ≤ x ∧ x ≤ 2000000) (hy : 1 ≤ y ∧ y ≤ 2000000) : ai_op 4 x y = x % y := by
  show (x - x.tdiv y * y).bmod 4294967296 = x % y
  have e : x - x.tdiv y * y = x % y := by
    rw [Int.tdiv_eq_ediv_of_nonneg hx.1]
    have := Int.emod_add_mul_ediv x y
    rw [Int.mul_comm]
    omega
  rw [e]
  have h1 := Int.emod_nonneg x (show y ≠ 0 by omega)
  have h2 := Int.emod_lt_of_pos x (show 0 < y by omega)
  exact ra_small (by omega)
/-- Euclid's way, as often as is told -/
noncomputable def fw_cl : Nat → Int → Int → Int
  | 0, x, _ => x
  | n + 1, x, y => if 0 < y then fw_cl n y (x % y) else x
theorem fw_rec (x y : Nat) : Nat.gcd x y = Nat.gcd y (x % y) := by
  rw [Nat.gcd_comm x y, Nat.gcd_rec y x, Nat.gcd_comm]
theorem fw_gcd : ∀ (k n x y : Nat), y < 2 ^ k → 2 * k + 1 ≤ n → fw_cl n (x : Int) (y : Int) = (Nat.gcd x y : Int)
  | 0, n, x, y, h, hn => by
    have e : y = 0 := by
      have : (2 : Nat) ^ 0 = 1 := rfl
      omega
    subst e
    obtain ⟨n, rfl⟩ : ∃ m, n = m + 1 := ⟨n - 1, by omega⟩
    show (if (0 : Int) < ((0 : Nat) : Int) then _ else (x : Int)) = _
    rw [if_neg (by omega), Nat.gcd_zero_right]
  | k + 1, n, x, y, h, hn => by
    obtain ⟨n, rfl⟩ : ∃ m, n = m + 1 := ⟨n - 1, by omega⟩
    show (if (0 : Int) < (y : Int) then fw_cl n (y : Int) ((x % y : Nat) : Int) else (x : Int)) = _
    by_cases q : 0 < y
    · rw [if_pos (by omega), fw_rec x y]
      obtain ⟨n, rfl⟩ : ∃ m, n = m + 1 := ⟨n - 1, by omega⟩
      have r1 := Nat.mod_lt x q
      show (if (0 : Int) < ((x % y : Nat) : Int) then fw_cl n ((x % y : Nat) : Int) ((y % (x % y) : Nat) : Int) else (y : Int)) = _
      by_cases q2 : 0 < x % y
      · rw [if_pos (by omega), fw_rec y (x % y)]
        have s1 := Nat.mod_lt y q2
        have d := Nat.mod_add_div y (x % y)
        have d1 : 0 < y / (x % y) := Nat.div_pos (by omega) q2
        have d2 : x % y ≤ (x % y) * (y / (x % y)) := Nat.le_mul_of_pos_right _ d1
        have p : (2 : Nat) ^ (k + 1) = 2 ^ k * 2 := Nat.pow_succ ..
        exact fw_gcd k n (x % y) (y % (x % y)) (by omega) (by omega)
      · rw [if_neg (by omega)]
        have e : x % y = 0 := by omega
        rw [e, Nat.gcd_zero_right]
    · rw [if_neg (by omega)]
      have e : y = 0 := by omega
      subst e
      rw [Nat.gcd_zero_right]
noncomputable def ra_gQ (r : Nat → Int) (M : Nat → Nat → Int) (r2 : Nat → Int) (M2 : Nat → Nat → Int) (o : Option Int) : Prop := o = some (Int.gcd (r 325) (r 326) : Int) ∧ M2 = M ∧ ∀ t, t < 325 → r2 t = r t
section RAG
variable {n : Nat} {P : pt_P} {r : Nat → Int} {M : Nat → Nat → Int}
theorem ra_gloop (h : pt_Cl n 37 raY 1 (ra_gQ r M) P) : ∀ (d i : Nat) (r' : Nat → Int), 100 - i = d → i ≤ 100 → r' 329 = (i : Int) → (0 ≤ r' 327 ∧ r' 327 ≤ 2000000) → (0 ≤ r' 328 ∧ r' 328 ≤ 2000000) → fw_cl d (r' 327) (r' 328) = (Int.gcd (r 325) (r 326) : Int) → (∀ t, t < 325 → r' t = r t) → P (13, 0, 0) ra_gL1 [] r' M := by
  obtain ⟨hseg, henv, -, -, -, -, -, -, -, -, hret, -, -, -⟩ := h
  have fin : ∀ (r' : Nat → Int), r' 327 = (Int.gcd (r 325) (r 326) : Int) → (∀ t, t < 325 → r' t = r t) → P (40, 0, 0) ra_gL1 [] r' M := fun r' h2 hk => by
    refine hseg _ _ _ _ _ _ _ _ _ _ _ _ ra_g_2 ⟨pt_m0, pt_m0, pt_m0⟩ ⟨fun _ => ?_, trivial⟩
    refine hret (41, 0, 0) _ (405, 0) _ M rfl (by decide +kernel) (by decide +kernel) (by decide +kernel) ⟨congrArg some ?_, rfl, fun t ht => Eq.trans (if_neg (by omega)) (hk t ht)⟩
    show r' 327 + 0 = _
    rw [Int.add_zero, h2]
  intro d
  induction d with
  | zero =>
    intro i r' hd hi h4 h2 h3 hg hk
    refine hseg _ _ _ _ _ _ _ _ _ _ _ _ ra_g_1 ⟨pt_m0, pt_m3 h2 h3 ⟨by show 0 ≤ r' 329; omega, by show r' 329 ≤ 100; omega⟩, pt_m0⟩ ⟨fun _ => fin r' hg hk, fun _ => fin r' hg hk, fun g => ?_, trivial⟩
    have g2 : r' 329 ≤ 99 := g.2.1
    omega
  | succ d ih =>
    intro i r' hd hi h4 h2 h3 hg hk
    have hg' : (if 0 < r' 328 then fw_cl d (r' 328) (r' 327 % r' 328) else r' 327) = _ := hg
    refine hseg _ _ _ _ _ _ _ _ _ _ _ _ ra_g_1 ⟨pt_m0, pt_m3 h2 h3 ⟨by show 0 ≤ r' 329; omega, by show r' 329 ≤ 100; omega⟩, pt_m0⟩ ⟨fun g => ?_, fun g => ?_, fun g => ?_, trivial⟩
    · have g1 : 100 ≤ r' 329 := g.1
      omega
    · have g1 : r' 328 ≤ 0 := g.1
      rw [if_neg (by omega)] at hg'
      exact fin r' hg' hk
    · have g1 : 1 ≤ r' 328 := g.1
      rw [if_pos (by omega)] at hg'
      have er : ai_op 4 (r' 327) (r' 328) = r' 327 % r' 328 := ra_rem h2 ⟨g1, h3.2⟩
      have w1 := Int.emod_nonneg (r' 327) (show r' 328 ≠ 0 by omega)
      have w2 := Int.emod_lt_of_pos (r' 327) (show 0 < r' 328 by omega)
      have e2 : pt_up r' ra_gW 327 = r' 328 := rfl
      have e3 : pt_up r' ra_gW 328 = r' 327 % r' 328 := er
      have e4 : pt_up r' ra_gW 329 = r' 329 + 1 := rfl
      refine ih (i + 1) (pt_up r' ra_gW) (by omega) (by omega) (by rw [e4, h4]; rfl) (by rw [e2]; exact h3) (by rw [e3]; omega) (by rw [e2, e3]; exact hg') (fun t ht => ?_)
      refine Eq.trans ?_ (hk t ht)
      show (if t = 327 then _ else if t = 328 then _ else if t = 329 then _ else r' t) = r' t
      rw [if_neg (by omega), if_neg (by omega), if_neg (by omega)]
end RAG
theorem ra_common {n : Nat} (hn : 4 ≤ n) : pt_Met (n + 1) 37 raY [ra_i 325, ra_i 326] (fun r _ => (-2000000 ≤ r 325 ∧ r 325 ≤ 2000000) ∧ (-2000000 ≤ r 326 ∧ r 326 ≤ 2000000)) ra_gQ 1 := by
  refine pt_intro (L0 := ra_gL0) ra_plx.2.2.2.2.2.1 hn rasys (by
    have e : (ct_mt 37).2.2.1 = 6 := by decide +kernel
    rw [e]
    rfl) (fun P r M h hp => ?_)
  have loop := ra_gloop h
  obtain ⟨hseg, henv, -, -, -, -, -, -, -, -, hret, -, -, -⟩ := h
  refine hseg _ _ _ _ _ _ _ _ _ _ _ _ ra_g_0 ⟨pt_m0, pt_m0, pt_m0⟩ ⟨fun _ => ?_, trivial⟩
  obtain ⟨r1, hr1⟩ : ∃ r1, r1 = pt_up r [(327, ra_ab 325), (328, ra_ab 326), (329, ra_c 0)] := ⟨_, rfl⟩
  show P (13, 0, 0) ra_gL1 [] (pt_up r [(327, ra_ab 325), (328, ra_ab 326), (329, ra_c 0)]) M
  have e2 : r1 327 = ((r 325).natAbs : Int) := by
    rw [hr1]
    exact ra_abs hp.1
  have e3 : r1 328 = ((r 326).natAbs : Int) := by
    rw [hr1]
    exact ra_abs hp.2
  have e4 : r1 329 = ((0 : Nat) : Int) := by
    rw [hr1]
    rfl
  have k : ∀ t, t < 325 → r1 t = r t := fun t ht => by
    rw [hr1]
    show (if t = 327 then _ else if t = 328 then _ else if t = 329 then _ else r t) = r t
    rw [if_neg (by omega), if_neg (by omega), if_neg (by omega)]
  rw [← hr1]
  refine loop 100 0 r1 rfl (by omega) e4 (by rw [e2]; omega) (by rw [e3]; omega) ?_ k
  rw [e2, e3, fw_gcd 21 100 _ _ (by
    have : (2 : Nat) ^ 21 = 2097152 := by decide
    omega) (by omega)]
  rfl
