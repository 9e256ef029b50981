/-! flow -/
noncomputable def rb_u8 : List ai_V := [ra_u, ra_u, ra_u, ra_u, ra_u, ra_u, ra_u, ra_u]
noncomputable def rb_fL : List ai_V := [rb_264, ra_i 339, ra_i 340, ra_i 341, ra_i 342] ++ rb_u8
noncomputable def rb_fc (l a b : Nat) (v : List ai_V) : List ai_V := [rb_264, rb_k l, rb_k a, rb_k b, ra_i 342] ++ v
noncomputable def rb_gT : List ai_V := [rb_q 383, ra_u, rb_q 385, ra_u, rb_q 387, ra_u, ra_u, ra_u]
noncomputable def rb_gL (v : ai_V) : List ai_V := [rb_264, ra_u, ra_u, ra_u, v] ++ rb_gT
noncomputable def rb_nx (l a b : Nat) : pt_X := [(0, 213 + (4 * l + a), 0), (0, 213 + (4 * l + b), 0), (2, 21, 0)]
theorem rb_f_0 : pt_row rbY 215 [54] true (0, 0, 0) rb_fL [] [] [(339, (0, 4)), (340, (0, 3)), (341, (0, 3)), (342, (0, 1))] [((339, 1), (123, 0)), ((340, 1), (122, 0)), ((341, 1), (122, 0))] [] [((54, 0, 0), (rb_fL, [rb_k 0, rb_264]), [(121, ra_c 0)], [])] = true := by decide +kernel
theorem rb_f_k : (cy_vk 215 54 213 rbY.2.1 [rb_k 0, rb_264] [rb_264, rb_k 0] [] && pt_cck rbY 215 213 (54, 0, 0) 0 418 rb_fL [] [rb_264, rb_k 0] [rb_264, ra_i 339]) = true := by decide +kernel
theorem rb_f_1 : (List.range 5).all (fun l => (List.range 4).all (fun a => (List.range 4).all (fun b => pt_row rbY 215 [69, 108] true (57, 0, 0) (rb_fc l a b rb_u8) [] [] [] [] [] [((69, 0, 0), (rb_fc l a b rb_u8, [.inl (0, -1)]), [], [(0, ra_c 0, ra_s 212), (0, ra_s 212, ra_c 0)]), ((108, 0, 0), (rb_fc l a b rb_gT, []), [(383, rb_nx l a b), (385, rb_nx l a b ++ [(1, 0, 0), (2, 26, 0)]), (387, ra_s 212)], [(1, ra_s 212, ra_c 0)])]))) = true := by decide +kernel
noncomputable def rb_gW : List (Nat × pt_X) := [(385, [(0, 387, 0), (0, 385, 0), (2, 24, 0)]), (387, ra_s 385)]
theorem rb_f_2 : pt_row rbY 215 [108, 133] true (108, 0, 0) (rb_gL (ra_i 342)) [] [] [(385, (0, 2000000)), (387, (0, 2000000))] [] [] [((133, 0, 0), (rb_gL (ra_i 342), []), [], [(0, ra_c 0, ra_s 385), (0, ra_s 385, ra_c 0)]), ((108, 0, 0), (rb_gL (ra_i 342), []), rb_gW, [(0, ra_c 1, ra_s 385)])] = true := by decide +kernel
theorem rb_f_3 : (pt_row rbY 215 [156] true (133, 0, 0) (rb_gL (rb_k 0)) [] [] [(383, (-2000000, 2000000)), (387, (1, 2000000))] [] [] [((156, 0, 0), (rb_gL (rb_k 0), [ra_i 418]), [(418, [(0, 383, 0), (0, 387, 0), (2, 23, 0)])], [])] && pt_row rbY 215 [156] true (133, 0, 0) (rb_gL (rb_k 1)) [] [] [(212, (0, 2000000)), (387, (1, 2000000))] [] [] [((156, 0, 0), (rb_gL (rb_k 1), [ra_i 418]), [(418, [(0, 212, 0), (0, 387, 0), (2, 23, 0)])], [])]) = true := by decide +kernel
theorem rb_small {x : Int} (h : -2000000000 ≤ x ∧ x ≤ 2000000000) : x.bmod 18446744073709551616 = x := Int.bmod_eq_of_le_mul_two (by omega) (by omega)
theorem rb_rem {x y : Int} (hx : 0 ≤ x ∧ x ≤ 2000000) (hy : 1 ≤ y ∧ y ≤ 2000000) : ai_op 24 x y = x % y := by
  show (x - x.tdiv y * y).bmod 18446744073709551616 = x % y
  have e : x - x.tdiv y * y = x % y := by
    rw [Int.tdiv_eq_ediv_of_nonneg hx.1]
    have := Int.emod_add_mul_ediv x y
    rw [Int.mul_comm]
    omega
  rw [e]
  have h1 := Int.emod_nonneg x (show y ≠ 0 by omega)
  have h2 := Int.emod_lt_of_pos x (show 0 < y by omega)
  exact rb_small (by omega)
theorem rb_tdiv {x g : Int} (hx : -2000000 ≤ x ∧ x ≤ 2000000) : ai_op 23 x g = x.tdiv g := by
  have h := Int.natAbs_tdiv_le_natAbs x g
  exact rb_small (by omega)
theorem rb_abs {x : Int} (h : -2000000 ≤ x ∧ x ≤ 2000000) : ai_op 26 x 0 = (x.natAbs : Int) := by
  show (ai_abs x).bmod 18446744073709551616 = (x.natAbs : Int)
  rw [ai_abs_of]
  exact rb_small (by omega)
noncomputable def rb_fin (r : Nat → Int) : Nat → Int := fun t => if 196 ≤ t ∧ t < 212 then rb_mx r 5 (t - 196) else r t
noncomputable def rb_D (r : Nat → Int) : Int := pt_v (rb_fin r) (rb_dx (r 122).toNat)
noncomputable def rb_N (r : Nat → Int) (l a b : Nat) : Int := ai_op 21 (rb_pv (rb_fin r) l a) (rb_pv (rb_fin r) l b)
noncomputable def rb_fP (r : Nat → Int) : Prop := rb_ok r ∧ (0 ≤ r 339 ∧ r 339 + 1 ≤ r 123) ∧ (0 ≤ r 340 ∧ r 340 + 1 ≤ r 122) ∧ (0 ≤ r 341 ∧ r 341 + 1 ≤ r 122) ∧ (0 ≤ r 342 ∧ r 342 ≤ 1) ∧ (0 ≤ rb_D r ∧ rb_D r ≤ 2000000) ∧ (-2000000 ≤ rb_N r (r 339).toNat (r 340).toNat (r 341).toNat ∧ rb_N r (r 339).toNat (r 340).toNat (r 341).toNat ≤ 2000000)
noncomputable def rb_fw (w D N : Int) : Int := if D = 0 then -1 else if w = 0 then N.tdiv (Int.gcd N D : Int) else D.tdiv (Int.gcd N D : Int)
noncomputable def rb_fQ (r : Nat → Int) (M : Nat → Nat → Int) (r2 : Nat → Int) (M2 : Nat → Nat → Int) (o : Option Int) : Prop := o = some (rb_fw (r 342) (rb_D r) (rb_N r (r 339).toNat (r 340).toNat (r 341).toNat)) ∧ M2 = M ∧ r2 121 = 0 ∧ ∀ t, t < 338 → ¬(196 ≤ t ∧ t < 233) → t ≠ 121 → r2 t = r t
section RBF
variable {n : Nat} {P : pt_P} {M : Nat → Nat → Int} {Z : (Nat → Int) → (Nat → Nat → Int) → Option Int → Prop}
theorem rb_gloop (h : pt_Cl n 215 rbY 1 Z P) {r1 : Nat → Int} {g : Nat} (kk : ∀ r', r' 387 = (g : Int) → r' 383 = r1 383 → r' 342 = r1 342 → (∀ t, t < 338 → r' t = r1 t) → P (133, 0, 0) (rb_gL (ra_i 342)) [] r' M) : ∀ (d x y : Nat) (r' : Nat → Int), x ≤ d → r' 385 = (x : Int) → r' 387 = (y : Int) → x ≤ 2000000 → y ≤ 2000000 → Nat.gcd x y = g → r' 383 = r1 383 → r' 342 = r1 342 → (∀ t, t < 338 → r' t = r1 t) → P (108, 0, 0) (rb_gL (ra_i 342)) [] r' M := by
  intro d
  induction d with
  | zero =>
    intro x y r' hx h7 h9 x6 y6 hg h5 h4 hk
    have x0 : x = 0 := by omega
    subst x0
    rw [Nat.gcd_zero_left] at hg
    refine h.1 _ _ _ _ _ _ _ _ _ _ _ _ rb_f_2 ⟨pt_m0, pt_m2 ⟨by show 0 ≤ r' 385; omega, by show r' 385 ≤ 2000000; omega⟩ ⟨by show 0 ≤ r' 387; omega, by show r' 387 ≤ 2000000; omega⟩, pt_m0⟩ ⟨fun _ => kk r' (by rw [h9, hg]) h5 h4 hk, fun g2 => ?_, trivial⟩
    have g3 : 1 ≤ r' 385 := g2.1
    omega
  | succ d ih =>
    intro x y r' hx h7 h9 x6 y6 hg h5 h4 hk
    refine h.1 _ _ _ _ _ _ _ _ _ _ _ _ rb_f_2 ⟨pt_m0, pt_m2 ⟨by show 0 ≤ r' 385; omega, by show r' 385 ≤ 2000000; omega⟩ ⟨by show 0 ≤ r' 387; omega, by show r' 387 ≤ 2000000; omega⟩, pt_m0⟩ ⟨fun g2 => ?_, fun g2 => ?_, trivial⟩
    · have g3 : r' 385 ≤ 0 := g2.2.1
      have x0 : x = 0 := by omega
      subst x0
      rw [Nat.gcd_zero_left] at hg
      exact kk r' (by rw [h9, hg]) h5 h4 hk
    · have g3 : 1 ≤ r' 385 := g2.1
      have er : ai_op 24 (r' 387) (r' 385) = ((y % x : Nat) : Int) := by
        rw [rb_rem (by omega) (by omega), h9, h7]
        rfl
      have xm := Nat.mod_lt y (show 0 < x by omega)
      refine ih (y % x) x (pt_up r' rb_gW) (by omega) er (show r' 385 = _ from h7) (by omega) (by omega) (by rw [← Nat.gcd_rec]; exact hg) h5 h4 (fun t ht => ?_)
      refine Eq.trans ?_ (hk t ht)
      show (if t = 385 then _ else if t = 387 then _ else r' t) = r' t
      rw [if_neg (by omega), if_neg (by omega)]
end RBF
theorem rb_flow {n : Nat} (hn : 7 ≤ n) : pt_Met (n + 1) 215 rbY [rb_264, ra_i 339, ra_i 340, ra_i 341, ra_i 342] (fun r _ => rb_fP r) rb_fQ 1 := by
  obtain ⟨n, rfl⟩ : ∃ m, n = m + 1 := ⟨n - 1, by omega⟩
  refine pt_intro (L0 := rb_fL) rb_plx.2.2 (by omega) rbsys (by
    have e : (ct_mt 215).2.2.1 = 13 := by decide +kernel
    rw [e]
    rfl) (fun P r M h hp => ?_)
  obtain ⟨hok, ⟨p1, p2⟩, ⟨p3, p4⟩, ⟨p5, p6⟩, ⟨p7, p8⟩, ⟨p9, p10⟩, p11, p12⟩ := hp
  refine h.2.1 _ _ _ _ _ (fun hE _ => ?_)
  have bP := rb_eb hE rb_bnd.2.1
  have bL := rb_eb hE rb_bnd.1
  obtain ⟨l, hl⟩ : ∃ l : Nat, r 339 = (l : Int) := ⟨(r 339).toNat, by omega⟩
  obtain ⟨a, ha⟩ : ∃ a : Nat, r 340 = (a : Int) := ⟨(r 340).toNat, by omega⟩
  obtain ⟨b, hb⟩ : ∃ b : Nat, r 341 = (b : Int) := ⟨(r 341).toNat, by omega⟩
  obtain ⟨w, hw⟩ : ∃ w : Nat, r 342 = (w : Int) := ⟨(r 342).toNat, by omega⟩
  have eN : rb_N r (r 339).toNat (r 340).toNat (r 341).toNat = rb_N r l a b := by
    rw [hl, ha, hb]
    rfl
  rw [eN] at p11 p12
  have l5 : l < 5 := by omega
  have a4 : a < 4 := by omega
  have b4 : b < 4 := by omega
  refine h.1 _ _ _ _ _ _ _ _ _ _ _ _ rb_f_0 ⟨pt_m0, pt_m4 ⟨by show 0 ≤ r 339; omega, by show r 339 ≤ 4; omega⟩ ⟨by show 0 ≤ r 340; omega, by show r 340 ≤ 3; omega⟩ ⟨by show 0 ≤ r 341; omega, by show r 341 ≤ 3; omega⟩ ⟨by show 0 ≤ r 342; omega, by show r 342 ≤ 1; omega⟩, pt_m3 (by show r 339 + 1 ≤ r 123 + 0; omega) (by show r 340 + 1 ≤ r 122 + 0; omega) (by show r 341 + 1 ≤ r 122 + 0; omega)⟩ ⟨fun _ => ?_, trivial⟩
  obtain ⟨r0, hr0⟩ : ∃ r0, r0 = pt_up r [(121, ra_c 0)] := ⟨_, rfl⟩
  show P (54, 0, 0) rb_fL [rb_k 0, rb_264] (pt_up r [(121, ra_c 0)]) M
  have c0 : r0 121 = 0 := by
    rw [hr0]
    rfl
  have c1 : ∀ t, t ≠ 121 → r0 t = r t := fun t ht => by
    rw [hr0]
    exact if_neg ht
  rw [← hr0]
  have ck := rb_f_k
  rw [Bool.and_eq_true] at ck
  obtain ⟨ra, hra⟩ : ∃ ra, ra = pt_up r0 (pt_wc [rb_264, rb_k 0] [rb_264, ra_i 339]) := ⟨_, rfl⟩
  have a1 : ra 339 = 0 := by
    rw [hra]
    rfl
  have a2 : ∀ t, t ≠ 339 → ra t = r0 t := fun t ht => by
    rw [hra]
    exact if_neg ht
  have a3 : ∀ t, t < 338 → t ≠ 121 → ra t = r t := fun t ht hc => (a2 t (by omega)).trans (c1 t hc)
  have oka : rb_ok ra := fun x hx hw => by
    rw [a3 _ (by omega) (by omega)] at hw
    rw [a3 _ (by omega) (by omega), a3 _ (by omega) (by omega), a3 _ (by omega) (by omega)]
    exact hok x hx hw
  refine h.2.2.2.2.2.2.2.2.1 (54, 0, 0) _ _ _ _ _ r0 M 213 0 418 _ _ rb_plx.2.1 ck.1 ck.2 (rb_tell (by omega)) (by
    rw [← hra]
    exact ⟨a1, oka, by rw [a3 _ (by omega) (by omega)]; omega⟩) (fun r1 M1 o hq => ?_)
  rw [← hra] at hq
  obtain ⟨o1, o2, qm, qd, qp, qk⟩ := hq
  subst o1 o2
  obtain ⟨rc, rs⟩ := ra_rm0 (n := n + 1) rb_bud.2.1
  rw [rc, rs]
  obtain ⟨s1, hs1⟩ : ∃ s1, s1 = pt_mrg 338 r0 r1 418 none := ⟨_, rfl⟩
  show P (57, 0, 0) rb_fL [] (pt_mrg 338 r0 r1 418 none) M1
  have s1l : ∀ t, t < 338 → s1 t = r1 t := fun t ht => by rw [hs1]; exact rb_mlt ht
  have s1g : ∀ t, 338 ≤ t → s1 t = r t := fun t ht => by
    rw [hs1]
    refine Eq.trans (if_neg (by omega)) ?_
    exact c1 t (by omega)
  rw [← hs1]
  -- matrix, determinant, pushes
  have fx : ∀ t, t < 338 → ¬(212 ≤ t ∧ t < 233) → t ≠ 121 → r1 t = rb_fin r t := fun t ht h2 h3 => by
    unfold rb_fin
    by_cases e : 196 ≤ t ∧ t < 212
    · rw [if_pos e]
      have := qm (t - 196) (by omega)
      rw [show 196 + (t - 196) = t by omega] at this
      rw [this]
      have go : ∀ x, x ≤ 5 → ∀ q, q < 16 → rb_mx ra x q = rb_mx r x q := fun x => by
        induction x with
        | zero => exact fun _ _ _ => rfl
        | succ x ih =>
          intro hx q hq
          show (if (x : Int) + 1 ≤ ra 123 then rb_add (ra (164 + x)).toNat (ra (169 + x)).toNat (ra (174 + x)) (rb_mx ra x) else rb_mx ra x) q = (if (x : Int) + 1 ≤ r 123 then rb_add (r (164 + x)).toNat (r (169 + x)).toNat (r (174 + x)) (rb_mx r x) else rb_mx r x) q
          rw [a3 123 (by omega) (by omega), a3 (164 + x) (by omega) (by omega), a3 (169 + x) (by omega) (by omega), a3 (174 + x) (by omega) (by omega)]
          by_cases e2 : (x : Int) + 1 ≤ r 123
          · rw [if_pos e2, if_pos e2]
            exact rb_add_c rfl (ih (by omega)) q hq
          · rw [if_neg e2, if_neg e2]
            exact ih (by omega) q hq
      exact go 5 (by omega) _ (by omega)
    · rw [if_neg e, qk t ht (by omega)]
      exact a3 t ht h3
  obtain ⟨p, hp⟩ : ∃ p : Nat, r 122 = ((p + 1 : Nat) : Int) := ⟨(r 122).toNat - 1, by omega⟩
  have aP : ra 122 = r 122 := a3 _ (by omega) (by omega)
  have aL : ra 123 = r 123 := a3 _ (by omega) (by omega)
  have eD : s1 212 = rb_D r := by
    rw [s1l _ (by omega), qd, aP]
    unfold rb_D
    rw [hp]
    exact rb_in_c (rb_in_dx (p := p) (by omega)) (fun t t1 t2 => fx t (by omega) (by omega) (by omega))
  have pv : ∀ j : Nat, (j : Int) + 1 ≤ r 122 → s1 (213 + (4 * l + j)) = rb_pv (rb_fin r) l j := fun j hj => by
    rw [s1l _ (by omega), qp l j (by rw [aL]; omega) (by rw [aP]; exact hj)]
    unfold rb_pv
    have f1 := fx (174 + l) (by omega) (by omega) (by omega)
    have f2 := fx 122 (by omega) (by omega) (by omega)
    have f3 := fx (164 + l) (by omega) (by omega) (by omega)
    have f4 := fx (169 + l) (by omega) (by omega) (by omega)
    have fP : rb_fin r 122 = r 122 := if_neg (by omega)
    have fF : rb_fin r (164 + l) = r (164 + l) := if_neg (by omega)
    have fT : rb_fin r (169 + l) = r (169 + l) := if_neg (by omega)
    rw [f1, f2, f3, f4, fP, fF, fT, hp]
    obtain ⟨-, o2, o3⟩ := hok l l5 (by omega)
    obtain ⟨m4, m5, -⟩ := rb_bnd.2.2 l l5
    have w4 := rb_eb hE m4
    have w5 := rb_eb hE m5
    have cc : ∀ x : Int, 0 ≤ x → x + 1 ≤ ((p + 1 : Nat) : Int) → pt_v r1 (rb_hx ((p + 1 : Nat) : Int).toNat x.toNat j) = pt_v (rb_fin r) (rb_hx ((p + 1 : Nat) : Int).toNat x.toNat j) := fun x hx hx2 => rb_in_c (rb_in_hx (p := p) (by omega) (by omega) (by omega)) (fun t t1 t2 => fx t (by omega) (by omega) (by omega))
    rw [cc _ (by omega) (by omega), cc _ (by omega) (by omega)]
  have keep : ∀ t, t < 338 → ¬(196 ≤ t ∧ t < 233) → t ≠ 121 → s1 t = r t := fun t ht h2 h3 => by
    rw [s1l t ht, qk t ht h2]
    exact a3 t ht h3
  have kcd : s1 121 = 0 := by
    rw [s1l _ (by omega), qk _ (by omega) (by omega), a2 _ (by omega), c0]
  refine h.2.1 _ _ _ _ _ (fun hE1 _ => ?_)
  have z0 : s1 0 = 0 := hE1.1
  refine h.2.2.1 _ _ (rb_fc l a b rb_u8) _ [] _ _ ⟨rfl, rb_cn z0 _ _ ((s1g _ (by omega)).trans hl), rb_cn z0 _ _ ((s1g _ (by omega)).trans ha), rb_cn z0 _ _ ((s1g _ (by omega)).trans hb), ⟨by decide +kernel, rfl⟩, trivial, trivial, trivial, trivial, trivial, trivial, trivial, trivial, trivial⟩ trivial ?_
  refine h.1 _ _ _ _ _ _ _ _ _ _ _ _ (List.all_eq_true.mp (List.all_eq_true.mp (List.all_eq_true.mp rb_f_1 l (List.mem_range.mpr l5)) a (List.mem_range.mpr a4)) b (List.mem_range.mpr b4)) ⟨pt_m0, pt_m0, pt_m0⟩ ⟨fun g => ?_, fun g => ?_, trivial⟩
  · have g1 : 0 ≤ s1 212 := g.1
    have g2 : s1 212 ≤ 0 := g.2.1
    refine h.2.2.2.2.2.2.2.2.2.2.1 (69, 0, 0) _ (0, -1) _ M1 rfl (by decide +kernel) (by decide +kernel) (by decide +kernel) ⟨congrArg some ?_, rfl, kcd, keep⟩
    show s1 0 + -1 = _
    unfold rb_fw
    rw [if_pos (by omega), z0]
    rfl
  · have g1 : s1 212 ≠ 0 := g.1
    obtain ⟨s2, hs2⟩ : ∃ s2, s2 = pt_up s1 [(383, rb_nx l a b), (385, rb_nx l a b ++ [(1, 0, 0), (2, 26, 0)]), (387, ra_s 212)] := ⟨_, rfl⟩
    show P (108, 0, 0) (rb_fc l a b rb_gT) [] (pt_up s1 [(383, rb_nx l a b), (385, rb_nx l a b ++ [(1, 0, 0), (2, 26, 0)]), (387, ra_s 212)]) M1
    have nv : pt_v s1 (rb_nx l a b) = rb_N r l a b := by
      show ai_op 21 (s1 (213 + (4 * l + a))) (s1 (213 + (4 * l + b))) = _
      rw [pv a (by omega), pv b (by omega)]
      rfl
    have k5 : s2 383 = rb_N r l a b := by
      rw [hs2]
      exact nv
    have k7 : s2 385 = ((rb_N r l a b).natAbs : Int) := by
      rw [hs2, ← rb_abs ⟨p11, p12⟩, ← nv]
      rfl
    have k9 : s2 387 = rb_D r := by
      rw [hs2, ← eD]
      rfl
    have s2l : ∀ t, t < 338 → s2 t = s1 t := fun t ht => by
      rw [hs2]
      show (if t = 383 then _ else if t = 385 then _ else if t = 387 then _ else s1 t) = s1 t
      rw [if_neg (by omega), if_neg (by omega), if_neg (by omega)]
    have k4 : s2 342 = (w : Int) := by
      rw [hs2, ← hw, ← s1g _ (by omega)]
      rfl
    rw [← hs2]
    refine h.2.2.1 _ _ (rb_gL (ra_i 342)) _ [] _ _ ⟨rfl, trivial, trivial, trivial, ⟨by decide +kernel, rfl⟩, ⟨by decide +kernel, rfl⟩, trivial, ⟨by decide +kernel, rfl⟩, trivial, ⟨by decide +kernel, rfl⟩, trivial, trivial, trivial, trivial⟩ trivial ?_
    obtain ⟨D, hD⟩ : ∃ D : Nat, rb_D r = (D : Int) := ⟨(rb_D r).toNat, by omega⟩
    have D0 : D ≠ 0 := fun q => g1 (by rw [eD, hD, q]; rfl)
    have eg : Int.gcd (rb_N r l a b) (rb_D r) = Nat.gcd (rb_N r l a b).natAbs D := by
      rw [hD]
      rfl
    refine rb_gloop h (r1 := s2) (g := Int.gcd (rb_N r l a b) (rb_D r)) (fun r' f9 f5 f4 fk => ?_) _ _ D s2 (Nat.le_refl _) k7 (k9.trans hD) (by omega) (by omega) eg.symm rfl rfl (fun _ _ => rfl)
    obtain ⟨G, hG⟩ : ∃ G : Nat, G = Int.gcd (rb_N r l a b) (rb_D r) := ⟨_, rfl⟩
    rw [← hG] at f9
    have gp : 1 ≤ G ∧ G ≤ 2000000 := by
      have d1 : 0 < G := by
        rw [hG, eg]
        exact Nat.gcd_pos_of_pos_right _ (by omega)
      have d2 : G ≤ D := by
        rw [hG, eg]
        exact Nat.le_of_dvd (by omega) (Nat.gcd_dvd_right _ _)
      omega
    refine h.2.1 _ _ _ _ _ (fun hE2 _ => ?_)
    have y0 : r' 0 = 0 := hE2.1
    have row := rb_f_3
    rw [Bool.and_eq_true] at row
    have Dn : rb_D r ≠ 0 := fun q => g1 (eD.trans q)
    have dt : r' 212 = rb_D r := by rw [fk _ (by omega), s2l _ (by omega), eD]
    have out : ∀ v : Int, v = rb_fw (r 342) (rb_D r) (rb_N r l a b) → ∀ r2 : Nat → Int, (∀ t, t < 338 → r2 t = r' t) → rb_fQ r M1 r2 M1 (some v) := fun v hv r2 hr2 => ⟨by rw [hv, eN], rfl, by rw [hr2 _ (by omega), fk _ (by omega), s2l _ (by omega), kcd], fun t ht h2 h3 => by rw [hr2 t ht, fk t ht, s2l t ht, keep t ht h2 h3]⟩
    rcases (by omega : w = 0 ∨ w = 1) with rfl | rfl
    · refine h.2.2.1 _ _ (rb_gL (rb_k 0)) _ [] _ _ ⟨rfl, trivial, trivial, trivial, rb_cn y0 _ _ (f4.trans k4), ⟨by decide +kernel, rfl⟩, trivial, ⟨by decide +kernel, rfl⟩, trivial, ⟨by decide +kernel, rfl⟩, trivial, trivial, trivial, trivial⟩ trivial ?_
      refine h.1 _ _ _ _ _ _ _ _ _ _ _ _ row.1 ⟨pt_m0, pt_m2 ⟨by show -2000000 ≤ r' 383; rw [f5, k5]; exact p11, by show r' 383 ≤ 2000000; rw [f5, k5]; exact p12⟩ ⟨by show 1 ≤ r' 387; omega, by show r' 387 ≤ 2000000; omega⟩, pt_m0⟩ ⟨fun _ => ?_, trivial⟩
      refine h.2.2.2.2.2.2.2.2.2.2.1 (156, 0, 0) _ (418, 0) _ M1 rfl (by decide +kernel) (by decide +kernel) (by decide +kernel) (out _ ?_ _ (fun t ht => if_neg (by omega)))
      show ai_op 23 (r' 383) (r' 387) + 0 = _
      unfold rb_fw
      rw [if_neg Dn, if_pos (show r 342 = 0 from hw), f5, k5, f9, Int.add_zero, rb_tdiv ⟨p11, p12⟩, hG]
    · refine h.2.2.1 _ _ (rb_gL (rb_k 1)) _ [] _ _ ⟨rfl, trivial, trivial, trivial, rb_cn y0 _ _ (f4.trans k4), ⟨by decide +kernel, rfl⟩, trivial, ⟨by decide +kernel, rfl⟩, trivial, ⟨by decide +kernel, rfl⟩, trivial, trivial, trivial, trivial⟩ trivial ?_
      refine h.1 _ _ _ _ _ _ _ _ _ _ _ _ row.2 ⟨pt_m0, pt_m2 ⟨by show 0 ≤ r' 212; omega, by show r' 212 ≤ 2000000; omega⟩ ⟨by show 1 ≤ r' 387; omega, by show r' 387 ≤ 2000000; omega⟩, pt_m0⟩ ⟨fun _ => ?_, trivial⟩
      refine h.2.2.2.2.2.2.2.2.2.2.1 (156, 0, 0) _ (418, 0) _ M1 rfl (by decide +kernel) (by decide +kernel) (by decide +kernel) (out _ ?_ _ (fun t ht => if_neg (by omega)))
      show ai_op 23 (r' 212) (r' 387) + 0 = _
      unfold rb_fw
      rw [if_neg Dn, if_neg (by omega), dt, f9, Int.add_zero, rb_tdiv (by omega), hG]
