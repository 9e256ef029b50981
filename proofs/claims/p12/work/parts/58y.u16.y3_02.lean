/-! ASKED (the reference): asked -/
noncomputable def rq_L (v q : Nat) (a b : ai_V) : List ai_V := [wa_r 264, wa_k v, wa_i 425, wa_k q, a, b]
noncomputable def rq_u (v q : Nat) : List ai_V := rq_L v q wa_u wa_u
noncomputable def rq_h (v q : Nat) : List ai_V := rq_L v q (wa_i 426) (wa_i 427)
noncomputable def rq_1 (q : Nat) : List ai_V := [wa_r 264, wa_k q]
noncomputable def rq_2 (v q u : Nat) : List ai_V := [wa_r 264, wa_k v, wa_i u, wa_k q, wa_i 426]
noncomputable abbrev rq_r (st : List Nat) (sk : Bool) (pc : Nat) (L S : List ai_V) (cp : List (Nat × Int × Int)) (le : List (ai_X × ai_X)) (pc2 : Nat) (L2 S2 : List ai_V) (W : List (Nat × pt_X)) : Bool := pt_row geY 209 st sk (pc, 0, 0) L S [] cp le [] [((pc2, 0, 0), (L2, S2), W, [])]
theorem rq_c : (List.range 4).all (fun v => (List.range 4).all (fun q => (rq_r [39, 42] true 0 (rq_u v q) [] [(425, (1, 7)), (73, (.ofNat (v + 1), 4))] [((425, 0), (145 + v, 0))] 42 (rq_u v q) [wa_k q, wa_r 264] [(70, gz_k 0)] && rq_r [50] false 45 (rq_u v q) [wa_i 504] [] [] 50 (rq_h v q) [] [(426, gz_p 504), (427, gz_k 1)]) &&
    ((rq_r [63, 84] true 50 (rq_h v q) [] [(425, (1, 7)), (427, (1, 7))] [((427, 1), (425, 0))] 63 (rq_h v q) [wa_i 426, wa_k q, wa_i 427, wa_k v, wa_r 264] [] && rq_r [63, 84] true 50 (rq_h v q) [] [(425, (1, 7)), (427, (1, 7))] [((425, 0), (427, 0))] 84 (rq_h v q) [wa_i 426, wa_k q, wa_i 425, wa_k v, wa_r 264] []) &&
    (rq_r [50, 71] false 66 (rq_h v q) [wa_i 504] [(504, (-1, -1)), (427, (1, 7))] [] 71 (rq_h v q) [.inl (0, -1)] [] && (rq_r [50, 71] false 66 (rq_h v q) [wa_i 504] [(504, (0, 2147483647)), (427, (1, 7))] [] 50 (rq_h v q) [] [(427, gz_d 427 1)] && rq_r [50, 71] false 66 (rq_h v q) [wa_i 504] [(504, (-2147483648, -2)), (427, (1, 7))] [] 50 (rq_h v q) [] [(427, gz_d 427 1)]))))) = true := by decide +kernel
theorem rq_k : (List.range 4).all (fun v => (List.range 4).all (fun q => (cy_vk 209 42 208 geY.2.1 [wa_k q, wa_r 264] (rq_1 q) [] && pt_cck geY 209 208 (42, 0, 0) 1 504 (rq_u v q) [] (rq_1 q) lo_a) && ((cy_vk 209 63 207 geY.2.1 [wa_i 426, wa_k q, wa_i 427, wa_k v, wa_r 264] (rq_2 v q 427) [] && pt_cck geY 209 207 (63, 0, 0) 1 504 (rq_h v q) [] (rq_2 v q 427) ro_a) && (cy_vk 209 84 207 geY.2.1 [wa_i 426, wa_k q, wa_i 425, wa_k v, wa_r 264] (rq_2 v q 425) [] && pt_cck geY 209 207 (84, 0, 0) 1 504 (rq_h v q) [] (rq_2 v q 425) ro_a)))) = true ∧ ((pt_is 5 209 71 = true ∧ pt_is 5 209 87 = true) ∧ (ct_mt 209).2.2.1 = 6) ∧ lh_plain 209 = true ∧ ct_bud 209 = (0, 0) := by decide +kernel
theorem rq_bd : (List.range 4).all (fun v => geE.2.1.any (fun q => decide (q = (149 + v, ((0 : Int), (999 : Int)))))) = true ∧ geE.2.1.any (fun q => decide (q = (73, ((0 : Int), (4 : Int))))) = true := by decide +kernel
noncomputable def rq_a : List ai_V := [wa_r 264, wa_i 424, wa_i 425, wa_i 426]
noncomputable def rq_P (v u q : Nat) (l : List Int) (r : Nat → Int) (M : Nat → Nat → Int) : Prop := ((r 424 = (v : Int) ∧ (v : Int) + 1 ≤ r 73) ∧ (r 425 = (u : Int) ∧ r 425 ≤ r (145 + v)) ∧ r 426 = (q : Int)) ∧ lo_z q r ∧ (r (369 + v) = if l = [] then 0 else 1) ∧ go_K v l M
noncomputable def rq_Q (v u q : Nat) (l : List Int) (r : Nat → Int) (M : Nat → Nat → Int) (r2 : Nat → Int) (M2 : Nat → Nat → Int) (o : Option Int) : Prop := (o = some (rq_v (am_A r (q : Int) (op_T r q 0) v l) u) ∧ ∀ j, am_A r (q : Int) (op_T r q 0) v l j = -1 ∨ (0 ≤ am_A r (q : Int) (op_T r q 0) v l j ∧ am_A r (q : Int) (op_T r q 0) v l j ≤ 9999)) ∧ (r2 70 = 0 ∧ ∀ t, t < 424 → t ≠ 70 → ¬ (419 ≤ t ∧ t < 419 + 5) → r2 t = r t) ∧ ∀ z, z ≠ 292 → M2 z = M z
theorem rq_M {n v u q : Nat} {l : List Int} (hn : 4 ≤ n) (hv : v < 4) (hu : 1 ≤ u ∧ u ≤ 7) (hq : q < 4) (hg : ps_gc l) : pt_Met (n + 1 + 1 + 1 + 1) 209 geY rq_a (rq_P v u q l) (rq_Q v u q l) 1 := by
  refine pt_intro (L0 := [wa_r 264, wa_i 424, wa_i 425, wa_i 426, wa_u, wa_u]) rq_k.2.2.1 (by omega) gesys (by
    rw [rq_k.2.1.2]
    rfl) (fun P r M h hp => ?_)
  obtain ⟨hseg, henv, hrel, -, -, -, -, -, hcall, -, hret, -⟩ := h
  obtain ⟨⟨⟨p0, pm⟩, ⟨p1, po⟩, p2⟩, pz, ph, pK⟩ := hp
  refine henv _ _ _ _ _ (fun hE _ => ?_)
  have h0 : r 0 = 0 := hE.1
  obtain ⟨y, hy, ey⟩ := List.any_eq_true.mp (List.all_eq_true.mp rq_bd.1 v (List.mem_range.mpr hv))
  have ey := of_decide_eq_true ey
  subst ey
  have bk : (0 : Int) ≤ r (149 + v) ∧ r (149 + v) ≤ 999 := (hE.2.2.2.1 _ hy).2
  obtain ⟨y, hy, ey⟩ := List.any_eq_true.mp rq_bd.2
  have ey := of_decide_eq_true ey
  subst ey
  have bm : (0 : Int) ≤ r 73 ∧ r 73 ≤ 4 := (hE.2.2.2.1 _ hy).2
  obtain ⟨T, hT⟩ : ∃ T, T = op_T r q 0 := ⟨_, rfl⟩
  obtain ⟨A, hA⟩ : ∃ A, A = am_A r (q : Int) T v l := ⟨_, rfl⟩
  have Ab : ∀ j, A j = -1 ∨ (0 ≤ A j ∧ A j ≤ 9999) := fun j => by
    rw [hA]
    exact av_ask_b bk
  have q1 := List.all_eq_true.mp (List.all_eq_true.mp rq_c v (List.mem_range.mpr hv)) q (List.mem_range.mpr hq)
  simp only [Bool.and_eq_true] at q1
  obtain ⟨⟨c1, c2⟩, ⟨c3, c4⟩, c5, c6, c7⟩ := q1
  have qk := List.all_eq_true.mp (List.all_eq_true.mp rq_k.1 v (List.mem_range.mpr hv)) q (List.mem_range.mpr hq)
  rw [Bool.and_eq_true, Bool.and_eq_true, Bool.and_eq_true, Bool.and_eq_true, Bool.and_eq_true] at qk
  obtain ⟨⟨k1, k2⟩, ⟨k3, k4⟩, k5, k6⟩ := qk
  have fin : ∀ (x : Int) r2 M2, x = rq_v A u → r2 70 = 0 → (∀ t, t < 424 → t ≠ 70 → ¬ (419 ≤ t ∧ t < 419 + 5) → r2 t = r t) → (∀ z, z ≠ 292 → M2 z = M z) → rq_Q v u q l r M r2 M2 (some x) := fun x r2 M2 e a b c => by
    rw [hA, hT] at e
    refine ⟨⟨congrArg some e, fun j => ?_⟩, ⟨a, b⟩, c⟩
    have := Ab j
    rw [hA, hT] at this
    exact this
  -- one unit is asked for
  have call : ∀ (pc cell j : Nat) (r1 : Nat → Int) (M1 : Nat → Nat → Int), ((cell = 425 ∨ cell = 427) ∧ r1 cell = (j : Int)) → cy_vk 209 pc 207 geY.2.1 [wa_i 426, wa_k q, wa_i cell, wa_k v, wa_r 264] (rq_2 v q cell) [] = true → pt_cck geY 209 207 (pc, 0, 0) 1 504 (rq_h v q) [] (rq_2 v q cell) ro_a = true → r1 426 = T → (r1 70 = 0 ∧ ∀ t, t < 424 → t ≠ 70 → ¬ (419 ≤ t ∧ t < 419 + 5) → r1 t = r t) → (∀ z, z ≠ 292 → M1 z = M z) →
      (∀ r2 M2, r2 504 = A j → (r2 70 = 0 ∧ ∀ t, t < 424 → t ≠ 70 → ¬ (419 ≤ t ∧ t < 419 + 5) → r2 t = r t) → (∀ t, 424 ≤ t → t ≠ 504 → r2 t = r1 t) → (∀ z, z ≠ 292 → M2 z = M z) → P (pc + 3, 0, 0) (rq_h v q) [wa_i 504] r2 M2) → P (pc, 0, 0) (rq_h v q) [wa_i 426, wa_k q, wa_i cell, wa_k v, wa_r 264] r1 M1 := fun pc cell j r1 M1 ej ck1 ck2 e2 f1 fM k => by
    refine henv _ _ _ _ _ (fun hE1 _ => ?_)
    have h10 : r1 0 = 0 := hE1.1
    obtain ⟨r6, hr6⟩ : ∃ r6, r6 = pt_up r1 (pt_wc (rq_2 v q cell) ro_a) := ⟨_, rfl⟩
    have v6 : ∀ t, r6 t = if t = 424 then (v : Int) else if t = 425 then r1 cell else if t = 426 then (q : Int) else if t = 427 then r1 426 else r1 t := fun t => by
      have e1 : pt_v r1 (pt_xr (0, .ofNat v)) = (v : Int) := by
        rw [pt_xr_ok h10]
        show r1 0 + (v : Int) = _
        rw [h10, Int.zero_add]
      have e2 : pt_v r1 (pt_xr (0, .ofNat q)) = (q : Int) := by
        rw [pt_xr_ok h10]
        show r1 0 + (q : Int) = _
        rw [h10, Int.zero_add]
      have e3 : pt_v r1 (pt_xr (cell, 0)) = r1 cell := by
        rw [pt_xr_ok h10]
        exact Int.add_zero _
      have e : r6 t = if t = 424 then pt_v r1 (pt_xr (0, .ofNat v)) else if t = 425 then pt_v r1 (pt_xr (cell, 0)) else if t = 426 then pt_v r1 (pt_xr (0, .ofNat q)) else if t = 427 then r1 426 else r1 t := by
        rw [hr6]
        rfl
      rw [e, e1, e2, e3]
    have lo6 : ∀ t, t < 424 → r6 t = r1 t := fun t a => by rw [v6, if_neg (by omega), if_neg (by omega), if_neg (by omega), if_neg (by omega)]
    have nh : ∀ w, (w = 369 ∨ w = 149 ∨ w = 145) → (w + v < 424 ∧ w + v ≠ 70) ∧ ¬ (419 ≤ w + v ∧ w + v < 419 + 5) := fun w hw => by omega
    have same : ∀ w, (w = 369 ∨ w = 149 ∨ w = 145) → r6 (w + v) = r (w + v) := fun w hw => by
      obtain ⟨⟨a, b⟩, c⟩ := nh w hw
      rw [lo6 _ a]
      exact f1.2 _ a b c
    refine hcall (pc, 0, 0) _ _ _ _ _ r1 M1 207 1 504 _ _ ro_k.2.2.1 ck1 ck2 (ro_M (n := n) (v := v) (V := aV r (q : Int) T v (j : Int)) (l := l) hn hv hg) (by
      rw [← hr6]
      obtain ⟨z1, ⟨z2, z3⟩, z4, z5⟩ := pK
      refine ⟨⟨⟨?_, ?_⟩, ?_, ?_⟩, ⟨?_, ?_⟩, ?_, z1, ⟨z2, ?_⟩, fun k hk => ?_, fun k hk => ?_⟩
      · rw [v6, if_pos rfl]
      · rw [v6, if_neg (by omega), if_pos rfl]
        exact ej.2
      · rw [v6, if_neg (by omega), if_neg (by omega), if_pos rfl]
        rfl
      · rw [v6, if_neg (by omega), if_neg (by omega), if_neg (by omega), if_pos rfl]
        exact e2
      · exact same _ (Or.inr (Or.inl rfl))
      · exact same _ (Or.inr (Or.inr rfl))
      · rw [same _ (Or.inl rfl)]
        exact ph
      · rw [fM 286 (by omega)]
        exact z3
      · rw [fM 287 (by omega), fM 288 (by omega), fM 289 (by omega)]
        exact z4 k hk
      · rw [fM 290 (by omega)]
        exact z5 k hk) (fun r7 M7 o hq7 => ?_)
    rw [← hr6] at hq7
    obtain ⟨rc, rs⟩ := wa_rm (n := n + 1 + 1 + 1) ro_k.2.2.2
    rw [rc, rs]
    obtain ⟨rfl, y2, y3⟩ := hq7
    have eA : av_ask (aV r (q : Int) T v (j : Int)) l = A j := by
      rw [hA]
      rfl
    rw [eA]
    obtain ⟨r8, hr8⟩ : ∃ r8, r8 = pt_mrg 424 r1 r7 504 (some (A j)) := ⟨_, rfl⟩
    show P (pc + 3, 0, 0) (rq_h v q) [wa_i 504] (pt_mrg 424 r1 r7 504 (some (A j))) _
    rw [← hr8]
    have lo8 : ∀ t, t < 424 → ¬ (419 ≤ t ∧ t < 419 + 5) → r8 t = r1 t := fun t a b => by
      rw [hr8, wa_mlt a, y2 t a b]
      exact lo6 t a
    refine k r8 M7 (by rw [hr8]; exact wa_mz (by omega)) ⟨?_, fun t a b c => ?_⟩ (fun t a b => ?_) (fun z w => (y3 z w).trans (fM z w))
    · rw [lo8 _ (by omega) (by omega)]
      exact f1.1
    · rw [lo8 t a c]
      exact f1.2 t a b c
    · rw [hr8]
      show (if t < 424 then r7 t else if t = 504 then A j else r1 t) = r1 t
      rw [if_neg (by omega), if_neg b]
  -- unit after unit
  have key : ∀ d j r1 M1, j + d = u - 1 → am_n A j = j → (r1 425 = (u : Int) ∧ r1 426 = T ∧ r1 427 = ((j + 1 : Nat) : Int)) → (r1 70 = 0 ∧ ∀ t, t < 424 → t ≠ 70 → ¬ (419 ≤ t ∧ t < 419 + 5) → r1 t = r t) → (∀ z, z ≠ 292 → M1 z = M z) → P (50, 0, 0) (rq_h v q) [] r1 M1 := fun d => by
    induction d with
    | zero =>
      intro j r1 M1 hj hn' he f1 fM
      refine hseg _ _ _ _ _ r1 M1 _ _ _ _ _ c4 ⟨pt_m0, pt_m2 ⟨by show (1 : Int) ≤ r1 425; omega, by show r1 425 ≤ 7; omega⟩ ⟨by show (1 : Int) ≤ r1 427; omega, by show r1 427 ≤ 7; omega⟩, pt_m1 (by show r1 425 + 0 ≤ r1 427 + 0; omega)⟩ ⟨fun _ => ?_, trivial⟩
      refine call 84 425 u r1 M1 ⟨Or.inl rfl, he.1⟩ k5 k6 he.2.1 f1 fM (fun r2 M2 a b _ g => ?_)
      refine hret (87, 0, 0) _ (504, 0) r2 M2 rfl rq_k.2.1.1.2 (by decide +kernel) (by decide +kernel) (fin _ r2 M2 ?_ b.1 b.2 g)
      show r2 504 + 0 = rq_v A u
      have e : am_n A (u - 1) = u - 1 := by
        rw [show u - 1 = j by omega]
        exact hn'
      rw [Int.add_zero, a]
      exact (if_pos e).symm
    | succ d ih =>
      intro j r1 M1 hj hn' he f1 fM
      refine hseg _ _ _ _ _ r1 M1 _ _ _ _ _ c3 ⟨pt_m0, pt_m2 ⟨by show (1 : Int) ≤ r1 425; omega, by show r1 425 ≤ 7; omega⟩ ⟨by show (1 : Int) ≤ r1 427; omega, by show r1 427 ≤ 7; omega⟩, pt_m1 (by show r1 427 + 1 ≤ r1 425 + 0; omega)⟩ ⟨fun _ => ?_, trivial⟩
      refine call 63 427 (j + 1) r1 M1 ⟨Or.inr rfl, he.2.2⟩ k3 k4 he.2.1 f1 fM (fun r2 M2 a b c g => ?_)
      have he2 : r2 425 = (u : Int) ∧ r2 426 = T ∧ r2 427 = ((j + 1 : Nat) : Int) := ⟨(c _ (by omega) (by omega)).trans he.1, (c _ (by omega) (by omega)).trans he.2.1, (c _ (by omega) (by omega)).trans he.2.2⟩
      have b3 : (1 : Int) ≤ r2 427 ∧ r2 427 ≤ 7 := by
        have := he2.2.2
        omega
      have ab := Ab (j + 1)
      by_cases x : A (j + 1) = -1
      · refine hseg _ _ _ _ _ r2 M2 _ _ _ _ _ c5 ⟨pt_m0, pt_m2 ⟨by show (-1 : Int) ≤ r2 504; omega, by show r2 504 ≤ -1; omega⟩ b3, pt_m0⟩ ⟨fun _ => ?_, trivial⟩
        refine henv _ _ _ _ _ (fun hE2 _ => ?_)
        refine hret (71, 0, 0) _ (0, -1) r2 M2 rfl rq_k.2.1.1.1 (by decide +kernel) (by decide +kernel) (fin _ r2 M2 ?_ b.1 b.2 g)
        have e : am_n A (u - 1) = j := by
          have := am_n_st hn' x d
          rw [show j + 1 + d = u - 1 by omega] at this
          exact this
        have e2 : rq_v A u = -1 := if_neg (by omega)
        rw [e2]
        show r2 0 + -1 = -1
        have h20 : r2 0 = 0 := hE2.1
        omega
      · refine hseg _ _ _ _ _ r2 M2 _ _ _ _ _ c6 ⟨pt_m0, pt_m2 ⟨by show (0 : Int) ≤ r2 504; omega, by show r2 504 ≤ 2147483647; omega⟩ b3, pt_m0⟩ ⟨fun _ => ?_, trivial⟩
        obtain ⟨r3, hr3⟩ : ∃ r3, r3 = pt_up r2 [(427, gz_d 427 1)] := ⟨_, rfl⟩
        show P (50, 0, 0) (rq_h v q) [] (pt_up r2 [(427, gz_d 427 1)]) M2
        rw [← hr3]
        have v3 : ∀ t, r3 t = if t = 427 then r2 427 + 1 else r2 t := fun t => by
          rw [hr3]
          rfl
        refine ih (j + 1) r3 M2 (by omega) (by rw [am_n_s, if_pos ⟨hn', x⟩]) ⟨by rw [v3, if_neg (by omega)]; exact he2.1, by rw [v3, if_neg (by omega)]; exact he2.2.1, by rw [v3, if_pos rfl, he2.2.2]; omega⟩ ⟨by rw [v3, if_neg (by omega)]; exact b.1, fun t p q' w => ?_⟩ g
        rw [v3, if_neg (by omega)]
        exact b.2 t p q' w
  refine hrel (0, 0, 0) _ (rq_u v q) [] [] r M ⟨rfl, ⟨by show 0 < 524; omega, by show r 424 + 0 = r 0 + (v : Int); omega⟩, ⟨by show 425 < 524; omega, rfl⟩, ⟨by show 0 < 524; omega, by show r 426 + 0 = r 0 + (q : Int); omega⟩, trivial, trivial, trivial⟩ trivial ?_
  refine hseg _ _ _ _ _ r M _ _ _ _ _ c1 ⟨pt_m0, pt_m2 ⟨by show (1 : Int) ≤ r 425; omega, by show r 425 ≤ 7; omega⟩ ⟨by show ((v + 1 : Nat) : Int) ≤ r 73; omega, by show r 73 ≤ 4; omega⟩, pt_m1 (by show r 425 + 0 ≤ r (145 + v) + 0; omega)⟩ ⟨fun _ => ?_, trivial⟩
  obtain ⟨r2, hr2⟩ : ∃ r2, r2 = pt_up r [(70, gz_k 0)] := ⟨_, rfl⟩
  show P (42, 0, 0) (rq_u v q) [wa_k q, wa_r 264] (pt_up r [(70, gz_k 0)]) M
  rw [← hr2]
  have v2 : ∀ t, r2 t = if t = 70 then 0 else r t := fun t => by
    rw [hr2]
    rfl
  refine henv _ _ _ _ _ (fun hE2 _ => ?_)
  have h20 : r2 0 = 0 := hE2.1
  obtain ⟨r6, hr6⟩ : ∃ r6, r6 = pt_up r2 (pt_wc (rq_1 q) lo_a) := ⟨_, rfl⟩
  have v6 : ∀ t, r6 t = if t = 424 then (q : Int) else r2 t := fun t => by
    have e1 : pt_v r2 (pt_xr (0, .ofNat q)) = (q : Int) := by
      rw [pt_xr_ok h20]
      show r2 0 + (q : Int) = _
      rw [h20, Int.zero_add]
    have e : r6 t = if t = 424 then pt_v r2 (pt_xr (0, .ofNat q)) else r2 t := by
      rw [hr6]
      rfl
    rw [e, e1]
  have t6 : ∀ t, t < 424 → t ≠ 70 → r6 t = r t := fun t a b => by rw [v6, if_neg (by omega), v2, if_neg b]
  have l6 : ∀ p, p < 4 → r6 (169 + 4 * p + q) = r (169 + 4 * p + q) := fun p hp => t6 _ (by omega) (by omega)
  have eT : op_T r6 q 0 = T := by
    rw [hT]
    have e : ∀ p, p < 4 → op_l r6 q 0 p = op_l r q 0 p := fun p hp => by
      have a : op_l r6 q 0 p = r6 (169 + 4 * p + q) := if_neg (by omega)
      have b : op_l r q 0 p = r (169 + 4 * p + q) := if_neg (by omega)
      rw [a, b, l6 p hp]
    unfold op_T
    rw [e 0 (by omega), e 1 (by omega), e 2 (by omega), e 3 (by omega)]
  refine hcall (42, 0, 0) _ _ _ _ _ r2 M 208 1 504 _ _ lo_k.2.1 k1 k2 (lo_M (n := n + 1 + 1) (q := q) (by omega) hq) (by
    rw [← hr6]
    refine ⟨by rw [v6, if_pos rfl], fun p hp hle => ?_⟩
    rw [l6 p hp]
    exact pz p hp (by rw [← t6 71 (by omega) (by omega)]; exact hle)) (fun r7 M7 o hq7 => ?_)
  rw [← hr6] at hq7
  obtain ⟨rc, rs⟩ := wa_rm (n := n + 1 + 1 + 1) lo_k.2.2
  rw [rc, rs]
  obtain ⟨rfl, y2, rfl⟩ := hq7
  rw [eT]
  obtain ⟨r8, hr8⟩ : ∃ r8, r8 = pt_mrg 424 r2 r7 504 (some T) := ⟨_, rfl⟩
  show P (45, 0, 0) (rq_u v q) [wa_i 504] (pt_mrg 424 r2 r7 504 (some T)) _
  rw [← hr8]
  have lo8 : ∀ t, t < 424 → r8 t = r2 t := fun t a => by
    rw [hr8, wa_mlt a, y2 t a, v6, if_neg (by omega)]
  have s8 : r8 504 = T := by
    rw [hr8]
    exact wa_mz (by omega)
  have e81 : r8 425 = (u : Int) := by
    rw [hr8]
    show (if 425 < 424 then r7 425 else if 425 = 504 then T else r2 425) = _
    rw [if_neg (by omega), if_neg (by omega), v2, if_neg (by omega), p1]
  refine hseg _ _ _ _ _ r8 _ _ _ _ _ _ c2 ⟨pt_m0, pt_m0, pt_m0⟩ ⟨fun _ => ?_, trivial⟩
  obtain ⟨r9, hr9⟩ : ∃ r9, r9 = pt_up r8 [(426, gz_p 504), (427, gz_k 1)] := ⟨_, rfl⟩
  show P (50, 0, 0) (rq_h v q) [] (pt_up r8 [(426, gz_p 504), (427, gz_k 1)]) _
  rw [← hr9]
  have v9 : ∀ t, r9 t = if t = 426 then r8 504 else if t = 427 then 1 else r8 t := fun t => by
    rw [hr9]
    rfl
  refine key (u - 1) 0 r9 _ (by omega) rfl ⟨by rw [v9, if_neg (by omega), if_neg (by omega), e81], by rw [v9, if_pos rfl, s8], by rw [v9, if_neg (by omega), if_pos rfl]; rfl⟩ ⟨?_, fun t a b _ => ?_⟩ (fun _ _ => rfl)
  · rw [v9, if_neg (by omega), if_neg (by omega), lo8 _ (by omega), v2, if_pos rfl]
  · rw [v9, if_neg (by omega), if_neg (by omega), lo8 t a, v2, if_neg b]
