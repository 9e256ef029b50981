/-! WAY: spread (the class) -/
noncomputable def qa_zL (u : ai_V) : List ai_V := [wa_r 198, wa_i 403, wa_i 404, u]
noncomputable def qa_pE : List pt_E := [((11, 0, 0), (qa_zL wa_u, [wa_i 404, wa_i 403, wa_r 198]), [], [(0, wq_p 404, wq_k 12)]), ((83, 0, 0), (qa_zL wa_u, []), [], [(0, wq_k 13, wq_p 404)])]
noncomputable def qa_xe : pt_X := [(0, 403, 0), (1, 0, 4), (2, 8, 0), (0, 404, 0), (2, 6, 0)]
theorem qa_p_c0 : pt_row qaY 120 [2] true (0, 0, 0) [wa_r 198, wa_i 403, wa_u, wa_u] [] [] [] [] [] [((2, 0, 0), (qa_zL wa_u, []), [(404, wq_k 0)], [])] = true := by decide +kernel
theorem qa_p_c1 : pt_row qaY 120 [11, 83] true (2, 0, 0) (qa_zL wa_u) [] [] [] [] [] qa_pE = true := by decide +kernel
theorem qa_p_c2 : pt_row qaY 120 [31] false (14, 0, 0) (qa_zL wa_u) [wa_i 482] [] [(482, (0, 4095))] [] [] [((31, 0, 0), (qa_zL (wa_i 405), [wa_i 405, wa_r 201]), [(405, wq_p 482)], [])] = true := by decide +kernel
theorem qa_p_c3 : pt_row qaY 120 [56, 77] false (32, 0, 0) (qa_zL (wa_i 405)) [wa_i 482] [] [(482, (-1, -1)), (71, (0, 4095)), (403, (0, 4095)), (404, (0, 12))] [] [] [((56, 0, 0), (qa_zL (wa_i 405), [wa_i 483, wa_i 405, wa_r 201]), [(483, qa_xe)], [])] = true := by decide +kernel
theorem qa_p_c4 : pt_row qaY 120 [56, 77] false (32, 0, 0) (qa_zL (wa_i 405)) [wa_i 482] [] [(482, (0, 2147483647))] [] [] [((77, 0, 0), (qa_zL (wa_i 405), []), [], [])] = true := by decide +kernel
theorem qa_p_c5 : pt_row qaY 120 [66] false (57, 0, 0) (qa_zL (wa_i 405)) [] [] [] [] [] [((66, 0, 0), (qa_zL (wa_i 405), [wa_i 405, wa_i 71, wa_r 200]), [], [])] = true := by decide +kernel
theorem qa_p_c6 : pt_row qaY 120 [77] false (67, 0, 0) (qa_zL (wa_i 405)) [] [] [(71, (0, 4095))] [] [] [((77, 0, 0), (qa_zL (wa_i 405), []), [(71, [(0, 71, 0), (3, 0, 1)])], [])] = true := by decide +kernel
theorem qa_p_c7 : pt_row qaY 120 [2] false (77, 0, 0) (qa_zL (wa_i 405)) [] [] [(404, (0, 12))] [] [] [((2, 0, 0), (qa_zL wa_u, []), [(404, [(0, 404, 0), (3, 0, 1)])], [])] = true := by decide +kernel
theorem qa_p_k : (cy_vk 120 11 122 qaY.2.1 [wa_i 404, wa_i 403, wa_r 198] [wa_r 198, wa_i 403, wa_i 404] [] && pt_cck qaY 120 122 (11, 0, 0) 1 482 (qa_zL wa_u) [] [wa_r 198, wa_i 403, wa_i 404] [wa_r 198, wa_i 403, wa_i 404]) = true := by decide +kernel
theorem qa_p_l : pt_lck qaY 120 31 1 201 4096 0 482 (qa_zL (wa_i 405)) [] = true ∧ pt_sck qaY 120 56 2 201 4096 0 = true ∧ pt_sck qaY 120 66 2 200 4096 0 = true ∧ pt_is 7 120 83 = true ∧ (ct_mt 120).2.2.1 = 4 := by decide +kernel
theorem wq_self2 {r : Nat → Int} (h0 : r 0 = 0) : pt_up r (pt_wc [wa_r 198, wa_i 403, wa_i 404] [wa_r 198, wa_i 403, wa_i 404]) = r := wa_up_self h0 (fun q hq => by
  have hq : q ∈ [(403, pt_xr (403, 0)), (404, pt_xr (404, 0))] := hq
  simp only [List.mem_cons, List.not_mem_nil, or_false] at hq
  rcases hq with rfl | rfl <;> rfl)
theorem wq_V_c {r r2 : Nat → Int} (h : r2 73 = r 73) {s : Nat} (v : wq_V r s) : wq_V r2 s := fun j h1 h2 => v j h1 (by rw [← h]; exact h2)
/-- how far a spread has come -/
noncomputable def qa_zI (r0 : Nat → Int) (M0 : Nat → Nat → Int) (n0 : Nat) (q0 : Nat → Nat) (q i a n : Nat) (qq κ d : Nat → Nat) (r : Nat → Int) (M : Nat → Nat → Int) : Prop :=
  (r 71 = (n : Int) ∧ (∀ j, j < n → M 200 j = (qq j : Int)) ∧ wm_B (wq_T r0 q) (wq_V r0) (13 * i + a) n qq κ d (M 201)) ∧ (n0 ≤ n ∧ ∀ j, j < n0 → qq j = q0 j) ∧ (∀ t, t < 402 → t ≠ 71 → r t = r0 t) ∧ ∀ z, z ≠ 200 → z ≠ 201 → M z = M0 z
theorem wq_bp {T : Nat → Nat → Option Nat} {V : Nat → Prop} {c n : Nat} {q κ d : Nat → Nat} {b : Nat → Int} (h : wm_B T V c n q κ d b) {j : Nat} (hj : j < n) : 0 ≤ b (q j) := by
  obtain ⟨h1, h2, h3, h4, -⟩ := h
  by_cases e : j = 0
  · rw [e, h1.1.2, h1.2.1]
    exact Int.le_refl _
  · rw [(h4 j (by omega) hj).2.2.2.1]
    omega
theorem wq_bq {T : Nat → Nat → Option Nat} {V : Nat → Prop} {c n : Nat} {q κ d : Nat → Nat} {b : Nat → Int} (h : wm_B T V c n q κ d b) {s : Nat} (hs : s < 4096) (hb : b s ≠ -1) : 0 ≤ b s := by
  obtain ⟨j, j1, j2⟩ := h.2.2.1 s hs hb
  rw [← j2]
  exact wq_bp h j1
section QAS
variable {m : Nat} {Z : (Nat → Int) → (Nat → Nat → Int) → Option Int → Prop} {P : pt_P} {r0 : Nat → Int} {M0 : Nat → Nat → Int} {n0 q i : Nat} {q0 : Nat → Nat}
theorem qa_zloop (h : pt_Cl (m + 1 + 1 + 1) 120 qaY 0 Z P) (hm : 4 ≤ m) (hq : q < 4) (o : wq_ok r0) (pl : wq_pl r0) (hqu : r0 70 = (q : Int)) (h00 : r0 0 = 0) (hi : i < n0) (hA : (q0 i : Int) < 4096) (hz : ∀ r2 M2 n qq κ d, qa_zI r0 M0 n0 q0 q i 13 n qq κ d r2 M2 → Z r2 M2 none) :
    ∀ (k a n : Nat) (qq κ d : Nat → Nat) (r : Nat → Int) (M : Nat → Nat → Int), a + k = 13 → r 403 = (q0 i : Int) → r 404 = (a : Int) → qa_zI r0 M0 n0 q0 q i a n qq κ d r M → P (2, 0, 0) (qa_zL wa_u) [] r M := by
  have h' := h
  obtain ⟨hseg, henv, -, -, hld, -, hst, -, -, -, -, -, -, hvret⟩ := h'
  have hT := wq_wm (q := q) o pl
  intro k
  induction k with
  | zero =>
    intro a n qq κ d r M ha e1 e2 I
    have ha : a = 13 := by omega
    subst ha
    refine hseg _ _ _ _ _ r M _ _ _ _ _ qa_p_c1 ⟨pt_m0, pt_m0, pt_m0⟩ ⟨fun g => ?_, fun _ => ?_, trivial⟩
    · have g1 : r 404 ≤ 12 := g.1
      omega
    · exact hvret (83, 0, 0) _ r M rfl qa_p_l.2.2.2.1 (Nat.ble_eq_true_of_le (Nat.zero_le _)) (Nat.ble_eq_true_of_le (Nat.zero_le _)) (hz _ _ _ _ _ _ I)
  | succ k ih =>
    intro a n qq κ d r M ha e1 e2 I
    obtain ⟨⟨I1, I2, I3⟩, ⟨I4, I5⟩, I6, I7⟩ := I
    have hin : i < n := by omega
    have qi : qq i = q0 i := I5 i hi
    have ha13 : a < 13 := by omega
    have cd : (13 * i + a) / 13 = i := by omega
    have cm : (13 * i + a) % 13 = a := by omega
    obtain ⟨s, hs⟩ : ∃ s, s = q0 i := ⟨_, rfl⟩
    rw [← hs] at e1 qi hA
    have h4 : s < 4096 := by omega
    have vs : wq_V r0 s := by
      have := (I3.2.1 i hin).2
      rw [qi] at this
      exact this
    have low : ∀ t, (t = 73 ∨ t = 74 ∨ t = 75 ∨ (115 ≤ t ∧ t < 125) ∨ (135 ≤ t ∧ t < 139) ∨ (139 ≤ t ∧ t < 143) ∨ (147 ≤ t ∧ t < 151) ∨ (171 ≤ t ∧ t < 203) ∨ (371 ≤ t ∧ t < 379)) → r t = r0 t := fun t ht => I6 t (by omega) (by omega)
    have h0 : r 0 = 0 := (I6 0 (by omega) (by omega)).trans h00
    have ok : wq_ok r := wq_ok_c low o
    have rq : r 70 = (q : Int) := (I6 _ (by omega) (by omega)).trans hqu
    have nb := wm_le I3
    obtain ⟨to, hto⟩ : ∃ to, to = (wq_T r0 q s a).getD s := ⟨_, rfl⟩
    have to4 : to < 4096 := by
      rw [hto]
      cases e : wq_T r0 q s a with
      | none => exact h4
      | some t => exact (hT.2 s a t h4 ha13 e).2.1
    have vU : qa_bV r = (to : Int) := by
      unfold qa_bV
      rw [rq, e1, e2]
      show (wq_U r q s a : Int) = _
      rw [wq_UT ok hq (wq_V_c (low 73 (by omega)) vs) h4 ha13, wq_T_c low hq ha13 o, hto]
    refine hseg _ _ _ _ _ r M _ _ _ _ _ qa_p_c1 ⟨pt_m0, pt_m0, pt_m0⟩ ⟨fun _ => ?_, fun g => ?_, trivial⟩
    rotate_left
    · have g1 : 13 ≤ r 404 := g.1
      omega
    show P (11, 0, 0) (qa_zL wa_u) [wa_i 404, wa_i 403, wa_r 198] r M
    refine wq_cv (S' := []) h (wq_b0 122 (by decide)).1 (by show 402 ≤ 482; omega) (wq_b0 122 (by decide)).2 qa_p_k (qa_bM hm) ?_ ?_ ?_
    · rw [wq_self2 h0]
      exact ⟨⟨by omega, by omega⟩, ⟨by omega, by omega⟩, ⟨by omega, by omega⟩, ok⟩
    · rw [wq_self2 h0]
      exact fun t _ => rfl
    rw [wq_self2 h0, vU]
    obtain ⟨r1, hr1⟩ : ∃ r1, r1 = pt_set r 482 (to : Int) := ⟨_, rfl⟩
    rw [← hr1]
    have n1 : ∀ t, t ≠ 482 → r1 t = r t := fun t ht => by
      rw [hr1]
      exact if_neg ht
    have s1 : r1 482 = (to : Int) := by
      rw [hr1]
      exact wq_sset
    show P (14, 0, 0) (qa_zL wa_u) [wa_i 482] r1 M
    refine hseg _ _ _ _ _ r1 M _ _ _ _ _ qa_p_c2 ⟨pt_m0, pt_m1 ⟨by show (0 : Int) ≤ r1 482; omega, by show r1 482 ≤ (4095 : Int); omega⟩, pt_m0⟩ ⟨fun _ => ?_, trivial⟩
    obtain ⟨r2, hr2⟩ : ∃ r2, r2 = pt_up r1 [(405, wq_p 482)] := ⟨_, rfl⟩
    show P (31, 0, 0) (qa_zL (wa_i 405)) [wa_i 405, wa_r 201] (pt_up r1 [(405, wq_p 482)]) M
    rw [← hr2]
    have a3 : r2 405 = (to : Int) := by
      rw [hr2]
      exact s1
    have n2 : ∀ t, t ≠ 405 → r2 t = r1 t := fun t ht => by
      rw [hr2]
      exact if_neg ht
    refine hld (31, 0, 0) _ [] r2 M 201 4096 482 to (405, 0) qa_p_l.1 to4 (by show r2 405 + 0 = _; omega) ?_
    obtain ⟨r3, hr3⟩ : ∃ r3, r3 = pt_set r2 482 (M 201 to) := ⟨_, rfl⟩
    rw [← hr3]
    have n3 : ∀ t, t ≠ 482 → r3 t = r2 t := fun t ht => by
      rw [hr3]
      exact if_neg ht
    have s3 : r3 482 = M 201 to := by
      rw [hr3]
      exact wq_sset
    have k3 : ∀ t, t ≠ 482 → t ≠ 405 → r3 t = r t := fun t h1 h2 => (n3 t h1).trans ((n2 t h2).trans (n1 t h1))
    have a33 : r3 405 = (to : Int) := (n3 _ (by omega)).trans a3
    show P (32, 0, 0) (qa_zL (wa_i 405)) [wa_i 482] r3 M
    -- on to the next act
    have next : ∀ (r4 : Nat → Int) (M4 : Nat → Nat → Int) (n4 : Nat) (qq4 κ4 d4 : Nat → Nat), r4 403 = (s : Int) → r4 404 = (a : Int) → qa_zI r0 M0 n0 q0 q i (a + 1) n4 qq4 κ4 d4 r4 M4 → P (77, 0, 0) (qa_zL (wa_i 405)) [] r4 M4 := fun r4 M4 n4 qq4 κ4 d4 f1 f2 I' => by
      refine hseg _ _ _ _ _ r4 M4 _ _ _ _ _ qa_p_c7 ⟨pt_m0, pt_m1 ⟨by show (0 : Int) ≤ r4 404; omega, by show r4 404 ≤ (12 : Int); omega⟩, pt_m0⟩ ⟨fun _ => ?_, trivial⟩
      obtain ⟨r5, hr5⟩ : ∃ r5, r5 = pt_up r4 [(404, [(0, 404, 0), (3, 0, 1)])] := ⟨_, rfl⟩
      show P (2, 0, 0) (qa_zL wa_u) [] (pt_up r4 [(404, [(0, 404, 0), (3, 0, 1)])]) M4
      rw [← hr5]
      have n5 : ∀ t, t ≠ 404 → r5 t = r4 t := fun t ht => by
        rw [hr5]
        exact if_neg ht
      have v5 : r5 404 = ((a + 1 : Nat) : Int) := by
        rw [hr5]
        show r4 404 + 1 = _
        omega
      obtain ⟨⟨J1, J2, J3⟩, J4, J6, J7⟩ := I'
      exact ih (a + 1) n4 qq4 κ4 d4 r5 M4 (by omega) ((n5 _ (by omega)).trans (by rw [f1, hs])) v5 ⟨⟨(n5 _ (by omega)).trans J1, J2, J3⟩, J4, fun t h1 h2 => (n5 t (by omega)).trans (J6 t h1 h2), J7⟩
    by_cases hb : M 201 to = -1
    · -- a new state
      have hsome : wq_T r0 q s a = some to := by
        cases e : wq_T r0 q s a with
        | none =>
          rw [e] at hto
          have hto : to = s := hto
          have := wq_bp I3 hin
          rw [qi, ← hto, hb] at this
          exact absurd this (by decide)
        | some t =>
          rw [e] at hto
          have hto : to = t := hto
          rw [hto]
      obtain ⟨w1, w2, w3⟩ := wm_new hT I3 (by rw [cd]; exact hin) (t := to) (by rw [cd, cm, qi]; exact hsome) hb
      rw [cd, cm, qi] at w3
      have fo3 : r3 71 = (n : Int) := (k3 _ (by omega) (by omega)).trans I1
      have f1 : r3 403 = (s : Int) := (k3 _ (by omega) (by omega)).trans e1
      have f2 : r3 404 = (a : Int) := (k3 _ (by omega) (by omega)).trans e2
      refine hseg _ _ _ _ _ r3 M _ _ _ _ _ qa_p_c3 ⟨pt_m0, pt_m4 ⟨by show (-1 : Int) ≤ r3 482; omega, by show r3 482 ≤ (-1 : Int); omega⟩ ⟨by show (0 : Int) ≤ r3 71; omega, by show r3 71 ≤ (4095 : Int); omega⟩ ⟨by show (0 : Int) ≤ r3 403; omega, by show r3 403 ≤ (4095 : Int); omega⟩ ⟨by show (0 : Int) ≤ r3 404; omega, by show r3 404 ≤ (12 : Int); omega⟩, pt_m0⟩ ⟨fun _ => ?_, trivial⟩
      obtain ⟨r4, hr4⟩ : ∃ r4, r4 = pt_up r3 [(483, qa_xe)] := ⟨_, rfl⟩
      show P (56, 0, 0) (qa_zL (wa_i 405)) [wa_i 483, wa_i 405, wa_r 201] (pt_up r3 [(483, qa_xe)]) M
      rw [← hr4]
      have n4 : ∀ t, t ≠ 483 → r4 t = r3 t := fun t ht => by
        rw [hr4]
        exact if_neg ht
      have v4 : r4 483 = ((16 * s + a : Nat) : Int) := by
        rw [hr4]
        show ai_op 6 (ai_op 8 (r3 403) ((4 : Nat) : Int)) (r3 404) = _
        rw [f1, f2, wq_o8 h4 (by omega), wq_o6 (by omega) (by omega)]
        have : s * 2 ^ 4 ||| a = 16 * s + a := by
          rw [show s * 2 ^ 4 = s <<< 4 from (Nat.shiftLeft_eq s 4).symm, ← Nat.shiftLeft_add_eq_or_of_lt (show a < 2 ^ 4 by omega), Nat.shiftLeft_eq]
          omega
        rw [this]
      refine hst (56, 0, 0) _ [] r4 M 201 4096 to (405, 0) (483, 0) qa_p_l.2.1 to4 (by show r4 405 + 0 = _; rw [n4 _ (by omega)]; omega) ?_
      have v4' : ai_vx r4 (483, 0) = ((16 * s + a : Nat) : Int) := by
        show r4 483 + 0 = _
        omega
      rw [v4']
      obtain ⟨M4, hM4⟩ : ∃ M4, M4 = pt_sto M 201 to ((16 * s + a : Nat) : Int) := ⟨_, rfl⟩
      rw [← hM4]
      refine hseg _ _ _ _ _ r4 M4 _ _ _ _ _ qa_p_c5 ⟨pt_m0, pt_m0, pt_m0⟩ ⟨fun _ => ?_, trivial⟩
      show P (66, 0, 0) (qa_zL (wa_i 405)) [wa_i 405, wa_i 71, wa_r 200] r4 M4
      refine hst (66, 0, 0) _ [] r4 M4 200 4096 n (71, 0) (405, 0) qa_p_l.2.2.1 w1 (by show r4 71 + 0 = _; rw [n4 _ (by omega)]; omega) ?_
      have v5 : ai_vx r4 (405, 0) = (to : Int) := by
        show r4 405 + 0 = _
        rw [n4 _ (by omega)]
        omega
      rw [v5]
      obtain ⟨M5, hM5⟩ : ∃ M5, M5 = pt_sto M4 200 n (to : Int) := ⟨_, rfl⟩
      rw [← hM5]
      refine hseg _ _ _ _ _ r4 M5 _ _ _ _ _ qa_p_c6 ⟨pt_m0, pt_m1 ⟨by show (0 : Int) ≤ r4 71; rw [n4 _ (by omega)]; omega, by show r4 71 ≤ (4095 : Int); rw [n4 _ (by omega)]; omega⟩, pt_m0⟩ ⟨fun _ => ?_, trivial⟩
      obtain ⟨r5, hr5⟩ : ∃ r5, r5 = pt_up r4 [(71, [(0, 71, 0), (3, 0, 1)])] := ⟨_, rfl⟩
      show P (77, 0, 0) (qa_zL (wa_i 405)) [] (pt_up r4 [(71, [(0, 71, 0), (3, 0, 1)])]) M5
      rw [← hr5]
      have n5 : ∀ t, t ≠ 71 → r5 t = r4 t := fun t ht => by
        rw [hr5]
        exact if_neg ht
      have fo5 : r5 71 = ((n + 1 : Nat) : Int) := by
        rw [hr5]
        show r4 71 + 1 = _
        rw [n4 _ (by omega)]
        omega
      have m201 : M5 201 = wm_u (M 201) to ((16 * s + a : Nat) : Int) := by
        funext x
        rw [hM5, hM4]
        show (if 201 = 200 ∧ x = n then _ else if 201 = 201 ∧ x = to then _ else M 201 x) = if x = to then _ else _
        rw [if_neg (fun w => absurd w.1 (by decide))]
        by_cases w : x = to
        · rw [if_pos ⟨rfl, w⟩, if_pos w]
        · rw [if_neg (fun z => w z.2), if_neg w]
      have m200 : ∀ j, M5 200 j = if j = n then (to : Int) else M 200 j := fun j => by
        rw [hM5, hM4]
        show (if 200 = 200 ∧ j = n then _ else if 200 = 201 ∧ j = to then _ else M 200 j) = _
        by_cases w : j = n
        · rw [if_pos ⟨rfl, w⟩, if_pos w]
        · rw [if_neg (fun z => w z.2), if_neg w, if_neg (fun z => absurd z.1 (by decide))]
      refine next r5 M5 (n + 1) (wm_u qq n to) (wm_u κ n (13 * i + a)) (wm_u d n (d i + 1)) (by rw [n5 _ (by omega), n4 _ (by omega), f1]) (by rw [n5 _ (by omega), n4 _ (by omega), f2]) ⟨⟨fo5, fun j hj => ?_, ?_⟩, ⟨by omega, fun j hj => ?_⟩, fun t h1 h2 => ?_, fun z h1 h2 => ?_⟩
      · rw [m200]
        by_cases w : j = n
        · rw [if_pos w, w, wm_u0]
        · rw [if_neg w, wm_u1 w]
          exact I2 j (by omega)
      · rw [m201]
        exact w3
      · rw [wm_u1 (by omega)]
        exact I5 j hj
      · rw [n5 t h2, n4 t (by omega), k3 t (by omega) (by omega)]
        exact I6 t h1 h2
      · rw [← I7 z h1 h2]
        funext x
        rw [hM5, hM4]
        show (if z = 200 ∧ x = n then _ else if z = 201 ∧ x = to then _ else M z x) = _
        rw [if_neg (fun w => h1 w.1), if_neg (fun w => h2 w.1)]
    · -- nothing new
      have pos := wq_bq I3 to4 hb
      have old := wm_old hT I3 (by rw [cd]; exact hin) (fun t ht => by
        rw [cd, cm, qi] at ht
        rw [ht] at hto
        have hto : to = t := hto
        rw [← hto]
        exact hb)
      have up : M 201 to ≤ 2147483647 := by
        obtain ⟨j, j1, j2⟩ := I3.2.2.1 to to4 hb
        rw [← j2]
        by_cases e : j = 0
        · rw [e, I3.1.1.2, I3.1.2.1]
          decide
        · have g := I3.2.2.2.1 j (by omega) j1
          have g2 := (I3.2.1 (κ j / 13) (by omega)).1
          rw [g.2.2.2.1]
          omega
      refine hseg _ _ _ _ _ r3 M _ _ _ _ _ qa_p_c4 ⟨pt_m0, pt_m1 ⟨by show (0 : Int) ≤ r3 482; omega, by show r3 482 ≤ (2147483647 : Int); omega⟩, pt_m0⟩ ⟨fun _ => ?_, trivial⟩
      exact next r3 M n qq κ d ((k3 _ (by omega) (by omega)).trans e1) ((k3 _ (by omega) (by omega)).trans e2) ⟨⟨(k3 _ (by omega) (by omega)).trans I1, I2, old⟩, ⟨I4, I5⟩, fun t h1 h2 => (k3 t (by omega) (by omega)).trans (I6 t h1 h2), I7⟩
end QAS
