/-! WAY: the reference's way: the row -/
section QBR
variable {m : Nat} {Z : (Nat → Int) → (Nat → Nat → Int) → Option Int → Prop} {P : pt_P} {r0 : Nat → Int} {M0 : Nat → Nat → Int} {q N : Nat} {F : Nat → Int} {σ α : Nat → Nat}
/-- i acts are told -/
noncomputable def qb_wK (r0 : Nat → Int) (M0 : Nat → Nat → Int) (q N : Nat) (F : Nat → Int) (σ α : Nat → Nat) (i : Nat) (r : Nat → Int) (M : Nat → Nat → Int) : Prop := ((∀ t, t < 401 → t ≠ 72 → t ≠ 112 → r t = r0 t) ∧ r 72 = 0 ∧ r 112 = (N : Int)) ∧ (r 402 = (q : Int) ∧ r 404 = (σ i : Int) ∧ r 405 = (i : Int)) ∧ (∀ t : Nat, t < 4096 → M 329 t = F t) ∧ (∀ z, z ≠ 329 → z ≠ 330 → M z = M0 z) ∧ M 330 = fun x => if x < i then (α x : Int) else M0 330 x
theorem qb_wK_c {i : Nat} {r r2 : Nat → Int} {M : Nat → Nat → Int} (e : ∀ t, t < 406 → r2 t = r t) (h : qb_wK r0 M0 q N F σ α i r M) : qb_wK r0 M0 q N F σ α i r2 M := by
  obtain ⟨⟨h1, h2, h3⟩, ⟨h4, h5, h6⟩, h7⟩ := h
  exact ⟨⟨fun t a b c => (e t (by omega)).trans (h1 t a b c), (e _ (by omega)).trans h2, (e _ (by omega)).trans h3⟩, ⟨(e _ (by omega)).trans h4, (e _ (by omega)).trans h5, (e _ (by omega)).trans h6⟩, h7⟩
/-- along the row distances go down by one -/
theorem wm_Gd {T : Nat → Nat → Option Nat} (h0 : σ 0 = 0) (hN : F 0 = (N : Int)) (h : wm_G T F N σ α) : ∀ i, i ≤ N → F (σ i) = (N : Int) - i
  | 0, _ => by rw [h0, hN]; omega
  | i + 1, hi => by
    have a := wm_Gd h0 hN h i (by omega)
    have b := (h i (by omega)).2.2.1
    omega
theorem qb_wfirst (h : pt_Cl (m + 1 + 1) 252 qbY 1 Z P) (hm : 4 ≤ m) (hq : q < 4) (o : wq_ok r0) (hT : wm_T (wq_T r0 q) (wq_V r0)) (hF : wm_F (wq_T r0 q) (wq_fin r0) F) (hB : ∀ t, t < 4096 → F t ≤ 12) (hN : F 0 = (N : Int)) (h12 : N ≤ 12) (h0 : σ 0 = 0) (hG : wm_G (wq_T r0 q) F N σ α) (h4 : ∀ k, k ≤ N → σ k < 4096) {i : Nat} (hi : i < N)
    (hnext : ∀ r M, qb_wK r0 M0 q N F σ α (i + 1) r M → P (198, 0, 0) (qb_wz wa_u wa_u) [] r M) :
    ∀ (d a : Nat) (r : Nat → Int) (M : Nat → Nat → Int), a + d = α i → qb_wK r0 M0 q N F σ α i r M → r 406 = (a : Int) → r 407 = wq_To (wq_T r0 q (σ i) a) → P (220, 0, 0) (qb_wz (wa_i 406) (wa_i 407)) [] r M := by
  have h' := h
  obtain ⟨hseg, henv, hrel, -, hld, -, hsto, -⟩ := h'
  obtain ⟨gα, gT, gF, gn⟩ := hG i hi
  have gs := h4 i (by omega)
  have gs1 := h4 (i + 1) (by omega)
  have fi := wm_Gd h0 hN hG i (by omega)
  -- place 263: the next act
  have k263 : ∀ (d a : Nat) (r : Nat → Int) (M : Nat → Nat → Int), (∀ (r : Nat → Int) (M : Nat → Nat → Int), qb_wK r0 M0 q N F σ α i r M → r 406 = ((a + 1 : Nat) : Int) → r 407 = wq_To (wq_T r0 q (σ i) (a + 1)) → P (220, 0, 0) (qb_wz (wa_i 406) (wa_i 407)) [] r M) → a + 1 < 13 → qb_wK r0 M0 q N F σ α i r M → r 406 = ((a + 1 : Nat) : Int) → P (263, 0, 0) (qb_wz (wa_i 406) wa_u) qb_wS r M := fun d a r M ih ha K e5 => by
    have low : ∀ t, (t = 73 ∨ t = 74 ∨ t = 75 ∨ (115 ≤ t ∧ t < 125) ∨ (135 ≤ t ∧ t < 139) ∨ (139 ≤ t ∧ t < 143) ∨ (147 ≤ t ∧ t < 151) ∨ (171 ≤ t ∧ t < 203) ∨ (371 ≤ t ∧ t < 379)) → r t = r0 t := fun t ht => K.1.1 t (by omega) (by omega) (by omega)
    refine qb_wcall h hm qb_w_k.2.2 (wq_ok_c low o) hq K.2.1.1 K.2.1.2.1 e5 gs ha ?_
    rw [wq_T_c low hq ha o]
    obtain ⟨r1, hr1⟩ : ∃ r1, r1 = pt_set r 481 (wq_To (wq_T r0 q (σ i) (a + 1))) := ⟨_, rfl⟩
    rw [← hr1]
    have n1 : ∀ x, x ≠ 481 → r1 x = r x := fun x hx => by
      rw [hr1]
      exact if_neg hx
    have s1 : r1 481 = wq_To (wq_T r0 q (σ i) (a + 1)) := by
      rw [hr1]
      exact wq_sset
    show P (266, 0, 0) (qb_wz (wa_i 406) wa_u) [wa_i 481] r1 M
    refine hseg _ _ _ _ _ r1 M _ _ _ _ _ qb_w_c6.2.2 ⟨pt_m0, pt_m0, pt_m0⟩ ⟨fun _ => ?_, trivial⟩
    obtain ⟨r2, hr2⟩ : ∃ r2, r2 = pt_up r1 [(407, wq_p 481)] := ⟨_, rfl⟩
    show P (220, 0, 0) (qb_wz (wa_i 406) (wa_i 407)) [] (pt_up r1 [(407, wq_p 481)]) M
    rw [← hr2]
    have n2 : ∀ x, x ≠ 407 → r2 x = r1 x := fun x hx => by
      rw [hr2]
      exact if_neg hx
    exact ih r2 M (qb_wK_c (fun t ht => (n2 t (by omega)).trans (n1 t (by omega))) K) (by rw [n2 _ (by omega), n1 _ (by omega), e5]) (by rw [hr2]; exact s1)
  intro d
  induction d with
  | zero =>
    intro a r M hd K e5 e6
    have ha : a = α i := by omega
    subst ha
    rw [gT] at e6
    have e6 : r 407 = (σ (i + 1) : Int) := e6
    refine hseg _ _ _ _ _ r M _ _ _ _ _ qb_w_c7.2.1 ⟨pt_m0, pt_m2 ⟨by show (0 : Int) ≤ r 407; omega, by show r 407 ≤ (4095 : Int); omega⟩ ⟨by show (0 : Int) ≤ r 406; omega, by show r 406 ≤ (12 : Int); omega⟩, pt_m0⟩ ⟨fun _ => ?_, trivial⟩
    show P (232, 0, 0) (qb_wz (wa_i 406) (wa_i 407)) [wa_i 407, wa_r 329] r M
    refine hld (232, 0, 0) _ [] r M 329 4096 481 (σ (i + 1)) (407, 0) qb_w_l.2.2.1.1 gs1 (by show r 407 + 0 = _; omega) ?_
    rw [K.2.2.1 _ gs1]
    obtain ⟨r1, hr1⟩ : ∃ r1, r1 = pt_set r 481 (F (σ (i + 1))) := ⟨_, rfl⟩
    rw [← hr1]
    have n1 : ∀ x, x ≠ 481 → r1 x = r x := fun x hx => by
      rw [hr1]
      exact if_neg hx
    have s1 : r1 481 = F (σ (i + 1)) := by
      rw [hr1]
      exact wq_sset
    refine hseg _ _ _ _ _ r1 M _ _ _ _ _ qb_w_c7.2.2.2 ⟨pt_m0, pt_m2 ⟨by show (0 : Int) ≤ r1 481; omega, by show r1 481 ≤ (12 : Int); omega⟩ ⟨by show (0 : Int) ≤ r1 406; rw [n1 _ (by omega)]; omega, by show r1 406 ≤ (12 : Int); rw [n1 _ (by omega)]; omega⟩, pt_m0⟩ ⟨fun _ => ?_, trivial⟩
    show P (243, 0, 0) (qb_wz (wa_i 406) (wa_i 407)) [wa_i 407, wa_r 329] r1 M
    refine hld (243, 0, 0) _ [] r1 M 329 4096 481 (σ (i + 1)) (407, 0) qb_w_l.2.2.1.2.1 gs1 (by show r1 407 + 0 = _; rw [n1 _ (by omega)]; omega) ?_
    rw [K.2.2.1 _ gs1]
    obtain ⟨r2, hr2⟩ : ∃ r2, r2 = pt_set r1 481 (F (σ (i + 1))) := ⟨_, rfl⟩
    rw [← hr2]
    have n2 : ∀ x, x ≠ 481 → r2 x = r1 x := fun x hx => by
      rw [hr2]
      exact if_neg hx
    have s2 : r2 481 = F (σ (i + 1)) := by
      rw [hr2]
      exact wq_sset
    refine hseg _ _ _ _ _ r2 M _ _ _ _ _ qb_w_c8.1 ⟨pt_m0, pt_m1 ⟨by show (0 : Int) ≤ r2 481; omega, by show r2 481 ≤ (12 : Int); omega⟩, pt_m0⟩ ⟨fun _ => ?_, trivial⟩
    obtain ⟨r3, hr3⟩ : ∃ r3, r3 = pt_up r2 [(482, qb_xd 481 1)] := ⟨_, rfl⟩
    show P (251, 0, 0) (qb_wz (wa_i 406) (wa_i 407)) [wa_i 404, wa_r 329, wa_i 482] (pt_up r2 [(482, qb_xd 481 1)]) M
    rw [← hr3]
    have n3 : ∀ x, x ≠ 482 → r3 x = r2 x := fun x hx => by
      rw [hr3]
      exact if_neg hx
    have s3 : r3 482 = F (σ (i + 1)) + 1 := by
      rw [hr3]
      show r2 481 + 1 = _
      rw [s2]
    refine hld (251, 0, 0) _ [wa_i 482] r3 M 329 4096 481 (σ i) (404, 0) qb_w_l.2.2.1.2.2 gs (by show r3 404 + 0 = _; rw [n3 _ (by omega), n2 _ (by omega), n1 _ (by omega), K.2.1.2.1]; omega) ?_
    rw [K.2.2.1 _ gs]
    obtain ⟨r4, hr4⟩ : ∃ r4, r4 = pt_set r3 481 (F (σ i)) := ⟨_, rfl⟩
    rw [← hr4]
    have n4 : ∀ x, x ≠ 481 → r4 x = r3 x := fun x hx => by
      rw [hr4]
      exact if_neg hx
    have s4 : r4 481 = F (σ i) := by
      rw [hr4]
      exact wq_sset
    have s41 : r4 482 = F (σ (i + 1)) + 1 := (n4 _ (by omega)).trans s3
    have f4 : ∀ x, x ≠ 481 → x ≠ 482 → r4 x = r x := fun x h1 h2 => by rw [n4 x h1, n3 x h2, n2 x h1, n1 x h1]
    have e54 : r4 406 = (α i : Int) := (f4 _ (by omega) (by omega)).trans e5
    have K4 : qb_wK r0 M0 q N F σ α i r4 M := qb_wK_c (fun t ht => f4 t (by omega) (by omega)) K
    show P (252, 0, 0) (qb_wz (wa_i 406) (wa_i 407)) [wa_i 481, wa_i 482] r4 M
    refine hseg _ _ _ _ _ r4 M _ _ _ _ _ qb_w_c8.2.1 ⟨pt_m0, pt_m1 ⟨by show (0 : Int) ≤ r4 406; omega, by show r4 406 ≤ (12 : Int); omega⟩, pt_m0⟩ ⟨fun _ => ?_, fun g => ?_, trivial⟩
    · show P (279, 0, 0) (qb_wz (wa_i 406) (wa_i 407)) [wa_i 406, wa_i 405, wa_r 330] r4 M
      refine hsto (279, 0, 0) _ [] r4 M 330 13 i (405, 0) (406, 0) qb_w_l.2.2.2.1.2.2 (by omega) (by show r4 405 + 0 = _; rw [K4.2.1.2.2]; omega) ?_
      have ev : ai_vx r4 (406, 0) = (α i : Int) := by
        show r4 406 + 0 = _
        omega
      rw [ev]
      obtain ⟨M2, hM2⟩ : ∃ M2, M2 = pt_sto M 330 i (α i : Int) := ⟨_, rfl⟩
      rw [← hM2]
      show P (280, 0, 0) (qb_wz (wa_i 406) (wa_i 407)) [] r4 M2
      refine hseg _ _ _ _ _ r4 M2 _ _ _ _ _ qb_w_c8.2.2 ⟨pt_m0, pt_m1 ⟨by show (0 : Int) ≤ r4 405; rw [K4.2.1.2.2]; omega, by show r4 405 ≤ (12 : Int); rw [K4.2.1.2.2]; omega⟩, pt_m0⟩ ⟨fun _ => ?_, trivial⟩
      obtain ⟨r5, hr5⟩ : ∃ r5, r5 = pt_up r4 [(404, wq_p 407), (405, qb_xd 405 1)] := ⟨_, rfl⟩
      show P (198, 0, 0) (qb_wz wa_u wa_u) [] (pt_up r4 [(404, wq_p 407), (405, qb_xd 405 1)]) M2
      rw [← hr5]
      have n5 : ∀ x, x ≠ 404 → x ≠ 405 → r5 x = r4 x := fun x h1 h2 => by
        rw [hr5]
        exact (if_neg h1).trans (if_neg h2)
      obtain ⟨⟨k1, k2, k3⟩, ⟨k4, k5, k6⟩, k7, k8, k9⟩ := K4
      have s6 : r4 407 = (σ (i + 1) : Int) := (f4 _ (by omega) (by omega)).trans e6
      refine hnext r5 M2 ⟨⟨fun t a b c => (n5 t (by omega) (by omega)).trans (k1 t a b c), (n5 _ (by omega) (by omega)).trans k2, (n5 _ (by omega) (by omega)).trans k3⟩, ⟨(n5 _ (by omega) (by omega)).trans k4, by rw [hr5]; exact s6, ?_⟩, fun t ht => ?_, fun z h1 h2 => ?_, ?_⟩
      · rw [hr5]
        show r4 405 + 1 = _
        omega
      · rw [hM2]
        exact (if_neg (fun w => absurd w.1 (by decide))).trans (k7 t ht)
      · rw [← k8 z h1 h2, hM2]
        funext x
        exact if_neg (fun w => h2 w.1)
      · funext x
        rw [hM2]
        show (if 330 = 330 ∧ x = i then _ else M 330 x) = _
        rw [k9]
        by_cases w : x = i
        · rw [if_pos ⟨rfl, w⟩, if_pos (by omega), w]
        · rw [if_neg (fun z => w z.2)]
          show (if x < i then _ else _) = _
          by_cases w2 : x < i
          · rw [if_pos w2, if_pos (by omega)]
          · rw [if_neg w2, if_neg (by omega)]
    · have g1 : r4 482 ≠ r4 481 := g.1
      exact absurd (by rw [s41, s4]; exact gF) g1
  | succ d ih =>
    intro a r M hd K e5 e6
    have ih' : ∀ (r : Nat → Int) (M : Nat → Nat → Int), qb_wK r0 M0 q N F σ α i r M → r 406 = ((a + 1 : Nat) : Int) → r 407 = wq_To (wq_T r0 q (σ i) (a + 1)) → P (220, 0, 0) (qb_wz (wa_i 406) (wa_i 407)) [] r M := fun r M k1 k2 k3 => ih (a + 1) r M (by omega) k1 k2 k3
    have up : ∀ {r : Nat → Int}, qb_wK r0 M0 q N F σ α i r M → r 406 = (a : Int) → P (263, 0, 0) (qb_wz (wa_i 406) wa_u) qb_wS (pt_up r [(406, qb_xd 406 1)]) M := fun {r} K e5 => by
      obtain ⟨r2, hr2⟩ : ∃ r2, r2 = pt_up r [(406, qb_xd 406 1)] := ⟨_, rfl⟩
      rw [← hr2]
      have n2 : ∀ x, x ≠ 406 → r2 x = r x := fun x hx => by
        rw [hr2]
        exact if_neg hx
      exact k263 d a r2 M ih' (by omega) (qb_wK_c (fun t ht => n2 t (by omega)) K) (by rw [hr2]; show r 406 + 1 = _; omega)
    cases eT : wq_T r0 q (σ i) a with
    | none =>
      rw [eT] at e6
      have e6 : r 407 = -1 := e6
      refine hseg _ _ _ _ _ r M _ _ _ _ _ qb_w_c7.1 ⟨pt_m0, pt_m2 ⟨by show (-1 : Int) ≤ r 407; omega, by show r 407 ≤ (-1 : Int); omega⟩ ⟨by show (0 : Int) ≤ r 406; omega, by show r 406 ≤ (12 : Int); omega⟩, pt_m0⟩ ⟨fun _ => ?_, trivial⟩
      exact up K e5
    | some t =>
      rw [eT] at e6
      have e6 : r 407 = (t : Int) := e6
      obtain ⟨st, t4, -⟩ := hT.2 _ a t gs (by omega) eT
      have fl := (hF t t4).1
      have fu := hB t t4
      have ne := gn a t (by omega) eT
      refine hseg _ _ _ _ _ r M _ _ _ _ _ qb_w_c7.2.1 ⟨pt_m0, pt_m2 ⟨by show (0 : Int) ≤ r 407; omega, by show r 407 ≤ (4095 : Int); omega⟩ ⟨by show (0 : Int) ≤ r 406; omega, by show r 406 ≤ (12 : Int); omega⟩, pt_m0⟩ ⟨fun _ => ?_, trivial⟩
      show P (232, 0, 0) (qb_wz (wa_i 406) (wa_i 407)) [wa_i 407, wa_r 329] r M
      refine hld (232, 0, 0) _ [] r M 329 4096 481 t (407, 0) qb_w_l.2.2.1.1 t4 (by show r 407 + 0 = _; omega) ?_
      rw [K.2.2.1 t t4]
      obtain ⟨r1, hr1⟩ : ∃ r1, r1 = pt_set r 481 (F t) := ⟨_, rfl⟩
      rw [← hr1]
      have n1 : ∀ x, x ≠ 481 → r1 x = r x := fun x hx => by
        rw [hr1]
        exact if_neg hx
      have s1 : r1 481 = F t := by
        rw [hr1]
        exact wq_sset
      have K1 : qb_wK r0 M0 q N F σ α i r1 M := qb_wK_c (fun t ht => n1 t (by omega)) K
      have e51 : r1 406 = (a : Int) := (n1 _ (by omega)).trans e5
      show P (233, 0, 0) (qb_wz (wa_i 406) (wa_i 407)) [wa_i 481] r1 M
      by_cases c : F t = -1
      · refine hseg _ _ _ _ _ r1 M _ _ _ _ _ qb_w_c7.2.2.1 ⟨pt_m0, pt_m2 ⟨by show (-1 : Int) ≤ r1 481; omega, by show r1 481 ≤ (-1 : Int); omega⟩ ⟨by show (0 : Int) ≤ r1 406; omega, by show r1 406 ≤ (12 : Int); omega⟩, pt_m0⟩ ⟨fun _ => ?_, trivial⟩
        exact up K1 e51
      refine hseg _ _ _ _ _ r1 M _ _ _ _ _ qb_w_c7.2.2.2 ⟨pt_m0, pt_m2 ⟨by show (0 : Int) ≤ r1 481; omega, by show r1 481 ≤ (12 : Int); omega⟩ ⟨by show (0 : Int) ≤ r1 406; omega, by show r1 406 ≤ (12 : Int); omega⟩, pt_m0⟩ ⟨fun _ => ?_, trivial⟩
      show P (243, 0, 0) (qb_wz (wa_i 406) (wa_i 407)) [wa_i 407, wa_r 329] r1 M
      refine hld (243, 0, 0) _ [] r1 M 329 4096 481 t (407, 0) qb_w_l.2.2.1.2.1 t4 (by show r1 407 + 0 = _; rw [n1 _ (by omega)]; omega) ?_
      rw [K.2.2.1 t t4]
      obtain ⟨r2, hr2⟩ : ∃ r2, r2 = pt_set r1 481 (F t) := ⟨_, rfl⟩
      rw [← hr2]
      have n2 : ∀ x, x ≠ 481 → r2 x = r1 x := fun x hx => by
        rw [hr2]
        exact if_neg hx
      have s2 : r2 481 = F t := by
        rw [hr2]
        exact wq_sset
      refine hseg _ _ _ _ _ r2 M _ _ _ _ _ qb_w_c8.1 ⟨pt_m0, pt_m1 ⟨by show (0 : Int) ≤ r2 481; omega, by show r2 481 ≤ (12 : Int); omega⟩, pt_m0⟩ ⟨fun _ => ?_, trivial⟩
      obtain ⟨r3, hr3⟩ : ∃ r3, r3 = pt_up r2 [(482, qb_xd 481 1)] := ⟨_, rfl⟩
      show P (251, 0, 0) (qb_wz (wa_i 406) (wa_i 407)) [wa_i 404, wa_r 329, wa_i 482] (pt_up r2 [(482, qb_xd 481 1)]) M
      rw [← hr3]
      have n3 : ∀ x, x ≠ 482 → r3 x = r2 x := fun x hx => by
        rw [hr3]
        exact if_neg hx
      have s3 : r3 482 = F t + 1 := by
        rw [hr3]
        show r2 481 + 1 = _
        rw [s2]
      refine hld (251, 0, 0) _ [wa_i 482] r3 M 329 4096 481 (σ i) (404, 0) qb_w_l.2.2.1.2.2 gs (by show r3 404 + 0 = _; rw [n3 _ (by omega), n2 _ (by omega), n1 _ (by omega), K.2.1.2.1]; omega) ?_
      rw [K.2.2.1 _ gs]
      obtain ⟨r4, hr4⟩ : ∃ r4, r4 = pt_set r3 481 (F (σ i)) := ⟨_, rfl⟩
      rw [← hr4]
      have n4 : ∀ x, x ≠ 481 → r4 x = r3 x := fun x hx => by
        rw [hr4]
        exact if_neg hx
      have s4 : r4 481 = F (σ i) := by
        rw [hr4]
        exact wq_sset
      have s41 : r4 482 = F t + 1 := (n4 _ (by omega)).trans s3
      have f4 : ∀ x, x ≠ 481 → x ≠ 482 → r4 x = r x := fun x h1 h2 => by rw [n4 x h1, n3 x h2, n2 x h1, n1 x h1]
      have e54 : r4 406 = (a : Int) := (f4 _ (by omega) (by omega)).trans e5
      have K4 : qb_wK r0 M0 q N F σ α i r4 M := qb_wK_c (fun t ht => f4 t (by omega) (by omega)) K
      show P (252, 0, 0) (qb_wz (wa_i 406) (wa_i 407)) [wa_i 481, wa_i 482] r4 M
      refine hseg _ _ _ _ _ r4 M _ _ _ _ _ qb_w_c8.2.1 ⟨pt_m0, pt_m1 ⟨by show (0 : Int) ≤ r4 406; omega, by show r4 406 ≤ (12 : Int); omega⟩, pt_m0⟩ ⟨fun g => ?_, fun _ => ?_, trivial⟩
      · have g1 : r4 481 ≤ r4 482 := g.1
        have g2 : r4 482 ≤ r4 481 := g.2.1
        omega
      · exact up K4 e54
theorem qb_wrow (h : pt_Cl (m + 1 + 1) 252 qbY 1 Z P) (hm : 4 ≤ m) (hq : q < 4) (o : wq_ok r0) (hT : wm_T (wq_T r0 q) (wq_V r0)) (hF : wm_F (wq_T r0 q) (wq_fin r0) F) (hB : ∀ t, t < 4096 → F t ≤ 12) (hN : F 0 = (N : Int)) (h12 : N ≤ 12) (h0 : σ 0 = 0) (hG : wm_G (wq_T r0 q) F N σ α) (h4 : ∀ k, k ≤ N → σ k < 4096)
    (hz : ∀ r2 M2, (∀ t, t < 401 → t ≠ 72 → t ≠ 112 → r2 t = r0 t) → r2 72 = 0 → r2 112 = (N : Int) → (∀ z, z ≠ 329 → z ≠ 330 → M2 z = M0 z) → (M2 330 = fun x => if x < N then (α x : Int) else M0 330 x) → (∀ t : Nat, t < 4096 → M2 329 t = F t) → Z r2 M2 (some (N : Int))) :
    ∀ (k i : Nat) (r : Nat → Int) (M : Nat → Nat → Int), i + k = N → qb_wK r0 M0 q N F σ α i r M → P (198, 0, 0) (qb_wz wa_u wa_u) [] r M := by
  have h' := h
  obtain ⟨hseg, henv, hrel, -, hld, -, hsto, -, -, -, hret, -⟩ := h'
  intro k
  induction k with
  | zero =>
    intro i r M hi K
    have hi : i = N := by omega
    subst hi
    have K' := K
    obtain ⟨⟨k1, k2, k3⟩, ⟨k4, k5, k6⟩, k7, k8, k9⟩ := K'
    refine hseg _ _ _ _ _ r M _ _ _ _ _ qb_w_c6.1 ⟨pt_m0, pt_m0, pt_m0⟩ ⟨fun _ => ?_, fun g => ?_, trivial⟩
    · obtain ⟨r2, hr2⟩ : ∃ r2, r2 = pt_up r [(481, wq_p 112)] := ⟨_, rfl⟩
      show P (293, 0, 0) (qb_wz wa_u wa_u) [wa_i 481] (pt_up r [(481, wq_p 112)]) M
      rw [← hr2]
      have n2 : ∀ x, x ≠ 481 → r2 x = r x := fun x hx => by
        rw [hr2]
        exact if_neg hx
      have s2 : r2 481 = (i : Int) := by
        rw [hr2]
        exact k3
      refine hret (293, 0, 0) _ (481, 0) r2 M rfl qb_w_l.2.2.2.2.2.1 (Nat.ble_eq_true_of_le (Nat.zero_le _)) (Nat.ble_eq_true_of_le (Nat.zero_le _)) ?_
      have ev : ai_vx r2 (481, 0) = (i : Int) := by
        show r2 481 + 0 = _
        omega
      rw [ev]
      exact hz r2 M (fun t a b c => (n2 t (by omega)).trans (k1 t a b c)) ((n2 _ (by omega)).trans k2) ((n2 _ (by omega)).trans k3) k8 k9 k7
    · have g1 : r 405 ≤ r 112 + -1 := g.1
      omega
  | succ k ih =>
    intro i r M hi K
    have K' := K
    obtain ⟨⟨k1, k2, k3⟩, ⟨k4, k5, k6⟩, k7, k8, k9⟩ := K'
    refine hseg _ _ _ _ _ r M _ _ _ _ _ qb_w_c6.1 ⟨pt_m0, pt_m0, pt_m0⟩ ⟨fun g => ?_, fun _ => ?_, trivial⟩
    · have g1 : r 112 ≤ r 405 := g.1
      omega
    · obtain ⟨r2, hr2⟩ : ∃ r2, r2 = pt_up r [(406, wq_k 0)] := ⟨_, rfl⟩
      show P (215, 0, 0) (qb_wz (wa_i 406) wa_u) qb_wS (pt_up r [(406, wq_k 0)]) M
      rw [← hr2]
      have n2 : ∀ x, x ≠ 406 → r2 x = r x := fun x hx => by
        rw [hr2]
        exact if_neg hx
      have s2 : r2 406 = ((0 : Nat) : Int) := by
        rw [hr2]
        rfl
      have K2 : qb_wK r0 M0 q N F σ α i r2 M := qb_wK_c (fun t ht => n2 t (by omega)) K
      have low : ∀ t, (t = 73 ∨ t = 74 ∨ t = 75 ∨ (115 ≤ t ∧ t < 125) ∨ (135 ≤ t ∧ t < 139) ∨ (139 ≤ t ∧ t < 143) ∨ (147 ≤ t ∧ t < 151) ∨ (171 ≤ t ∧ t < 203) ∨ (371 ≤ t ∧ t < 379)) → r2 t = r0 t := fun t ht => K2.1.1 t (by omega) (by omega) (by omega)
      refine qb_wcall h hm qb_w_k.2.1 (wq_ok_c low o) hq K2.2.1.1 K2.2.1.2.1 s2 (h4 i (by omega)) (by omega) ?_
      rw [wq_T_c low hq (by omega) o]
      obtain ⟨r3, hr3⟩ : ∃ r3, r3 = pt_set r2 481 (wq_To (wq_T r0 q (σ i) 0)) := ⟨_, rfl⟩
      rw [← hr3]
      have n3 : ∀ x, x ≠ 481 → r3 x = r2 x := fun x hx => by
        rw [hr3]
        exact if_neg hx
      have s3 : r3 481 = wq_To (wq_T r0 q (σ i) 0) := by
        rw [hr3]
        exact wq_sset
      show P (218, 0, 0) (qb_wz (wa_i 406) wa_u) [wa_i 481] r3 M
      refine hseg _ _ _ _ _ r3 M _ _ _ _ _ qb_w_c6.2.1 ⟨pt_m0, pt_m0, pt_m0⟩ ⟨fun _ => ?_, trivial⟩
      obtain ⟨r4, hr4⟩ : ∃ r4, r4 = pt_up r3 [(407, wq_p 481)] := ⟨_, rfl⟩
      show P (220, 0, 0) (qb_wz (wa_i 406) (wa_i 407)) [] (pt_up r3 [(407, wq_p 481)]) M
      rw [← hr4]
      have n4 : ∀ x, x ≠ 407 → r4 x = r3 x := fun x hx => by
        rw [hr4]
        exact if_neg hx
      exact qb_wfirst h hm hq o hT hF hB hN h12 h0 hG h4 (by omega) (fun r5 M5 K5 => ih (i + 1) r5 M5 (by omega) K5) (α i) 0 r4 M (by omega) (qb_wK_c (fun t ht => (n4 t (by omega)).trans (n3 t (by omega))) K2) (by rw [n4 _ (by omega), n3 _ (by omega), s2]) (by rw [hr4]; exact s3)
end QBR
