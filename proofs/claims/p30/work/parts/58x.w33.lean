/-! WAY: the reference's way: a call of behind, the inner loop -/
section QBW
variable {m : Nat} {Z : (Nat → Int) → (Nat → Nat → Int) → Option Int → Prop} {P : pt_P} {r0 : Nat → Int} {M0 : Nat → Nat → Int} {q N : Nat} {F : Nat → Int} {σ α : Nat → Nat}
theorem qb_wcall (h : pt_Cl (m + 1 + 1) 252 qbY 1 Z P) (hm : 4 ≤ m) {pc : Nat} {L : List ai_V} (hck : (cy_vk 252 pc 251 qbY.2.1 qb_wS qb_wA [] && pt_cck qbY 252 251 (pc, 0, 0) 1 481 L [] qb_wA qb_wB) = true) {r : Nat → Int} {M : Nat → Nat → Int} {s a : Nat} (o : wq_ok r) (hq : q < 4) (e1 : r 402 = (q : Int)) (e3 : r 404 = (s : Int)) (e5 : r 406 = (a : Int)) (hs : s < 4096) (ha : a < 13)
    (k : P (pc + 3, 0, 0) L [wa_i 481] (pt_set r 481 (wq_To (wq_T r q s a))) M) : P (pc, 0, 0) L qb_wS r M := by
  obtain ⟨rc, hrc⟩ : ∃ rc, rc = pt_up r (pt_wc qb_wA qb_wB) := ⟨_, rfl⟩
  have rcv : ∀ t, rc t = if t = 402 then r 404 else if t = 403 then r 406 else if t = 404 then r 402 else r t := fun t => by
    rw [hrc]
    rfl
  have rcl : ∀ t, t < 401 → rc t = r t := fun t ht => by
    rw [rcv, if_neg (by omega), if_neg (by omega), if_neg (by omega)]
  have v1 : rc 402 = (s : Int) := by rw [rcv, if_pos rfl, e3]
  have v2 : rc 403 = (a : Int) := by rw [rcv, if_neg (by omega), if_pos rfl, e5]
  have v3 : rc 404 = (q : Int) := by rw [rcv, if_neg (by omega), if_neg (by omega), if_pos rfl, e1]
  have low : ∀ t, (t = 73 ∨ t = 74 ∨ t = 75 ∨ (115 ≤ t ∧ t < 125) ∨ (135 ≤ t ∧ t < 139) ∨ (139 ≤ t ∧ t < 143) ∨ (147 ≤ t ∧ t < 151) ∨ (171 ≤ t ∧ t < 203) ∨ (371 ≤ t ∧ t < 379)) → rc t = r t := fun t ht => rcl t (by omega)
  have vV : qb_bV rc = wq_To (wq_T r q s a) := by
    unfold qb_bV
    rw [v1, v2, v3]
    show wq_To (wq_T rc q s a) = _
    rw [wq_T_c low hq ha o]
  refine wq_cv h (wq_b0 251 (by decide)).1 (show 401 ≤ 481 by omega) (wq_b0 251 (by decide)).2 hck (qb_bM hm) ?_ (fun t ht => ?_) ?_
  · rw [← hrc]
    exact ⟨⟨by omega, by omega⟩, ⟨by omega, by omega⟩, ⟨by omega, by omega⟩, wq_ok_c low o⟩
  · rw [← hrc]
    exact rcl t ht
  · rw [← hrc, vV]
    exact k
/-- the state while distances are told, from s on -/
noncomputable def qb_wI (r0 : Nat → Int) (M0 : Nat → Nat → Int) (q : Nat) (F : Nat → Int) (s : Nat) (r : Nat → Int) (M : Nat → Nat → Int) : Prop := ((∀ t, t < 401 → t ≠ 72 → r t = r0 t) ∧ r 72 = 0) ∧ (r 402 = (q : Int) ∧ r 403 = ((2 ^ (r0 73).toNat - 1 : Nat) : Int)) ∧ (∀ t : Nat, s ≤ t → t < 4096 → M 329 t = F t) ∧ ∀ z, z ≠ 329 → M z = M0 z
theorem qb_wI_c {s : Nat} {r r2 : Nat → Int} {M : Nat → Nat → Int} (e : ∀ t, t < 404 → r2 t = r t) (h : qb_wI r0 M0 q F s r M) : qb_wI r0 M0 q F s r2 M := by
  obtain ⟨⟨h1, h2⟩, ⟨h3, h4⟩, h5⟩ := h
  exact ⟨⟨fun t a b => (e t (by omega)).trans (h1 t a b), (e _ (by omega)).trans h2⟩, ⟨(e _ (by omega)).trans h3, (e _ (by omega)).trans h4⟩, h5⟩
theorem qb_wI_s {s : Nat} {r : Nat → Int} {M : Nat → Nat → Int} {v : Int} (h : qb_wI r0 M0 q F (s + 1) r M) : qb_wI r0 M0 q F (s + 1) r (pt_sto M 329 s v) ∧ pt_sto M 329 s v 329 s = v := by
  obtain ⟨h1, h2, h3, h4⟩ := h
  refine ⟨⟨h1, h2, fun t a b => ?_, fun z hz => ?_⟩, if_pos ⟨rfl, rfl⟩⟩
  · exact (if_neg (fun w => by have := w.2; omega)).trans (h3 t a b)
  · rw [← h4 z hz]
    funext x
    exact if_neg (fun w => hz w.1)
theorem qb_wI_d {s : Nat} {r : Nat → Int} {M : Nat → Nat → Int} (h : qb_wI r0 M0 q F (s + 1) r M) (e : M 329 s = F s) : qb_wI r0 M0 q F s r M := by
  obtain ⟨h1, h2, h3, h4⟩ := h
  refine ⟨h1, h2, fun t a b => ?_, h4⟩
  by_cases w : t = s
  · rw [w]
    exact e
  · exact h3 t (by omega) b
/-- place 159: the next act -/
theorem qb_w159 (h : pt_Cl (m + 1 + 1) 252 qbY 1 Z P) {s a : Nat} (ha : a < 13) {r : Nat → Int} {M : Nat → Nat → Int} (I : qb_wI r0 M0 q F (s + 1) r M) (e3 : r 404 = (s : Int)) (e5 : r 406 = (a : Int))
    (k : ∀ r2, qb_wI r0 M0 q F (s + 1) r2 M → r2 404 = (s : Int) → r2 406 = ((a + 1 : Nat) : Int) → P (77, 0, 0) (qb_wL (wa_k 0) (wa_i 406) wa_u) [] r2 M) : P (159, 0, 0) (qb_wL (wa_k 0) (wa_i 406) wa_u) [] r M := by
  obtain ⟨hseg, -⟩ := h
  refine hseg _ _ _ _ _ r M _ _ _ _ _ qb_w_c4.2.2.2 ⟨pt_m0, pt_m1 ⟨by show (0 : Int) ≤ r 406; omega, by show r 406 ≤ (12 : Int); omega⟩, pt_m0⟩ ⟨fun _ => ?_, trivial⟩
  obtain ⟨r2, hr2⟩ : ∃ r2, r2 = pt_up r [(406, qb_xd 406 1)] := ⟨_, rfl⟩
  show P (77, 0, 0) (qb_wL (wa_k 0) (wa_i 406) wa_u) [] (pt_up r [(406, qb_xd 406 1)]) M
  rw [← hr2]
  have n2 : ∀ t, t ≠ 406 → r2 t = r t := fun t ht => by
    rw [hr2]
    exact if_neg ht
  exact k r2 (qb_wI_c (fun t ht => n2 t (by omega)) I) ((n2 _ (by omega)).trans e3) (by rw [hr2]; show r 406 + 1 = _; omega)
/-- place 155: a lesser distance -/
theorem qb_w155 (h : pt_Cl (m + 1 + 1) 252 qbY 1 Z P) {s a t : Nat} (ha : a < 13) (hs : s < 4096) (ht : t < 4096) (hst : s < t) (hF : 0 ≤ F t ∧ F t ≤ 12) {r : Nat → Int} {M : Nat → Nat → Int} (I : qb_wI r0 M0 q F (s + 1) r M) (e3 : r 404 = (s : Int)) (e5 : r 406 = (a : Int)) (e6 : r 407 = (t : Int))
    (k : ∀ r2 M2, qb_wI r0 M0 q F (s + 1) r2 M2 → r2 404 = (s : Int) → r2 406 = ((a + 1 : Nat) : Int) → M2 329 s = F t + 1 → P (77, 0, 0) (qb_wL (wa_k 0) (wa_i 406) wa_u) [] r2 M2) : P (155, 0, 0) qb_w6 [wa_i 407, wa_r 329, wa_i 404, wa_r 329] r M := by
  have h' := h
  obtain ⟨hseg, henv, hrel, -, hld, -, hsto, -⟩ := h'
  refine hld (155, 0, 0) _ [wa_i 404, wa_r 329] r M 329 4096 481 t (407, 0) qb_w_l.1.2.2.2.2 ht (by show r 407 + 0 = _; omega) ?_
  rw [I.2.2.1 t (by omega) ht]
  obtain ⟨r1, hr1⟩ : ∃ r1, r1 = pt_set r 481 (F t) := ⟨_, rfl⟩
  rw [← hr1]
  have n1 : ∀ x, x ≠ 481 → r1 x = r x := fun x hx => by
    rw [hr1]
    exact if_neg hx
  have s1 : r1 481 = F t := by
    rw [hr1]
    exact wq_sset
  refine hseg _ _ _ _ _ r1 M _ _ _ _ _ qb_w_c4.2.2.1 ⟨pt_m0, pt_m1 ⟨by show (0 : Int) ≤ r1 481; omega, by show r1 481 ≤ (12 : Int); omega⟩, pt_m0⟩ ⟨fun _ => ?_, trivial⟩
  obtain ⟨r2, hr2⟩ : ∃ r2, r2 = pt_up r1 [(482, qb_xd 481 1)] := ⟨_, rfl⟩
  show P (158, 0, 0) qb_w6 [wa_i 482, wa_i 404, wa_r 329] (pt_up r1 [(482, qb_xd 481 1)]) M
  rw [← hr2]
  have n2 : ∀ x, x ≠ 482 → r2 x = r1 x := fun x hx => by
    rw [hr2]
    exact if_neg hx
  have s2 : r2 482 = F t + 1 := by
    rw [hr2]
    show r1 481 + 1 = _
    rw [s1]
  have b3 : r2 404 = (s : Int) := by rw [n2 _ (by omega), n1 _ (by omega), e3]
  refine hsto (158, 0, 0) _ [] r2 M 329 4096 s (404, 0) (482, 0) qb_w_l.2.2.2.1.2.1 hs (by show r2 404 + 0 = _; omega) ?_
  have ev : ai_vx r2 (482, 0) = F t + 1 := by
    show r2 482 + 0 = _
    omega
  rw [ev]
  obtain ⟨j1, j2⟩ := qb_wI_s (v := F t + 1) (qb_wI_c (r2 := r2) (fun x hx => (n2 x (by omega)).trans (n1 x (by omega))) I)
  show P (159, 0, 0) qb_w6 [] r2 _
  refine hrel (159, 0, 0) _ (qb_wL (wa_k 0) (wa_i 406) wa_u) _ [] r2 _ ⟨rfl, ⟨by show 402 < 501; omega, rfl⟩, ⟨by show 403 < 501; omega, rfl⟩, ⟨by show 404 < 501; omega, rfl⟩, ⟨by show 0 < 501; omega, rfl⟩, ⟨by show 406 < 501; omega, rfl⟩, trivial, trivial⟩ trivial ?_
  exact qb_w159 h ha j1 b3 (by rw [n2 _ (by omega), n1 _ (by omega), e5]) (fun r3 k1 k2 k3 => k r3 _ k1 k2 k3 j2)
theorem qb_wloop (h : pt_Cl (m + 1 + 1) 252 qbY 1 Z P) (hm : 4 ≤ m) (hq : q < 4) (o : wq_ok r0) (hT : wm_T (wq_T r0 q) (wq_V r0)) (hF : wm_F (wq_T r0 q) (wq_fin r0) F) (hB : ∀ t, t < 4096 → F t ≤ 12) {s : Nat} (hs : s < 4096) (hn : ¬ wq_fin r0 s)
    (hnext : ∀ r M, qb_wI r0 M0 q F s r M → r 404 = (s : Int) - 1 → P (31, 0, 0) (qb_wL wa_u wa_u wa_u) [] r M) :
    ∀ (k a : Nat) (v : Int) (r : Nat → Int) (M : Nat → Nat → Int), a + k = 13 → qb_wI r0 M0 q F (s + 1) r M → r 404 = (s : Int) → r 406 = (a : Int) → M 329 s = v → wm_I (wq_T r0 q) F s a v → P (77, 0, 0) (qb_wL (wa_k 0) (wa_i 406) wa_u) [] r M := by
  have h' := h
  obtain ⟨hseg, henv, hrel, -, hld, -⟩ := h'
  intro k
  induction k with
  | zero =>
    intro a v r M ha I e3 e5 ev J
    have ha : a = 13 := by omega
    subst ha
    refine hseg _ _ _ _ _ r M _ _ _ _ _ qb_w_c2.2.1 ⟨pt_m0, pt_m2 ⟨by show (13 : Int) ≤ r 406; omega, by show r 406 ≤ (13 : Int); omega⟩ ⟨by show (0 : Int) ≤ r 404; omega, by show r 404 ≤ (4095 : Int); omega⟩, pt_m0⟩ ⟨fun _ => ?_, trivial⟩
    obtain ⟨r2, hr2⟩ : ∃ r2, r2 = pt_up r [(404, qb_xd 404 (-1))] := ⟨_, rfl⟩
    show P (31, 0, 0) (qb_wL wa_u wa_u wa_u) [] (pt_up r [(404, qb_xd 404 (-1))]) M
    rw [← hr2]
    have n2 : ∀ x, x ≠ 404 → r2 x = r x := fun x hx => by
      rw [hr2]
      exact if_neg hx
    exact hnext r2 M (qb_wI_d (qb_wI_c (fun x hx => n2 x (by omega)) I) (ev.trans (wm_Ie hF hs hn J))) (by rw [hr2]; show r 404 + -1 = _; omega)
  | succ k ih =>
    intro a v r M ha I e3 e5 ev J
    have ha13 : a < 13 := by omega
    have low : ∀ t, (t = 73 ∨ t = 74 ∨ t = 75 ∨ (115 ≤ t ∧ t < 125) ∨ (135 ≤ t ∧ t < 139) ∨ (139 ≤ t ∧ t < 143) ∨ (147 ≤ t ∧ t < 151) ∨ (171 ≤ t ∧ t < 203) ∨ (371 ≤ t ∧ t < 379)) → r t = r0 t := fun t ht => I.1.1 t (by omega) (by omega)
    refine hseg _ _ _ _ _ r M _ _ _ _ _ qb_w_c2.1 ⟨pt_m0, pt_m1 ⟨by show (0 : Int) ≤ r 406; omega, by show r 406 ≤ (12 : Int); omega⟩, pt_m0⟩ ⟨fun _ => ?_, trivial⟩
    show P (94, 0, 0) (qb_wL (wa_k 0) (wa_i 406) wa_u) qb_wS r M
    refine qb_wcall h hm qb_w_k.1 (wq_ok_c low o) hq I.2.1.1 e3 e5 hs ha13 ?_
    rw [wq_T_c low hq ha13 o]
    obtain ⟨r1, hr1⟩ : ∃ r1, r1 = pt_set r 481 (wq_To (wq_T r0 q s a)) := ⟨_, rfl⟩
    rw [← hr1]
    have n1 : ∀ x, x ≠ 481 → r1 x = r x := fun x hx => by
      rw [hr1]
      exact if_neg hx
    have s1 : r1 481 = wq_To (wq_T r0 q s a) := by
      rw [hr1]
      exact wq_sset
    have I1 : qb_wI r0 M0 q F (s + 1) r1 M := qb_wI_c (fun x hx => n1 x (by omega)) I
    show P (97, 0, 0) (qb_wL (wa_k 0) (wa_i 406) wa_u) [wa_i 481] r1 M
    cases eT : wq_T r0 q s a with
    | none =>
      rw [eT] at s1
      have s1 : r1 481 = -1 := s1
      refine hseg _ _ _ _ _ r1 M _ _ _ _ _ qb_w_c2.2.2.1 ⟨pt_m0, pt_m1 ⟨by show (-1 : Int) ≤ r1 481; omega, by show r1 481 ≤ (-1 : Int); omega⟩, pt_m0⟩ ⟨fun _ => ?_, trivial⟩
      show P (159, 0, 0) (qb_wL (wa_k 0) (wa_i 406) wa_u) [] r1 M
      refine qb_w159 h ha13 I1 ((n1 _ (by omega)).trans e3) ((n1 _ (by omega)).trans e5) (fun r2 k1 k2 k3 => ih (a + 1) v r2 M (by omega) k1 k2 k3 ev (wm_Is (fun t ht => ?_) J))
      rw [eT] at ht
      cases ht
    | some t =>
      rw [eT] at s1
      have s1 : r1 481 = (t : Int) := s1
      obtain ⟨st, t4, -⟩ := hT.2 s a t hs ha13 eT
      refine hseg _ _ _ _ _ r1 M _ _ _ _ _ qb_w_c2.2.2.2 ⟨pt_m0, pt_m1 ⟨by show (0 : Int) ≤ r1 481; omega, by show r1 481 ≤ (4095 : Int); omega⟩, pt_m0⟩ ⟨fun _ => ?_, trivial⟩
      obtain ⟨r2, hr2⟩ : ∃ r2, r2 = pt_up r1 [(407, wq_p 481)] := ⟨_, rfl⟩
      show P (111, 0, 0) qb_w6 [wa_i 407, wa_r 329] (pt_up r1 [(407, wq_p 481)]) M
      rw [← hr2]
      have n2 : ∀ x, x ≠ 407 → r2 x = r1 x := fun x hx => by
        rw [hr2]
        exact if_neg hx
      have s2 : r2 407 = (t : Int) := by
        rw [hr2]
        exact s1
      refine hld (111, 0, 0) _ [] r2 M 329 4096 481 t (407, 0) qb_w_l.1.1 t4 (by show r2 407 + 0 = _; omega) ?_
      rw [I.2.2.1 t (by omega) t4]
      obtain ⟨r3, hr3⟩ : ∃ r3, r3 = pt_set r2 481 (F t) := ⟨_, rfl⟩
      rw [← hr3]
      have n3 : ∀ x, x ≠ 481 → r3 x = r2 x := fun x hx => by
        rw [hr3]
        exact if_neg hx
      have s3 : r3 481 = F t := by
        rw [hr3]
        exact wq_sset
      have I3 : qb_wI r0 M0 q F (s + 1) r3 M := qb_wI_c (fun x hx => (n3 x (by omega)).trans (n2 x (by omega))) I1
      have e33 : r3 404 = (s : Int) := by rw [n3 _ (by omega), n2 _ (by omega), n1 _ (by omega), e3]
      have e53 : r3 406 = (a : Int) := by rw [n3 _ (by omega), n2 _ (by omega), n1 _ (by omega), e5]
      have e63 : r3 407 = (t : Int) := by rw [n3 _ (by omega), s2]
      have fl := (hF t t4).1
      have fu := hB t t4
      show P (112, 0, 0) qb_w6 [wa_i 481] r3 M
      by_cases c : F t = -1
      · refine hseg _ _ _ _ _ r3 M _ _ _ _ _ qb_w_c3.1 ⟨pt_m0, pt_m1 ⟨by show (-1 : Int) ≤ r3 481; omega, by show r3 481 ≤ (-1 : Int); omega⟩, pt_m0⟩ ⟨fun _ => ?_, trivial⟩
        show P (159, 0, 0) (qb_wL (wa_k 0) (wa_i 406) wa_u) [] r3 M
        refine qb_w159 h ha13 I3 e33 e53 (fun r4 k1 k2 k3 => ih (a + 1) v r4 M (by omega) k1 k2 k3 ev (wm_Is (fun u hu hF2 => ?_) J))
        rw [eT] at hu
        cases hu
        exact absurd c hF2
      refine hseg _ _ _ _ _ r3 M _ _ _ _ _ qb_w_c3.2.1 ⟨pt_m0, pt_m1 ⟨by show (0 : Int) ≤ r3 481; omega, by show r3 481 ≤ (12 : Int); omega⟩, pt_m0⟩ ⟨fun _ => ?_, trivial⟩
      show P (121, 0, 0) qb_w6 [wa_i 404, wa_r 329] r3 M
      refine hld (121, 0, 0) _ [] r3 M 329 4096 481 s (404, 0) qb_w_l.1.2.1 hs (by show r3 404 + 0 = _; omega) ?_
      rw [ev]
      obtain ⟨r4, hr4⟩ : ∃ r4, r4 = pt_set r3 481 v := ⟨_, rfl⟩
      rw [← hr4]
      have n4 : ∀ x, x ≠ 481 → r4 x = r3 x := fun x hx => by
        rw [hr4]
        exact if_neg hx
      have s4 : r4 481 = v := by
        rw [hr4]
        exact wq_sset
      have I4 : qb_wI r0 M0 q F (s + 1) r4 M := qb_wI_c (fun x hx => n4 x (by omega)) I3
      show P (122, 0, 0) qb_w6 [wa_i 481] r4 M
      by_cases cv : v = -1
      · refine hseg _ _ _ _ _ r4 M _ _ _ _ _ qb_w_c3.2.2.1 ⟨pt_m0, pt_m1 ⟨by show (-1 : Int) ≤ r4 481; omega, by show r4 481 ≤ (-1 : Int); omega⟩, pt_m0⟩ ⟨fun _ => ?_, trivial⟩
        show P (155, 0, 0) qb_w6 [wa_i 407, wa_r 329, wa_i 404, wa_r 329] r4 M
        exact qb_w155 h ha13 hs t4 st ⟨by omega, fu⟩ I4 ((n4 _ (by omega)).trans e33) ((n4 _ (by omega)).trans e53) ((n4 _ (by omega)).trans e63) (fun r5 M5 k1 k2 k3 k4 => ih (a + 1) (F t + 1) r5 M5 (by omega) k1 k2 k3 k4 (wm_In eT (by omega) (Or.inl cv) J))
      obtain ⟨b, u, b1, b2, b3, b4⟩ := J.2 cv
      have bl := (hF u (hT.2 s b u hs (by omega) b2).2.1).1
      have bu := hB u (hT.2 s b u hs (by omega) b2).2.1
      refine hseg _ _ _ _ _ r4 M _ _ _ _ _ qb_w_c3.2.2.2 ⟨pt_m0, pt_m1 ⟨by show (0 : Int) ≤ r4 481; omega, by show r4 481 ≤ (2147483647 : Int); omega⟩, pt_m0⟩ ⟨fun _ => ?_, trivial⟩
      show P (132, 0, 0) qb_w6 [wa_i 407, wa_r 329] r4 M
      refine hld (132, 0, 0) _ [] r4 M 329 4096 481 t (407, 0) qb_w_l.1.2.2.1 t4 (by show r4 407 + 0 = _; rw [n4 _ (by omega)]; omega) ?_
      rw [I.2.2.1 t (by omega) t4]
      obtain ⟨r5, hr5⟩ : ∃ r5, r5 = pt_set r4 481 (F t) := ⟨_, rfl⟩
      rw [← hr5]
      have n5 : ∀ x, x ≠ 481 → r5 x = r4 x := fun x hx => by
        rw [hr5]
        exact if_neg hx
      have s5 : r5 481 = F t := by
        rw [hr5]
        exact wq_sset
      refine hseg _ _ _ _ _ r5 M _ _ _ _ _ qb_w_c4.1 ⟨pt_m0, pt_m1 ⟨by show (0 : Int) ≤ r5 481; omega, by show r5 481 ≤ (12 : Int); omega⟩, pt_m0⟩ ⟨fun _ => ?_, trivial⟩
      obtain ⟨r6, hr6⟩ : ∃ r6, r6 = pt_up r5 [(482, qb_xd 481 1)] := ⟨_, rfl⟩
      show P (140, 0, 0) qb_w6 [wa_i 404, wa_r 329, wa_i 482] (pt_up r5 [(482, qb_xd 481 1)]) M
      rw [← hr6]
      have n6 : ∀ x, x ≠ 482 → r6 x = r5 x := fun x hx => by
        rw [hr6]
        exact if_neg hx
      have s6 : r6 482 = F t + 1 := by
        rw [hr6]
        show r5 481 + 1 = _
        rw [s5]
      have e36 : r6 404 = (s : Int) := by rw [n6 _ (by omega), n5 _ (by omega), n4 _ (by omega), e33]
      refine hld (140, 0, 0) _ [wa_i 482] r6 M 329 4096 481 s (404, 0) qb_w_l.1.2.2.2.1 hs (by show r6 404 + 0 = _; omega) ?_
      rw [ev]
      obtain ⟨r7, hr7⟩ : ∃ r7, r7 = pt_set r6 481 v := ⟨_, rfl⟩
      rw [← hr7]
      have n7 : ∀ x, x ≠ 481 → r7 x = r6 x := fun x hx => by
        rw [hr7]
        exact if_neg hx
      have s7 : r7 481 = v := by
        rw [hr7]
        exact wq_sset
      have s71 : r7 482 = F t + 1 := (n7 _ (by omega)).trans s6
      have f7 : ∀ x, x ≠ 481 → x ≠ 482 → r7 x = r3 x := fun x h1 h2 => by rw [n7 x h1, n6 x h2, n5 x h1, n4 x h1]
      have I7 : qb_wI r0 M0 q F (s + 1) r7 M := qb_wI_c (fun x hx => f7 x (by omega) (by omega)) I3
      show P (141, 0, 0) qb_w6 [wa_i 481, wa_i 482] r7 M
      refine hseg _ _ _ _ _ r7 M _ _ _ _ _ qb_w_c4.2.1 ⟨pt_m0, pt_m0, pt_m0⟩ ⟨fun g => ?_, fun g => ?_, trivial⟩
      · have g1 : r7 481 ≤ r7 482 := g.1
        show P (159, 0, 0) (qb_wL (wa_k 0) (wa_i 406) wa_u) [] r7 M
        refine qb_w159 h ha13 I7 ((f7 _ (by omega) (by omega)).trans e33) ((f7 _ (by omega) (by omega)).trans e53) (fun r8 k1 k2 k3 => ih (a + 1) v r8 M (by omega) k1 k2 k3 ev (wm_Is (fun u2 hu2 _ => ?_) J))
        rw [eT] at hu2
        cases hu2
        exact ⟨cv, by omega⟩
      · have g1 : r7 482 ≤ r7 481 + -1 := g.1
        show P (155, 0, 0) qb_w6 [wa_i 407, wa_r 329, wa_i 404, wa_r 329] r7 M
        exact qb_w155 h ha13 hs t4 st ⟨by omega, fu⟩ I7 ((f7 _ (by omega) (by omega)).trans e33) ((f7 _ (by omega) (by omega)).trans e53) ((f7 _ (by omega) (by omega)).trans e63) (fun r8 M8 k1 k2 k3 k4 => ih (a + 1) (F t + 1) r8 M8 (by omega) k1 k2 k3 k4 (wm_In eT (by omega) (Or.inr (by omega)) J))
-- all distances
theorem qb_wouter (h : pt_Cl (m + 1 + 1) 252 qbY 1 Z P) (hm : 4 ≤ m) (hq : q < 4) (o : wq_ok r0) (hT : wm_T (wq_T r0 q) (wq_V r0)) (hF : wm_F (wq_T r0 q) (wq_fin r0) F) (hB : ∀ t, t < 4096 → F t ≤ 12)
    (hk : ∀ r M, qb_wI r0 M0 q F 0 r M → P (171, 0, 0) (qb_wL wa_u wa_u wa_u) [] r M) :
    ∀ (s : Nat) (r : Nat → Int) (M : Nat → Nat → Int), s ≤ 4096 → qb_wI r0 M0 q F s r M → r 404 = (s : Int) - 1 → P (31, 0, 0) (qb_wL wa_u wa_u wa_u) [] r M := by
  have h' := h
  obtain ⟨hseg, henv, hrel, -, hld, -, hsto, -⟩ := h'
  intro s
  induction s with
  | zero =>
    intro r M hs I e3
    refine hseg _ _ _ _ _ r M _ _ _ _ _ qb_w_c1.2.1 ⟨pt_m0, pt_m1 ⟨by show (-1 : Int) ≤ r 404; omega, by show r 404 ≤ (-1 : Int); omega⟩, pt_m0⟩ ⟨fun _ => ?_, trivial⟩
    exact hk r M I
  | succ s ih =>
    intro r M hs I e3
    have hs4 : s < 4096 := by omega
    have e3 : r 404 = (s : Int) := by omega
    have o5 := o.2.2.2.2.1
    have p16 : 2 ^ (r0 73).toNat ≤ 2 ^ 4 := Nat.pow_le_pow_right (by omega) (by omega)
    have v15 : pt_v r qb_x15 = ((s &&& 15 : Nat) : Int) := by
      show ai_op 5 (r 404) 15 = _
      rw [e3]
      exact wq_o5 (x := s) (y := 15) (by omega) (by omega)
    have v8 : pt_v r qb_x8 = ((s / 2 ^ 8 : Nat) : Int) := by
      show ai_op 9 (r 404) 8 = _
      rw [e3]
      exact wq_o9 (x := s) (j := 8) (by omega) (by omega)
    have b2 := I.2.1.2
    have nofin : ¬ wq_fin r0 s → P (73, 0, 0) (qb_wL (wa_k 0) wa_u wa_u) [wa_n, wa_i 404, wa_r 329] r M := fun nf => by
      refine henv _ _ _ _ _ (fun hE _ => ?_)
      have ev : ai_vx r (0, .negSucc 0) = -1 := by
        show r 0 + -1 = -1
        rw [hE.1]
        rfl
      refine hsto (73, 0, 0) _ [] r M 329 4096 s (404, 0) (0, .negSucc 0) qb_w_l.2.2.2.1.1 hs4 (by show r 404 + 0 = _; omega) ?_
      rw [ev]
      obtain ⟨j1, j2⟩ := qb_wI_s (v := -1) I
      refine hseg _ _ _ _ _ r _ _ _ _ _ _ qb_w_c1.2.2.1 ⟨pt_m0, pt_m0, pt_m0⟩ ⟨fun _ => ?_, trivial⟩
      obtain ⟨r2, hr2⟩ : ∃ r2, r2 = pt_up r [(406, wq_k 0)] := ⟨_, rfl⟩
      show P (77, 0, 0) (qb_wL (wa_k 0) (wa_i 406) wa_u) [] (pt_up r [(406, wq_k 0)]) _
      rw [← hr2]
      have n2 : ∀ x, x ≠ 406 → r2 x = r x := fun x hx => by
        rw [hr2]
        exact if_neg hx
      exact qb_wloop h hm hq o hT hF hB hs4 nf (fun r3 M3 k1 k2 => ih r3 M3 (by omega) k1 k2) 13 0 (-1) r2 _ (by omega) (qb_wI_c (fun x hx => n2 x (by omega)) j1) ((n2 _ (by omega)).trans e3) (by rw [hr2]; rfl) j2 wm_I0
    refine hseg _ _ _ _ _ r M _ _ _ _ _ qb_w_c1.1 ⟨pt_m0, pt_m1 ⟨by show (0 : Int) ≤ r 404; omega, by show r 404 ≤ (4095 : Int); omega⟩, pt_m0⟩ ⟨fun g => ?_, fun g => ?_, fun g => ?_, trivial⟩
    · have g1 : pt_v r qb_x15 ≤ r 403 := g.1
      have g2 : r 403 ≤ pt_v r qb_x15 := g.2.1
      have g3 : pt_v r qb_x8 ≤ r 403 := g.2.2.1
      have g4 : r 403 ≤ pt_v r qb_x8 := g.2.2.2.1
      rw [v15, b2] at g1 g2
      rw [v8, b2] at g3 g4
      have yf : wq_fin r0 s := ⟨by omega, by omega⟩
      show P (73, 0, 0) (qb_wL (wa_k 1) wa_u wa_u) [wa_k 0, wa_i 404, wa_r 329] r M
      refine henv _ _ _ _ _ (fun hE _ => ?_)
      have ev : ai_vx r (0, 0) = 0 := by
        show r 0 + 0 = 0
        rw [hE.1]
        rfl
      refine hsto (73, 0, 0) _ [] r M 329 4096 s (404, 0) (0, 0) qb_w_l.2.2.2.1.1 hs4 (by show r 404 + 0 = _; omega) ?_
      rw [ev]
      obtain ⟨j1, j2⟩ := qb_wI_s (v := 0) I
      refine hseg _ _ _ _ _ r _ _ _ _ _ _ qb_w_c1.2.2.2 ⟨pt_m0, pt_m1 ⟨by show (0 : Int) ≤ r 404; omega, by show r 404 ≤ (4095 : Int); omega⟩, pt_m0⟩ ⟨fun _ => ?_, trivial⟩
      obtain ⟨r2, hr2⟩ : ∃ r2, r2 = pt_up r [(404, qb_xd 404 (-1))] := ⟨_, rfl⟩
      show P (31, 0, 0) (qb_wL wa_u wa_u wa_u) [] (pt_up r [(404, qb_xd 404 (-1))]) _
      rw [← hr2]
      have n2 : ∀ x, x ≠ 404 → r2 x = r x := fun x hx => by
        rw [hr2]
        exact if_neg hx
      exact ih r2 _ (by omega) (qb_wI_d (qb_wI_c (fun x hx => n2 x (by omega)) j1) (j2.trans ((hF s hs4).2.1 yf).symm)) (by rw [hr2]; show r 404 + -1 = _; omega)
    · have g1 : pt_v r qb_x15 ≠ r 403 := g.1
      rw [v15, b2] at g1
      exact nofin (fun w => g1 (by rw [w.1]))
    · have g1 : pt_v r qb_x8 ≠ r 403 := g.1
      rw [v8, b2] at g1
      exact nofin (fun w => g1 (by rw [w.2]))
end QBW
