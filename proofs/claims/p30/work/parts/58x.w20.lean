/-! WAY: Arrays.fill -/
noncomputable def qa_fL (u v : ai_V) : List ai_V := [wa_r 201, wa_i 403, u, v]
theorem qa_f_c : pt_row qaY 287 [3] true (0, 0, 0) (qa_fL wa_u wa_u) [] [] [] [] [] [((3, 0, 0), (qa_fL (wa_i 404) wa_u, [wa_r 201]), [(404, wq_k 0)], [])] = true ∧ pt_row qaY 287 [5] false (4, 0, 0) (qa_fL (wa_i 404) wa_u) [wa_k 4096] [] [] [] [] [((5, 0, 0), (qa_fL (wa_i 404) (wa_k 4096), []), [], [])] = true ∧
    pt_row qaY 287 [13, 20] true (5, 0, 0) (qa_fL (wa_i 404) (wa_k 4096)) [] [] [] [] [] [((13, 0, 0), (qa_fL (wa_i 404) (wa_k 4096), [wa_i 403, wa_i 404, wa_r 201]), [], [(0, wq_p 404, wq_k 4095)]), ((20, 0, 0), (qa_fL (wa_i 404) (wa_k 4096), []), [], [(0, wq_k 4096, wq_p 404)])] = true ∧
    pt_row qaY 287 [5] false (14, 0, 0) (qa_fL (wa_i 404) (wa_k 4096)) [] [] [(404, (0, 4095))] [] [] [((5, 0, 0), (qa_fL (wa_i 404) (wa_k 4096), []), [(404, [(0, 404, 0), (3, 0, 1)])], [])] = true := by decide +kernel
theorem qa_f_k : pt_nck qaY 287 3 201 4096 = true ∧ pt_sck qaY 287 13 2 201 4096 0 = true ∧ pt_is 7 287 20 = true ∧ (ct_mt 287).2.2.1 = 4 := by decide +kernel
theorem qa_floop {n : Nat} {Z : (Nat → Int) → (Nat → Nat → Int) → Option Int → Prop} {P : pt_P} (h : pt_Cl n 287 qaY 0 Z P) {r0 : Nat → Int} {M0 : Nat → Nat → Int} {v : Int} (hz : ∀ r2 M2, (∀ t, t < 402 → r2 t = r0 t) → (∀ j, j < 4096 → M2 201 j = v) → (∀ z, z ≠ 201 → M2 z = M0 z) → Z r2 M2 none) :
    ∀ (k j : Nat) (r : Nat → Int) (M : Nat → Nat → Int), j + k = 4096 → r 403 = v → r 404 = (j : Int) → (∀ t, t < 402 → r t = r0 t) → (∀ x, x < j → M 201 x = v) → (∀ z, z ≠ 201 → M z = M0 z) → P (5, 0, 0) (qa_fL (wa_i 404) (wa_k 4096)) [] r M := by
  obtain ⟨hseg, henv, -, -, -, -, hst, -, -, -, -, -, -, hvret⟩ := h
  obtain ⟨c1, c2, c3, c4⟩ := qa_f_c
  intro k
  induction k with
  | zero =>
    intro j r M hj e1 e2 e3 e4 e5
    refine hseg _ _ _ _ _ r M _ _ _ _ _ c3 ⟨pt_m0, pt_m0, pt_m0⟩ ⟨fun g => ?_, fun _ => ?_, trivial⟩
    · have g1 : r 404 ≤ 4095 := g.1
      omega
    · exact hvret (20, 0, 0) _ r M rfl qa_f_k.2.2.1 (Nat.ble_eq_true_of_le (Nat.zero_le _)) (Nat.ble_eq_true_of_le (Nat.zero_le _)) (hz r M e3 (fun x hx => e4 x (by omega)) e5)
  | succ k ih =>
    intro j r M hj e1 e2 e3 e4 e5
    refine hseg _ _ _ _ _ r M _ _ _ _ _ c3 ⟨pt_m0, pt_m0, pt_m0⟩ ⟨fun _ => ?_, fun g => ?_, trivial⟩
    · refine hst (13, 0, 0) _ [] r M 201 4096 j (404, 0) (403, 0) qa_f_k.2.1 (by omega) (by show r 404 + 0 = _; omega) ?_
      have ev : ai_vx r (403, 0) = v := by
        show r 403 + 0 = _
        omega
      rw [ev]
      refine hseg _ _ _ _ _ r _ _ _ _ _ _ c4 ⟨pt_m0, pt_m1 ⟨by show (0 : Int) ≤ r 404; omega, by show r 404 ≤ (4095 : Int); omega⟩, pt_m0⟩ ⟨fun _ => ?_, trivial⟩
      refine ih (j + 1) _ _ (by omega) e1 (by show r 404 + 1 = _; omega) (fun t ht => ?_) (fun x hx => ?_) (fun z hz => ?_)
      · refine Eq.trans ?_ (e3 t ht)
        exact if_neg (by show ¬ t = 404; omega)
      · show (if 201 = 201 ∧ x = j then v else M 201 x) = v
        by_cases w : x = j
        · rw [if_pos ⟨rfl, w⟩]
        · rw [if_neg (fun z => w z.2)]
          exact e4 x (by omega)
      · rw [← e5 z hz]
        funext x
        exact if_neg (fun w => hz w.1)
    · have g1 : 4096 ≤ r 404 := g.1
      omega
noncomputable def qa_fQ (r : Nat → Int) (M : Nat → Nat → Int) (r2 : Nat → Int) (M2 : Nat → Nat → Int) (o : Option Int) : Prop := o = none ∧ (∀ t, t < 402 → r2 t = r t) ∧ (∀ j, j < 4096 → M2 201 j = r 403) ∧ ∀ z, z ≠ 201 → M2 z = M z
theorem qa_fM {n : Nat} (hn : 4 ≤ n) : pt_Met (n + 1) 287 qaY [wa_r 201, wa_i 403] (fun _ _ => True) qa_fQ 0 := by
  refine pt_introN (L0 := qa_fL wa_u wa_u) (wq_b0 287 (by decide)).2 hn qasys (by
    rw [qa_f_k.2.2.2]
    rfl) (fun P r M h hlen hp => ?_)
  have h' := h
  obtain ⟨hseg, henv, -⟩ := h'
  obtain ⟨c1, c2, c3, c4⟩ := qa_f_c
  refine hseg _ _ _ _ _ r M _ _ _ _ _ c1 ⟨pt_m0, pt_m0, pt_m0⟩ ⟨fun _ => ?_, trivial⟩
  obtain ⟨r1, hr1⟩ : ∃ r1, r1 = pt_up r [(404, wq_k 0)] := ⟨_, rfl⟩
  show P (3, 0, 0) (qa_fL (wa_i 404) wa_u) [wa_r 201] (pt_up r [(404, wq_k 0)]) M
  rw [← hr1]
  have n1 : ∀ t, t ≠ 404 → r1 t = r t := fun t ht => by
    rw [hr1]
    exact if_neg ht
  refine hlen (3, 0, 0) _ [] r1 M 201 4096 qa_f_k.1 ?_
  refine hseg _ _ _ _ _ r1 M _ _ _ _ _ c2 ⟨pt_m0, pt_m0, pt_m0⟩ ⟨fun _ => ?_, trivial⟩
  exact qa_floop (r0 := r) (M0 := M) (v := r 403) h (fun r2 M2 g1 g2 g3 => ⟨rfl, g1, g2, g3⟩) 4096 0 r1 M (by omega) (n1 _ (by omega)) (by rw [hr1]; rfl) (fun t ht => n1 t (by omega)) (fun x hx => absurd hx (by omega)) (fun _ _ => rfl)
