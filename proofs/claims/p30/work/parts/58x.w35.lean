/-! WAY: the reference's way: its contract -/
noncomputable def qb_wP (q N : Nat) (F : Nat → Int) (σ α : Nat → Nat) (r : Nat → Int) (_ : Nat → Nat → Int) : Prop := r 402 = (q : Int) ∧ wq_H r q N F σ α
noncomputable def qb_wQ (N : Nat) (F : Nat → Int) (α : Nat → Nat) (r : Nat → Int) (M : Nat → Nat → Int) (r2 : Nat → Int) (M2 : Nat → Nat → Int) (o : Option Int) : Prop := ((∀ t, t < 401 → t ≠ 72 → t ≠ 112 → r2 t = r t) ∧ r2 72 = 0) ∧ ((∀ z, z ≠ 329 → z ≠ 330 → M2 z = M z) ∧ ∀ t : Nat, t < 4096 → -1 ≤ M2 329 t ∧ M2 329 t ≤ 12) ∧ qa_kR N F α 112 330 r M r2 M2 o
theorem wm_F12 {T : Nat → Nat → Option Nat} {fin V : Nat → Prop} {F : Nat → Int} (hT : wm_T T V) (hF : wm_F T fin F) (hO : ∀ s a t, s < 4096 → a < 13 → T s a = some t → s ||| t = t) : ∀ t, t < 4096 → F t ≤ 12 := fun t ht => by
  by_cases c : F t = -1
  · omega
  · have f := (hF t ht).1
    have := (wm_row hT hF hO (F t).toNat t ht (by omega)).1
    omega
theorem qb_wM {m q N : Nat} {F : Nat → Int} {σ α : Nat → Nat} (hm : 4 ≤ m) : pt_Met (m + 1 + 1 + 1) 252 qbY [wa_r 264, wa_i 402] (qb_wP q N F σ α) (qb_wQ N F α) 1 := by
  refine pt_intro (L0 := [wa_r 264, wa_i 402, wa_u, wa_u, wa_u, wa_u, wa_u]) (wq_b0 252 (by decide)).2 (by omega) qbsys (by
    rw [qb_w_l.2.2.2.2.2.2]
    rfl) (fun P r M h hp => ?_)
  have h' := h
  obtain ⟨hseg, henv, hrel, -, hld, -, hsto, -, -, -, hret, -⟩ := h'
  refine henv _ _ _ _ _ (fun hE _ => ?_)
  have h00 : r 0 = 0 := hE.1
  obtain ⟨p1, p2⟩ := hp
  have o := p2.1.1
  have hq := p2.1.2
  obtain ⟨pl, epl⟩ : ∃ pl : Nat, r 73 = (pl : Int) := ⟨(r 73).toNat, by have := o.2.2.2.2.1; omega⟩
  have c0 := List.all_eq_true.mp qb_w_c0 pl (List.mem_range.mpr (by have := o.2.2.2.2.1; omega))
  refine hseg _ _ _ _ _ r M _ _ _ _ _ c0 ⟨pt_m0, pt_m2 ⟨by show (pl : Int) ≤ r 73; omega, by show r 73 ≤ (pl : Int); omega⟩ ⟨by show (0 : Int) ≤ r 402; omega, by show r 402 ≤ (3 : Int); omega⟩, pt_m0⟩ ⟨fun _ => ?_, trivial⟩
  obtain ⟨r1, hr1⟩ : ∃ r1, r1 = pt_up r [(72, wq_k 0), (403, wq_k (2 ^ pl - 1)), (404, wq_k 4095)] := ⟨_, rfl⟩
  show P (31, 0, 0) (qb_wL wa_u wa_u wa_u) [] (pt_up r [(72, wq_k 0), (403, wq_k (2 ^ pl - 1)), (404, wq_k 4095)]) M
  rw [← hr1]
  have n1 : ∀ t, t ≠ 72 → t ≠ 403 → t ≠ 404 → r1 t = r t := fun t h1 h2 h3 => by
    rw [hr1]
    exact (if_neg h1).trans ((if_neg h2).trans (if_neg h3))
  have l1 : ∀ t, t < 401 → t ≠ 72 → r1 t = r t := fun t h1 h2 => n1 t h2 (by omega) (by omega)
  have cd1 : r1 72 = 0 := by
    rw [hr1]
    rfl
  have b21 : r1 403 = ((2 ^ pl - 1 : Nat) : Int) := by
    rw [hr1]
    rfl
  have b31 : r1 404 = 4095 := by
    rw [hr1]
    rfl
  obtain ⟨-, hT, -, hF, hN, hG⟩ := p2
  have hB := wm_F12 hT hF (fun s a t _ ha e => wq_TO ha e)
  refine qb_wouter (r0 := r) (M0 := M) (F := F) (q := q) h hm hq o hT hF hB (fun r2 M2 I => ?_) 4096 r1 M (Nat.le_refl _) ⟨⟨l1, cd1⟩, ⟨(n1 _ (by omega) (by omega) (by omega)).trans p1, ?_⟩, fun t a b => absurd a (by omega), fun _ _ => rfl⟩ (by omega)
  · obtain ⟨⟨i1, i2⟩, ⟨i3, i4⟩, i5, i6⟩ := I
    refine hseg _ _ _ _ _ r2 M2 _ _ _ _ _ qb_w_c5.1 ⟨pt_m0, pt_m0, pt_m0⟩ ⟨fun _ => ?_, trivial⟩
    show P (176, 0, 0) (qb_wL wa_u wa_u wa_u) [wa_k 0, wa_r 329] r2 M2
    have v20 : r2 0 = 0 := (i1 0 (by omega) (by omega)).trans h00
    refine hld (176, 0, 0) _ [] r2 M2 329 4096 481 0 (0, 0) qb_w_l.2.1.1 (by omega) (by show r2 0 + 0 = _; rw [v20]; rfl) ?_
    rw [i5 0 (by omega) (by omega)]
    obtain ⟨r3, hr3⟩ : ∃ r3, r3 = pt_set r2 481 (F 0) := ⟨_, rfl⟩
    rw [← hr3]
    have n3 : ∀ x, x ≠ 481 → r3 x = r2 x := fun x hx => by
      rw [hr3]
      exact if_neg hx
    have s3 : r3 481 = F 0 := by
      rw [hr3]
      exact wq_sset
    show P (177, 0, 0) (qb_wL wa_u wa_u wa_u) [wa_i 481] r3 M2
    by_cases c : F 0 = -1
    · refine hseg _ _ _ _ _ r3 M2 _ _ _ _ _ qb_w_c5.2.1 ⟨pt_m0, pt_m1 ⟨by show (-1 : Int) ≤ r3 481; omega, by show r3 481 ≤ (-1 : Int); omega⟩, pt_m0⟩ ⟨fun _ => ?_, trivial⟩
      show P (182, 0, 0) (qb_wL wa_u wa_u wa_u) [wa_n] r3 M2
      refine hret (182, 0, 0) _ (0, .negSucc 0) r3 M2 rfl qb_w_l.2.2.2.2.1 (Nat.ble_eq_true_of_le (Nat.zero_le _)) (Nat.ble_eq_true_of_le (Nat.zero_le _)) ?_
      have ev : ai_vx r3 (0, .negSucc 0) = -1 := by
        show r3 0 + -1 = -1
        rw [n3 0 (by omega), v20]
        rfl
      rw [ev]
      exact ⟨⟨fun t a b _ => (n3 t (by omega)).trans (i1 t a b), (n3 _ (by omega)).trans i2⟩, ⟨fun z h1 _ => i6 z h1, fun t ht => by rw [i5 t (by omega) ht]; exact ⟨(hF t ht).1, hB t ht⟩⟩, Or.inl ⟨c, rfl, (n3 _ (by omega)).trans (i1 _ (by omega) (by omega)), i6 330 (by decide)⟩⟩
    have eN : F 0 = (N : Int) := hN.resolve_left c
    obtain ⟨g1, g2, g3, g4⟩ := hG eN
    refine hseg _ _ _ _ _ r3 M2 _ _ _ _ _ qb_w_c5.2.2.1 ⟨pt_m0, pt_m1 ⟨by show (0 : Int) ≤ r3 481; omega, by show r3 481 ≤ (12 : Int); omega⟩, pt_m0⟩ ⟨fun _ => ?_, trivial⟩
    show P (189, 0, 0) (qb_wL wa_u wa_u wa_u) [wa_k 0, wa_r 329, wa_r 264] r3 M2
    refine hld (189, 0, 0) _ [wa_r 264] r3 M2 329 4096 481 0 (0, 0) qb_w_l.2.1.2 (by omega) (by show r3 0 + 0 = _; rw [n3 0 (by omega), v20]; rfl) ?_
    rw [i5 0 (by omega) (by omega), eN]
    obtain ⟨r4, hr4⟩ : ∃ r4, r4 = pt_set r3 481 (N : Int) := ⟨_, rfl⟩
    rw [← hr4]
    have n4 : ∀ x, x ≠ 481 → r4 x = r3 x := fun x hx => by
      rw [hr4]
      exact if_neg hx
    have s4 : r4 481 = (N : Int) := by
      rw [hr4]
      exact wq_sset
    show P (190, 0, 0) (qb_wL wa_u wa_u wa_u) [wa_i 481, wa_r 264] r4 M2
    refine hseg _ _ _ _ _ r4 M2 _ _ _ _ _ qb_w_c5.2.2.2 ⟨pt_m0, pt_m1 ⟨by show (0 : Int) ≤ r4 481; omega, by show r4 481 ≤ (12 : Int); omega⟩, pt_m0⟩ ⟨fun _ => ?_, trivial⟩
    obtain ⟨r5, hr5⟩ : ∃ r5, r5 = pt_up r4 [(112, wq_p 481), (404, wq_k 0), (405, wq_k 0)] := ⟨_, rfl⟩
    show P (198, 0, 0) (qb_wz wa_u wa_u) [] (pt_up r4 [(112, wq_p 481), (404, wq_k 0), (405, wq_k 0)]) M2
    rw [← hr5]
    have n5 : ∀ x, x ≠ 112 → x ≠ 404 → x ≠ 405 → r5 x = r4 x := fun x h1 h2 h3 => by
      rw [hr5]
      exact (if_neg h1).trans ((if_neg h2).trans (if_neg h3))
    have f5 : ∀ x, x ≠ 112 → x ≠ 404 → x ≠ 405 → x ≠ 481 → r5 x = r2 x := fun x h1 h2 h3 h4 => by rw [n5 x h1 h2 h3, n4 x h4, n3 x h4]
    refine qb_wrow (r0 := r) (M0 := M) h hm hq o hT hF hB eN g1 g2 g3 g4 (fun r6 M6 k1 k2 k3 k4 k5 k6 => ⟨⟨k1, k2⟩, ⟨k4, fun t ht => by rw [k6 t ht]; exact ⟨(hF t ht).1, hB t ht⟩⟩, Or.inr ⟨eN, rfl, k3, k5⟩⟩) N 0 r5 M2 (by omega) ⟨⟨fun t a b c => (f5 t c (by omega) (by omega) (by omega)).trans (i1 t a b), (f5 _ (by omega) (by omega) (by omega) (by omega)).trans i2, by rw [hr5]; exact s4⟩, ⟨(f5 _ (by omega) (by omega) (by omega) (by omega)).trans i3, by rw [hr5, g2]; rfl, by rw [hr5]; rfl⟩, fun t ht => i5 t (by omega) ht, fun z h1 _ => i6 z h1, ?_⟩
    rw [i6 330 (by decide)]
    funext x
    exact (if_neg (by omega)).symm
  · rw [b21, epl]
    rfl
