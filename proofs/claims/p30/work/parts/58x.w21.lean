/-! WAY: spread's contract -/
noncomputable def qa_zP (q i n0 : Nat) (q0 κ0 d0 : Nat → Nat) (r : Nat → Int) (M : Nat → Nat → Int) : Prop := (r 403 = (q0 i : Int) ∧ i < n0 ∧ r 70 = (q : Int)) ∧ (wq_ok r ∧ wq_pl r) ∧ (r 71 = (n0 : Int) ∧ ∀ j, j < n0 → M 200 j = (q0 j : Int)) ∧ wm_B (wq_T r q) (wq_V r) (13 * i) n0 q0 κ0 d0 (M 201)
noncomputable def qa_zQ (q i n0 : Nat) (q0 : Nat → Nat) (r : Nat → Int) (M : Nat → Nat → Int) (r2 : Nat → Int) (M2 : Nat → Nat → Int) (o : Option Int) : Prop := o = none ∧ ∃ n qq κ d, qa_zI r M n0 q0 q i 13 n qq κ d r2 M2
theorem qa_zM {m q i n0 : Nat} {q0 κ0 d0 : Nat → Nat} (hm : 4 ≤ m) (hq : q < 4) : pt_Met (m + 1 + 1 + 1 + 1) 120 qaY [wa_r 198, wa_i 403] (qa_zP q i n0 q0 κ0 d0) (qa_zQ q i n0 q0) 0 := by
  refine pt_intro (L0 := [wa_r 198, wa_i 403, wa_u, wa_u]) (wq_b0 120 (by decide)).2 (by omega) qasys (by
    rw [qa_p_l.2.2.2.2]
    rfl) (fun P r M h hp => ?_)
  have h' := h
  obtain ⟨hseg, henv, -⟩ := h'
  refine henv _ _ _ _ _ (fun hE _ => ?_)
  have h0 : r 0 = 0 := hE.1
  obtain ⟨⟨p1, p2, p3⟩, ⟨o, pl⟩, ⟨p4, p5⟩, p6⟩ := hp
  refine hseg _ _ _ _ _ r M _ _ _ _ _ qa_p_c0 ⟨pt_m0, pt_m0, pt_m0⟩ ⟨fun _ => ?_, trivial⟩
  obtain ⟨r1, hr1⟩ : ∃ r1, r1 = pt_up r [(404, wq_k 0)] := ⟨_, rfl⟩
  show P (2, 0, 0) (qa_zL wa_u) [] (pt_up r [(404, wq_k 0)]) M
  rw [← hr1]
  have n1 : ∀ t, t ≠ 404 → r1 t = r t := fun t ht => by
    rw [hr1]
    exact if_neg ht
  have b := (p6.2.1 i p2).1
  exact qa_zloop (r0 := r) (M0 := M) (n0 := n0) (q0 := q0) (i := i) h hm hq o pl p3 h0 p2 (by omega) (fun r2 M2 n qq κ d I => ⟨rfl, n, qq, κ, d, I⟩) 13 0 n0 q0 κ0 d0 r1 M (by omega) ((n1 _ (by omega)).trans p1) (by rw [hr1]; rfl) ⟨⟨(n1 _ (by omega)).trans p4, p5, p6⟩, ⟨Nat.le_refl _, fun _ _ => rfl⟩, fun t h1 _ => n1 t (by omega), fun _ _ _ => rfl⟩
