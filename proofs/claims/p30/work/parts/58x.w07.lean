/-! WAY: their contracts -/
noncomputable def qb_cP (r : Nat → Int) : Prop := (0 ≤ r 402 ∧ r 402 ≤ 15) ∧ 0 ≤ r 403 ∧ r 403 ≤ 3
noncomputable def qb_cV (r : Nat → Int) : Int := wq_R r (r 403).toNat 0 (r 402).toNat (r 75).toNat
theorem qb_cM {n : Nat} (hn : 4 ≤ n) : pt_Met (n + 1) 249 qbY [wa_r 264, wa_i 402, wa_i 403] (fun r _ => qb_cP r) (wq_pu 401 qb_cV) 1 := by
  refine pt_intro (L0 := [wa_r 264, wa_i 402, wa_i 403, wa_u, wa_u]) (wq_b0 249 (by decide)).2 hn qbsys (by
    rw [qb_c_is.2]
    rfl) (fun P r M h hp => ?_)
  have h' := h
  obtain ⟨hseg, henv, hrel, -⟩ := h'
  refine henv _ _ _ _ _ (fun hE _ => ?_)
  have h0 : r 0 = 0 := hE.1
  obtain ⟨⟨x1, x2⟩, q1, q2⟩ := hp
  obtain ⟨q, eq⟩ : ∃ q : Nat, r 403 = (q : Int) := ⟨(r 403).toNat, by omega⟩
  obtain ⟨x, ex⟩ : ∃ x : Nat, r 402 = (x : Int) := ⟨(r 402).toNat, by omega⟩
  have bm : 0 ≤ r 75 ∧ r 75 ≤ 4 := (hE.2.2.2.1 (75, (0, 4)) (by decide +kernel)).2
  obtain ⟨mc, em⟩ : ∃ mc : Nat, r 75 = (mc : Int) := ⟨(r 75).toNat, by omega⟩
  have ev : qb_cV r = wq_R r q 0 x mc := by
    unfold qb_cV
    rw [eq, ex, em]
    rfl
  refine hrel (0, 0, 0) _ [wa_r 264, wa_i 402, wa_k q, wa_u, wa_u] _ [] r M ⟨rfl, ⟨by show 402 < 501; omega, rfl⟩, ⟨by show 0 < 501; omega, by show r 403 + 0 = r 0 + (q : Int); rw [h0, eq]; omega⟩, trivial, trivial, trivial⟩ trivial ?_
  have c := List.all_eq_true.mp qb_c_i q (List.mem_range.mpr (by omega))
  refine hseg _ _ _ _ _ r M _ _ _ _ _ c ⟨pt_m0, pt_m0, pt_m0⟩ ⟨fun _ => ?_, trivial⟩
  obtain ⟨r', hr'⟩ : ∃ r', r' = pt_up r [(404, wq_k 0)] := ⟨_, rfl⟩
  have rs : r' 404 = 0 := by
    rw [hr']
    rfl
  have rn : ∀ t, t ≠ 404 → r' t = r t := fun t ht => by
    rw [hr']
    exact if_neg ht
  have low : ∀ t, t < 401 → r' t = r t := fun t ht => rn t (by omega)
  show P (5, 0, 0) (qb_cL q 0) [] (pt_up r [(404, wq_k 0)]) M
  rw [← hr']
  refine henv _ _ _ _ _ (fun hE2 _ => ?_)
  refine qb_c_loop h (q := q) (x := x) (mc := mc) (by omega) (by omega) (by omega) mc 0 r' (by omega) hE2 ((rn _ (by omega)).trans ex) ((low _ (by omega)).trans em) (by rw [rs]; rfl) (fun r2 h2 => ⟨?_, rfl, fun t ht => (h2 t ht).trans (low t ht)⟩)
  rw [ev, wq_R_c (fun t ht => low t (by omega)) (by omega) (by omega)]
noncomputable def qb_sP (r : Nat → Int) : Prop := (0 ≤ r 402 ∧ r 402 ≤ 15) ∧ 0 ≤ r 403 ∧ r 403 ≤ 3
noncomputable def qb_sV (r : Nat → Int) : Int := wq_S r (r 403).toNat 0 (r 402).toNat (r 73).toNat
theorem qb_sM {n : Nat} (hn : 4 ≤ n) : pt_Met (n + 1) 250 qbY [wa_r 264, wa_i 402, wa_i 403] (fun r _ => qb_sP r) (wq_pu 401 qb_sV) 1 := by
  refine pt_intro (L0 := [wa_r 264, wa_i 402, wa_i 403, wa_u, wa_u]) (wq_b0 250 (by decide)).2 hn qbsys (by
    rw [qb_s_is.2]
    rfl) (fun P r M h hp => ?_)
  have h' := h
  obtain ⟨hseg, henv, hrel, -⟩ := h'
  refine henv _ _ _ _ _ (fun hE _ => ?_)
  have h0 : r 0 = 0 := hE.1
  obtain ⟨⟨x1, x2⟩, q1, q2⟩ := hp
  obtain ⟨q, eq⟩ : ∃ q : Nat, r 403 = (q : Int) := ⟨(r 403).toNat, by omega⟩
  obtain ⟨x, ex⟩ : ∃ x : Nat, r 402 = (x : Int) := ⟨(r 402).toNat, by omega⟩
  have bm : 0 ≤ r 73 ∧ r 73 ≤ 4 := (hE.2.2.2.1 (73, (0, 4)) (by decide +kernel)).2
  obtain ⟨mc, em⟩ : ∃ mc : Nat, r 73 = (mc : Int) := ⟨(r 73).toNat, by omega⟩
  have ev : qb_sV r = wq_S r q 0 x mc := by
    unfold qb_sV
    rw [eq, ex, em]
    rfl
  refine hrel (0, 0, 0) _ [wa_r 264, wa_i 402, wa_k q, wa_u, wa_u] _ [] r M ⟨rfl, ⟨by show 402 < 501; omega, rfl⟩, ⟨by show 0 < 501; omega, by show r 403 + 0 = r 0 + (q : Int); rw [h0, eq]; omega⟩, trivial, trivial, trivial⟩ trivial ?_
  have c := List.all_eq_true.mp qb_s_i q (List.mem_range.mpr (by omega))
  refine hseg _ _ _ _ _ r M _ _ _ _ _ c ⟨pt_m0, pt_m0, pt_m0⟩ ⟨fun _ => ?_, trivial⟩
  obtain ⟨r', hr'⟩ : ∃ r', r' = pt_up r [(404, wq_k 0)] := ⟨_, rfl⟩
  have rs : r' 404 = 0 := by
    rw [hr']
    rfl
  have rn : ∀ t, t ≠ 404 → r' t = r t := fun t ht => by
    rw [hr']
    exact if_neg ht
  have low : ∀ t, t < 401 → r' t = r t := fun t ht => rn t (by omega)
  show P (5, 0, 0) (qb_sL q 0) [] (pt_up r [(404, wq_k 0)]) M
  rw [← hr']
  refine henv _ _ _ _ _ (fun hE2 _ => ?_)
  refine qb_s_loop h (q := q) (x := x) (mc := mc) (by omega) (by omega) (by omega) mc 0 r' (by omega) hE2 ((rn _ (by omega)).trans ex) ((low _ (by omega)).trans em) (by rw [rs]; rfl) (fun r2 h2 => ⟨?_, rfl, fun t ht => (h2 t ht).trans (low t ht)⟩)
  rw [ev, wq_S_c (fun t ht => low t (by omega)) (by omega) (by omega)]
noncomputable def qa_cP (r : Nat → Int) : Prop := (0 ≤ r 403 ∧ r 403 ≤ 4095) ∧ 0 ≤ r 70 ∧ r 70 ≤ 3
noncomputable def qa_cV (r : Nat → Int) : Int := wq_R r (r 70).toNat 4 (r 403).toNat (r 75).toNat
theorem qa_cM {n : Nat} (hn : 4 ≤ n) : pt_Met (n + 1) 125 qaY [wa_r 198, wa_i 403] (fun r _ => qa_cP r) (wq_pu 402 qa_cV) 1 := by
  refine pt_intro (L0 := [wa_r 198, wa_i 403, wa_u, wa_u]) (wq_b0 125 (by decide)).2 hn qasys (by
    rw [qa_c_is.2]
    rfl) (fun P r M h hp => ?_)
  have h' := h
  obtain ⟨hseg, henv, hrel, -⟩ := h'
  refine henv _ _ _ _ _ (fun hE _ => ?_)
  have h0 : r 0 = 0 := hE.1
  obtain ⟨⟨x1, x2⟩, q1, q2⟩ := hp
  obtain ⟨q, eq⟩ : ∃ q : Nat, r 70 = (q : Int) := ⟨(r 70).toNat, by omega⟩
  obtain ⟨x, ex⟩ : ∃ x : Nat, r 403 = (x : Int) := ⟨(r 403).toNat, by omega⟩
  have bm : 0 ≤ r 75 ∧ r 75 ≤ 4 := (hE.2.2.2.1 (75, (0, 4)) (by decide +kernel)).2
  obtain ⟨mc, em⟩ : ∃ mc : Nat, r 75 = (mc : Int) := ⟨(r 75).toNat, by omega⟩
  have ev : qa_cV r = wq_R r q 4 x mc := by
    unfold qa_cV
    rw [eq, ex, em]
    rfl
  have c := List.all_eq_true.mp qa_c_i q (List.mem_range.mpr (by omega))
  refine hseg _ _ _ _ _ r M _ _ _ _ _ c ⟨pt_m0, pt_m0, pt_m0⟩ ⟨fun _ => ?_, trivial⟩
  obtain ⟨r', hr'⟩ : ∃ r', r' = pt_up r [(404, wq_k 0)] := ⟨_, rfl⟩
  have rs : r' 404 = 0 := by
    rw [hr']
    rfl
  have rn : ∀ t, t ≠ 404 → r' t = r t := fun t ht => by
    rw [hr']
    exact if_neg ht
  have low : ∀ t, t < 402 → r' t = r t := fun t ht => rn t (by omega)
  show P (4, 0, 0) (qa_cL q 0) [] (pt_up r [(404, wq_k 0)]) M
  rw [← hr']
  refine henv _ _ _ _ _ (fun hE2 _ => ?_)
  refine qa_c_loop h (q := q) (x := x) (mc := mc) (by omega) (by omega) (by omega) mc 0 r' (by omega) hE2 ((rn _ (by omega)).trans ex) ⟨(low _ (by omega)).trans em, (low _ (by omega)).trans eq⟩ (by rw [rs]; rfl) (fun r2 h2 => ⟨?_, rfl, fun t ht => (h2 t ht).trans (low t ht)⟩)
  rw [ev, wq_R_c (fun t ht => low t (by omega)) (by omega) (by omega)]
noncomputable def qa_sP (r : Nat → Int) : Prop := (0 ≤ r 403 ∧ r 403 ≤ 4095) ∧ 0 ≤ r 70 ∧ r 70 ≤ 3
noncomputable def qa_sV (r : Nat → Int) : Int := wq_S r (r 70).toNat 8 (r 403).toNat 4
theorem qa_sM {n : Nat} (hn : 4 ≤ n) : pt_Met (n + 1) 126 qaY [wa_r 198, wa_i 403] (fun r _ => qa_sP r) (wq_pu 402 qa_sV) 1 := by
  refine pt_intro (L0 := [wa_r 198, wa_i 403, wa_u, wa_u]) (wq_b0 126 (by decide)).2 hn qasys (by
    rw [qa_s_is.2]
    rfl) (fun P r M h hp => ?_)
  have h' := h
  obtain ⟨hseg, henv, hrel, -⟩ := h'
  refine henv _ _ _ _ _ (fun hE _ => ?_)
  have h0 : r 0 = 0 := hE.1
  obtain ⟨⟨x1, x2⟩, q1, q2⟩ := hp
  obtain ⟨q, eq⟩ : ∃ q : Nat, r 70 = (q : Int) := ⟨(r 70).toNat, by omega⟩
  obtain ⟨x, ex⟩ : ∃ x : Nat, r 403 = (x : Int) := ⟨(r 403).toNat, by omega⟩
  have ev : qa_sV r = wq_S r q 8 x 4 := by
    unfold qa_sV
    rw [eq, ex]
    rfl
  have c := List.all_eq_true.mp qa_s_i q (List.mem_range.mpr (by omega))
  refine hseg _ _ _ _ _ r M _ _ _ _ _ c ⟨pt_m0, pt_m0, pt_m0⟩ ⟨fun _ => ?_, trivial⟩
  obtain ⟨r', hr'⟩ : ∃ r', r' = pt_up r [(404, wq_k 0)] := ⟨_, rfl⟩
  have rs : r' 404 = 0 := by
    rw [hr']
    rfl
  have rn : ∀ t, t ≠ 404 → r' t = r t := fun t ht => by
    rw [hr']
    exact if_neg ht
  have low : ∀ t, t < 402 → r' t = r t := fun t ht => rn t (by omega)
  show P (4, 0, 0) (qa_sL q 0) [] (pt_up r [(404, wq_k 0)]) M
  rw [← hr']
  refine henv _ _ _ _ _ (fun hE2 _ => ?_)
  refine qa_s_loop h (q := q) (x := x) (mc := 4) (by omega) (by omega) rfl 4 0 r' (by omega) hE2 ((rn _ (by omega)).trans ex) ⟨trivial, (low _ (by omega)).trans eq⟩ (by rw [rs]; rfl) (fun r2 h2 => ⟨?_, rfl, fun t ht => (h2 t ht).trans (low t ht)⟩)
  rw [ev, wq_S_c (fun t ht => low t (by omega)) (by omega) (by omega)]
