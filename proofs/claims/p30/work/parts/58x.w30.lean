/-! WAY: seek's contract (the class) -/
theorem wm_TT {T T' : Nat → Nat → Option Nat} {V V' : Nat → Prop} (hT : ∀ s a, a < 13 → T' s a = T s a) (hV : ∀ s, V' s ↔ V s) (h : wm_T T V) : wm_T T' V' := ⟨(hV 0).mpr h.1, fun s a t h1 h2 h3 => by
  obtain ⟨a1, a2, a3⟩ := h.2 s a t h1 h2 (by rw [← hT s a h2]; exact h3)
  exact ⟨a1, a2, fun w => (hV t).mpr (a3 ((hV s).mp w))⟩⟩
theorem wm_GT {T T' : Nat → Nat → Option Nat} {F : Nat → Int} {N : Nat} {σ α : Nat → Nat} (hT : ∀ s a, a < 13 → T' s a = T s a) (h : wm_G T F N σ α) : wm_G T' F N σ α := fun m hm => by
  obtain ⟨h1, h2, h3, h4⟩ := h m hm
  exact ⟨h1, by rw [hT _ _ h1]; exact h2, h3, fun a t ha ht => h4 a t ha (by rw [← hT _ _ (by omega)]; exact ht)⟩
/-- what both sides speak of: the distances F, the row's states σ and acts α -/
noncomputable def wq_H (r : Nat → Int) (q N : Nat) (F : Nat → Int) (σ α : Nat → Nat) : Prop := (wq_ok r ∧ q < 4) ∧ wm_T (wq_T r q) (wq_V r) ∧ (¬ wq_fin r 0 → wq_pl r) ∧ wm_F (wq_T r q) (wq_fin r) F ∧ (F 0 = -1 ∨ F 0 = (N : Int)) ∧ (F 0 = (N : Int) → N ≤ 12 ∧ σ 0 = 0 ∧ wm_G (wq_T r q) F N σ α ∧ ∀ k, k ≤ N → σ k < 4096)
theorem wq_H_c {r r2 : Nat → Int} (low : ∀ t, (t = 73 ∨ t = 74 ∨ t = 75 ∨ (115 ≤ t ∧ t < 125) ∨ (135 ≤ t ∧ t < 139) ∨ (139 ≤ t ∧ t < 143) ∨ (147 ≤ t ∧ t < 151) ∨ (171 ≤ t ∧ t < 203) ∨ (371 ≤ t ∧ t < 379)) → r2 t = r t) {q N : Nat} {F : Nat → Int} {σ α : Nat → Nat} (h : wq_H r q N F σ α) : wq_H r2 q N F σ α := by
  obtain ⟨⟨o, hq⟩, h1, h2, h3, h4, h5⟩ := h
  have tT : ∀ s a, a < 13 → wq_T r2 q s a = wq_T r q s a := fun s a ha => wq_T_c low hq ha o
  have ePL : r2 73 = r 73 := low _ (by omega)
  have fF : ∀ s, wq_fin r2 s ↔ wq_fin r s := fun s => by
    unfold wq_fin
    rw [ePL]
  refine ⟨⟨wq_ok_c low o, hq⟩, wm_TT tT (fun s => ⟨fun v => wq_V_c ePL.symm v, fun v => wq_V_c ePL v⟩) h1, fun w => ?_, wm_FT tT fF h3, h4, fun e => ?_⟩
  · obtain ⟨pa, pb⟩ := h2 (fun z => w ((fF 0).mpr z))
    refine ⟨fun x hx => ?_, fun x hx => ?_⟩
    · rw [low (135 + x) (by omega), ePL]
      exact pa x hx
    · rw [low (115 + x) (by omega), low (120 + x) (by omega), ePL]
      exact pb x hx
  · obtain ⟨a1, a2, a3, a4⟩ := h5 e
    exact ⟨a1, a2, wm_GT tT a3, a4⟩
noncomputable def qa_kP (q N : Nat) (F : Nat → Int) (σ α : Nat → Nat) (r : Nat → Int) (_ : Nat → Nat → Int) : Prop := r 403 = (q : Int) ∧ wq_H r q N F σ α
noncomputable def qa_kR (N : Nat) (F : Nat → Int) (α : Nat → Nat) (LE : Nat) (row : Nat) (r : Nat → Int) (M : Nat → Nat → Int) (r2 : Nat → Int) (M2 : Nat → Nat → Int) (o : Option Int) : Prop := (F 0 = -1 ∧ o = some (-1) ∧ r2 LE = r LE ∧ M2 row = M row) ∨ (F 0 = (N : Int) ∧ o = some (N : Int) ∧ r2 LE = (N : Int) ∧ M2 row = fun x => if x < N then (α x : Int) else M row x)
noncomputable def qa_kQ (N : Nat) (F : Nat → Int) (α : Nat → Nat) (r : Nat → Int) (M : Nat → Nat → Int) (r2 : Nat → Int) (M2 : Nat → Nat → Int) (o : Option Int) : Prop := (∀ t, t < 402 → t ≠ 71 → t ≠ 69 → t ≠ 70 → r2 t = r t) ∧ (∀ z, z ≠ 199 → z ≠ 200 → z ≠ 201 → M2 z = M z) ∧ qa_kR N F α 69 199 r M r2 M2 o
theorem qa_kM {m q N : Nat} {F : Nat → Int} {σ α : Nat → Nat} (hm : 4 ≤ m) : pt_Met (m + 1 + 1 + 1 + 1 + 1) 119 qaY [wa_r 198, wa_i 403] (qa_kP q N F σ α) (qa_kQ N F α) 1 := by
  refine pt_intro (L0 := qa_k0) (wq_b0 119 (by decide)).2 (by omega) qasys (by
    rw [qa_k_l.2.2.2.2.2]
    rfl) (fun P r M h hp => ?_)
  have h' := h
  obtain ⟨hseg, henv, -, -, -, -, hst, -, -, hscall, -, -, -, -⟩ := h'
  obtain ⟨c1, c2, c3, c4⟩ := qa_k_c1
  refine henv _ _ _ _ _ (fun hE _ => ?_)
  have h0 : r 0 = 0 := hE.1
  obtain ⟨p1, p2⟩ := hp
  refine hseg _ _ _ _ _ r M _ _ _ _ _ c1 ⟨pt_m0, pt_m0, pt_m0⟩ ⟨fun _ => ?_, trivial⟩
  obtain ⟨r1, hr1⟩ : ∃ r1, r1 = pt_up r [(70, wq_p 403)] := ⟨_, rfl⟩
  show P (10, 0, 0) qa_k0 [wa_n, wa_r 201] (pt_up r [(70, wq_p 403)]) M
  rw [← hr1]
  have n1 : ∀ t, t ≠ 70 → r1 t = r t := fun t ht => by
    rw [hr1]
    exact if_neg ht
  have q1 : r1 70 = (q : Int) := by
    rw [hr1]
    exact p1
  have ck := qa_k_k.1
  rw [Bool.and_eq_true] at ck
  obtain ⟨rc, hrc⟩ : ∃ rc, rc = pt_up r1 (pt_wc [wa_r 201, wa_n] [wa_r 201, wa_i 403]) := ⟨_, rfl⟩
  have rcl : ∀ t, t < 402 → rc t = r1 t := fun t ht => by
    rw [hrc]
    exact if_neg (show ¬ t = 403 by omega)
  have rca : rc 403 = -1 := by
    rw [hrc]
    rfl
  refine hscall (10, 0, 0) qa_k0 [wa_n, wa_r 201] [] [wa_r 201, wa_n] [wa_r 201, wa_i 403] r1 M 287 0 482 (fun _ _ => True) qa_fQ (wq_b0 287 (by decide)).2 ck.1 ck.2 qa_k_m (qa_fM (n := m + 1 + 1 + 1) (by omega)) trivial (fun r3 M3 v hQ => ?_)
  rw [← hrc] at hQ
  obtain ⟨rfl, J1, J2, J3⟩ := hQ
  rw [rca] at J2
  obtain ⟨cc, cs⟩ := wa_rm (n := m + 1 + 1 + 1 + 1) (wq_b0 287 (by decide)).1
  rw [cc, cs]
  obtain ⟨r4, hr4⟩ : ∃ r4, r4 = pt_mrg 402 r1 r3 482 none := ⟨_, rfl⟩
  show P (13, 0, 0) qa_k0 [] (pt_mrg 402 r1 r3 482 none) M3
  rw [← hr4]
  have l4 : ∀ t, t < 402 → r4 t = r1 t := fun t ht => by
    rw [hr4]
    exact (if_pos ht).trans ((J1 t ht).trans (rcl t ht))
  refine hseg _ _ _ _ _ r4 M3 _ _ _ _ _ c2 ⟨pt_m0, pt_m0, pt_m0⟩ ⟨fun _ => ?_, trivial⟩
  show P (19, 0, 0) qa_k0 [wa_k 0, wa_k 0, wa_r 201] r4 M3
  have v0 : ai_vx r4 (0, 0) = 0 := by
    show r4 0 + 0 = _
    rw [l4 0 (by omega), n1 0 (by omega), h0]
    rfl
  refine hst (19, 0, 0) _ [] r4 M3 201 4096 0 (0, 0) (0, 0) qa_k_l.1 (by omega) (by rw [v0]; rfl) ?_
  rw [v0]
  obtain ⟨M4, hM4⟩ : ∃ M4, M4 = pt_sto M3 201 0 0 := ⟨_, rfl⟩
  rw [← hM4]
  refine hseg _ _ _ _ _ r4 M4 _ _ _ _ _ c3 ⟨pt_m0, pt_m0, pt_m0⟩ ⟨fun _ => ?_, trivial⟩
  show P (26, 0, 0) qa_k0 [wa_k 0, wa_k 0, wa_r 200] r4 M4
  refine hst (26, 0, 0) _ [] r4 M4 200 4096 0 (0, 0) (0, 0) qa_k_l.2.1 (by omega) (by rw [v0]; rfl) ?_
  rw [v0]
  obtain ⟨M5, hM5⟩ : ∃ M5, M5 = pt_sto M4 200 0 0 := ⟨_, rfl⟩
  rw [← hM5]
  have m20 : M5 200 0 = 0 := by
    rw [hM5]
    exact if_pos ⟨rfl, rfl⟩
  have m21 : M5 201 = M4 201 := by
    rw [hM5]
    funext x
    exact if_neg (fun w => absurd w.1 (by decide))
  have mz : ∀ z, z ≠ 200 → z ≠ 201 → M5 z = M z := fun z h1 h2 => by
    rw [← J3 z h2, hM5, hM4]
    funext x
    exact (if_neg (fun w => h1 w.1)).trans (if_neg (fun w => h2 w.1))
  have b0 : M5 201 0 = 0 := by
    rw [m21, hM4]
    exact if_pos ⟨rfl, rfl⟩
  have b1 : ∀ s, s < 4096 → s ≠ 0 → M5 201 s = -1 := fun s h1 h2 => by
    rw [m21, hM4]
    exact (if_neg (fun w => h2 w.2)).trans (J2 s h1)
  have o := p2.1.1
  obtain ⟨pl, epl⟩ : ∃ pl : Nat, r 73 = (pl : Int) := ⟨(r 73).toNat, by have := o.2.2.2.2.1; omega⟩
  have epl4 : r4 73 = (pl : Int) := by rw [l4 _ (by omega), n1 _ (by omega), epl]
  have c4p := List.all_eq_true.mp c4 pl (List.mem_range.mpr (by have := o.2.2.2.2.1; omega))
  refine hseg _ _ _ _ _ r4 M5 _ _ _ _ _ c4p ⟨pt_m0, pt_m1 ⟨by show (pl : Int) ≤ r4 73; omega, by show r4 73 ≤ (pl : Int); omega⟩, pt_m0⟩ ⟨fun _ => ?_, trivial⟩
  obtain ⟨r5, hr5⟩ : ∃ r5, r5 = pt_up r4 [(71, wq_k 1), (404, wq_k (2 ^ pl - 1)), (405, wq_k ((2 ^ pl - 1) * 257)), (406, wq_k 0)] := ⟨_, rfl⟩
  show P (54, 0, 0) (qa_kL wa_u) [] (pt_up r4 [(71, wq_k 1), (404, wq_k (2 ^ pl - 1)), (405, wq_k ((2 ^ pl - 1) * 257)), (406, wq_k 0)]) M5
  rw [← hr5]
  have l5 : ∀ t, t < 402 → t ≠ 71 → r5 t = r4 t := fun t h1 h2 => by
    rw [hr5]
    show (if t = 71 then _ else if t = 404 then _ else if t = 405 then _ else if t = 406 then _ else r4 t) = r4 t
    rw [if_neg h2, if_neg (by omega), if_neg (by omega), if_neg (by omega)]
  have fr5 : ∀ t, t < 402 → t ≠ 71 → t ≠ 70 → r5 t = r t := fun t h1 h2 h3 => by rw [l5 t h1 h2, l4 t h1, n1 t h3]
  have fo5 : r5 71 = 1 := by
    rw [hr5]
    rfl
  have a35 : r5 405 = (((2 ^ pl - 1) * 257 : Nat) : Int) := by
    rw [hr5]
    rfl
  have a45 : r5 406 = 0 := by
    rw [hr5]
    rfl
  have H5 : wq_H r5 q N F σ α := wq_H_c (fun t ht => fr5 t (by omega) (by omega) (by omega)) p2
  obtain ⟨⟨o5, hq⟩, hT, hpl, hF, hN, hG⟩ := H5
  have epl5 : r5 73 = (pl : Int) := by rw [l5 _ (by omega) (by omega), epl4]
  refine qa_kloop (r0 := r5) (M0 := M5) (N := N) (F := F) (σ := σ) (α := α) h hm hq o5 hT hpl (by rw [l5 _ (by omega) (by omega), l4 _ (by omega), q1]) (by rw [fr5 0 (by omega) (by omega) (by omega), h0]) hF hG hN
    (fun r2 M2 e g1 g2 g3 => ?_) (fun r2 M2 e g1 g2 g3 => ?_) 4096 0 r5 M5 (by omega) ⟨1, fun _ => 0, fun _ => 0, fun _ => 0, ⟨fo5, fun j hj => ?_, wm_0 hT b0 b1 rfl⟩, ⟨by omega, fun k hk => absurd hk (by omega)⟩, fun _ _ _ => rfl, fun _ _ _ => rfl⟩ (by rw [epl5]; exact a35) a45
  · refine ⟨fun t h1 h2 h3 h4 => ?_, fun z h1 h2 h3 => (g1.2 z h1 h2 h3).trans (mz z h2 h3), Or.inl ⟨e, rfl, ?_, ?_⟩⟩
    · exact (g1.1 t h1 h2 h3).trans (fr5 t h1 h2 h4)
    · exact g2.trans (fr5 _ (by omega) (by omega) (by omega))
    · exact g3.trans (mz 199 (by decide) (by decide))
  · refine ⟨fun t h1 h2 h3 h4 => ?_, fun z h1 h2 h3 => (g1.2 z h1 h2 h3).trans (mz z h2 h3), Or.inr ⟨e, rfl, g2, ?_⟩⟩
    · exact (g1.1 t h1 h2 h3).trans (fr5 t h1 h2 h4)
    · rw [g3, mz 199 (by decide) (by decide)]
  · rw [show j = 0 by omega]
    exact m20
