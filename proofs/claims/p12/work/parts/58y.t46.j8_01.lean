/-! TEXTS (the class): LM.offer -/
noncomputable def of_L (v : Nat) (u : ai_V) : List ai_V := [wa_r 16, wa_k v, wa_i 393, u]
noncomputable abbrev of_r (v : Nat) (st : List Nat) (sk : Bool) (pc : Nat) (u : ai_V) (S : List ai_V) (cp : List (Nat × Int × Int)) (le : List (ai_X × ai_X)) (pc2 : Nat) (u2 : ai_V) (S2 : List ai_V) (W : List (Nat × pt_X)) : Bool := pt_row gcY 141 st sk (pc, 0, 0) (of_L v u) S [] cp le [] [((pc2, 0, 0), (of_L v u2, S2), W, [])]
theorem of_c : (List.range 4).all (fun v => (of_r v [44] true 0 wa_u [] [(393, (0, 200)), (73, (.ofNat (v + 1), 4))] [((393, 0), (75, 0))] 44 wa_u [wa_i 393, wa_r 84] [] && of_r v [77, 81] false 47 wa_u [wa_i 471] [(471, (1, 3))] [] 81 wa_u [wa_i 471] []) && (of_r v [77, 81] false 47 wa_u [wa_i 471] [(471, (0, 0))] [] 77 (wa_i 394) [wa_i 37, wa_r 85, wa_r (46 + 6 * v)] [(394, gz_p 471)] && of_r v [81] false 80 (wa_i 394) [] [] [] 81 wa_u [wa_i 394] [])) = true := by decide +kernel
theorem of_k : (List.range 4).all (fun v => (cy_vk 141 44 88 gcY.2.1 [wa_i 393, wa_r 84] [wa_r 84, wa_i 393] [] && pt_cck gcY 141 88 (44, 0, 0) 1 471 (of_L v wa_u) [] [wa_r 84, wa_i 393] [wa_r 84, wa_i 392]) && (cy_vk 141 77 63 gcY.2.1 [wa_i 37, wa_r 85, wa_r (46 + 6 * v)] [wa_r (46 + 6 * v), wa_r 85, wa_i 37] [] && pt_cck gcY 141 63 (77, 0, 0) 0 471 (of_L v (wa_i 394)) [] [wa_r (46 + 6 * v), wa_r 85, wa_i 37] [wa_r (46 + 6 * v), wa_r 85, wa_i 392])) = true := by decide +kernel
theorem of_l : (pt_is 5 141 81 = true ∧ pt_is 5 263 22 = true) ∧ ((ct_mt 141).2.2.1 = 4 ∧ (ct_mt 263).2.2.1 = 5) ∧ (ct_bud 141 = (1, 6) ∧ ct_bud 263 = (1, 6)) ∧ lh_plain 141 = true ∧ lh_plain 263 = true := by decide +kernel
theorem of_bd : (73, ((0 : Int), (4 : Int))) ∈ gcE.2.1 ∧ (37, ((0 : Int), (200 : Int))) ∈ gcE.2.1 := by decide +kernel
noncomputable def of_P (v : Nat) (A : Nat → Int) (N : Nat) (r : Nat → Int) (M : Nat → Nat → Int) : Prop := ((r 392 = (v : Int) ∧ v < 4 ∧ (v : Int) + 1 ≤ r 73) ∧ r 393 = (N : Int) ∧ (N : Int) ≤ r 75) ∧ ps_A A N ∧ ∀ j, j < N → M 86 j = A j
noncomputable def of_F (v : Nat) (A : Nat → Int) (N : Nat) (r : Nat → Int) (M : Nat → Nat → Int) (r2 : Nat → Int) (M2 : Nat → Nat → Int) : Prop := (r2 75 = 0 ∧ r2 85 = (ps_read A N).2.2.2 ∧ 0 ≤ (ps_read A N).2.2.1 ∧ (ps_read A N).2.2.1 ≤ 3) ∧ ((ps_read A N).2.2.1 ≠ 0 → r2 (11 + 8 * v) = r (11 + 8 * v) ∧ M2 (47 + 6 * v) = M (47 + 6 * v)) ∧ ((ps_read A N).2.2.1 = 0 → r2 (11 + 8 * v) = ((ps_read A N).2.1.length : Int) ∧ (ps_read A N).2.1.length ≤ 200 ∧ ∀ j, M2 (47 + 6 * v) j = if j < (ps_read A N).2.1.length then (ps_read A N).2.1.getD j 0 else M (47 + 6 * v) j) ∧ ∀ z, z ≠ 85 → z ≠ 47 + 6 * v → M2 z = M z
noncomputable def of_Q (v : Nat) (A : Nat → Int) (N : Nat) (r : Nat → Int) (M : Nat → Nat → Int) (r2 : Nat → Int) (M2 : Nat → Nat → Int) (o : Option Int) : Prop := o = some (ps_read A N).2.2.1 ∧ of_F v A N r M r2 M2 ∧ ∀ t, t < 391 → of_p t = false → t ≠ 11 + 8 * v → r2 t = r t
set_option maxHeartbeats 1000000 in
theorem of_M {n v N : Nat} {A : Nat → Int} (hn : 61 ≤ n) : pt_Met (n + 1 + 1) 141 gcY [wa_r 16, wa_i 392, wa_i 393] (of_P v A N) (of_Q v A N) 1 := by
  refine pt_intro (L0 := [wa_r 16, wa_i 392, wa_i 393, wa_u]) of_l.2.2.2.1 (by omega) gcsys (by
    rw [of_l.2.1.1]
    rfl) (fun P r M h hp => ?_)
  obtain ⟨hseg, henv, hrel, -, -, -, -, -, hcall, -, hret, -, -, -⟩ := h
  refine henv _ _ _ _ _ (fun hE _ => ?_)
  have h0 : r 0 = 0 := hE.1
  obtain ⟨⟨⟨p1, p2, p3⟩, p4, p5⟩, pA, pM⟩ := hp
  have bM := (hE.2.2.2.1 _ of_bd.1).2
  have bM : (0 : Int) ≤ r 73 ∧ r 73 ≤ 4 := bM
  have cc := List.all_eq_true.mp of_c v (List.mem_range.mpr p2)
  simp only [Bool.and_eq_true] at cc
  obtain ⟨⟨c1, c2⟩, c3, c4⟩ := cc
  have ck := List.all_eq_true.mp of_k v (List.mem_range.mpr p2)
  simp only [Bool.and_eq_true] at ck
  obtain ⟨⟨k1, k2⟩, k3, k4⟩ := ck
  have N200 := pA.1
  refine hrel (0, 0, 0) _ (of_L v wa_u) [] [] r M ⟨rfl, ⟨by show 0 < 491; omega, by show r 392 + 0 = r 0 + (v : Int); omega⟩, ⟨by show 393 < 491; omega, rfl⟩, trivial, trivial⟩ trivial ?_
  refine hseg _ _ _ _ _ r M _ _ _ _ _ c1 ⟨pt_m0, pt_m2 ⟨by show (0 : Int) ≤ r 393; omega, by show r 393 ≤ 200; omega⟩ ⟨by show ((v + 1 : Nat) : Int) ≤ r 73; omega, bM.2⟩, pt_m1 (by show r 393 + 0 ≤ r 75 + 0; omega)⟩ ⟨fun _ => ?_, trivial⟩
  obtain ⟨ra, hra⟩ : ∃ ra, ra = pt_up r (pt_wc [wa_r 84, wa_i 393] [wa_r 84, wa_i 392]) := ⟨_, rfl⟩
  have va : ∀ t, ra t = if t = 392 then r 393 else r t := fun t => by
    rw [hra]
    rfl
  refine hcall (44, 0, 0) _ _ _ _ _ r M 88 1 471 _ _ (ga_b0 88 (by decide)).2 k1 k2 (pl_met gasys gcsys of_hp of_ck (ga_rdM (A := A) (N := N) hn)) (by
    rw [← hra]
    exact ⟨(va 392).trans ((if_pos rfl).trans p4), pA, pM⟩) (fun r2 M2 o hq => ?_)
  rw [← hra] at hq
  obtain ⟨rc, rs⟩ := wa_rm (n := n + 1) (ga_b0 88 (by decide)).1
  rw [rc, rs]
  obtain ⟨rb, Mb, ⟨rfl, ⟨q1, q2⟩, q3, q4⟩, qE, f1, f0, g1, g0⟩ := hq
  have g6 : M2 86 = Mb 86 := g1 (86, 200, 0) (by decide)
  have g5 : M2 85 = Mb 85 := g1 (85, 200, 0) (by decide)
  have gz : ∀ z, z ≠ 85 → M2 z = M z := fun z a => by
    by_cases b : z = 86
    · rw [b, g6]
      exact q4 86 (by omega)
    · exact g0 z (fun g hg => by
        have hg : g ∈ [(85, 200, 0), (86, 200, 0)] := hg
        simp only [List.mem_cons, List.not_mem_nil, or_false] at hg
        rcases hg with rfl | rfl
        · exact fun e => a e.symm
        · exact fun e => b e.symm)
  obtain ⟨r4, hr4⟩ : ∃ r4, r4 = pt_mrg 391 r r2 471 (some (ps_read A N).2.2.1) := ⟨_, rfl⟩
  show P (47, 0, 0) (of_L v wa_u) [wa_i 471] (pt_mrg 391 r r2 471 (some (ps_read A N).2.2.1)) M2
  rw [← hr4]
  have lo4 : ∀ t, t < 391 → r4 t = r2 t := fun t ht => by
    rw [hr4]
    exact wa_mlt ht
  have z4 : r4 471 = (ps_read A N).2.2.1 := by
    rw [hr4]
    exact wa_mz (by omega)
  have pl : ∀ t, of_p t = true → t < 391 := fun t ht => by
    have := of_p_of ht
    omega
  have R4 : ga_R A N (ps_read A N) r4 M2 := of_R_c (fun t ht => (lo4 t (pl t ht)).trans (f1 t ht)) g5 g6 q1
  have fr4 : ∀ t, t < 391 → of_p t = false → r4 t = r t := fun t a b => by
    rw [lo4 t a, f0 t b, va, if_neg (by omega)]
  have by4 : r4 75 = 0 := (lo4 _ (by omega)).trans ((f1 _ (of_p_in (by omega))).trans q3)
  obtain ⟨e0, e3⟩ := R4.2.1.2.2
  have noc : of_p (11 + 8 * v) = false := by
    rw [Bool.eq_false_iff]
    intro w
    have := of_p_of w
    omega
  by_cases w : (ps_read A N).2.2.1 = 0
  · obtain ⟨-, a5, a6⟩ := R4.2.2 w
    have z := q2 w
    have zl := pA.1
    have l200 : (ps_read A N).2.1.length ≤ 200 := by omega
    refine hseg _ _ _ _ _ r4 M2 _ _ _ _ _ c3 ⟨pt_m0, pt_m1 ⟨by show (0 : Int) ≤ r4 471; omega, by show r4 471 ≤ 0; omega⟩, pt_m0⟩ ⟨fun _ => ?_, trivial⟩
    obtain ⟨r5, hr5⟩ : ∃ r5, r5 = pt_up r4 [(394, gz_p 471)] := ⟨_, rfl⟩
    show P (77, 0, 0) (of_L v (wa_i 394)) [wa_i 37, wa_r 85, wa_r (46 + 6 * v)] (pt_up r4 [(394, gz_p 471)]) M2
    rw [← hr5]
    have n5 : ∀ t, t ≠ 394 → r5 t = r4 t := fun t x => by
      rw [hr5]
      exact if_neg x
    have s5 : r5 394 = 0 := by
      rw [hr5]
      exact z4.trans w
    obtain ⟨r6, hr6⟩ : ∃ r6, r6 = pt_up r5 (pt_wc [wa_r (46 + 6 * v), wa_r 85, wa_i 37] [wa_r (46 + 6 * v), wa_r 85, wa_i 392]) := ⟨_, rfl⟩
    have v6 : ∀ t, r6 t = if t = 392 then r5 37 else r5 t := fun t => by
      rw [hr6]
      rfl
    refine hcall (77, 0, 0) _ _ _ _ _ r5 M2 63 0 471 _ _ ln_k.2.2.2.2 k3 k4 (ln_M (n := n) (v := v) (c := (ps_read A N).2.1.length) (by omega) p2 l200) (by
      rw [← hr6]
      show r6 392 = _
      rw [v6, if_pos rfl, n5 _ (by omega)]
      exact a5) (fun r7 M7 o hq => ?_)
    rw [← hr6] at hq
    obtain ⟨rc, rs⟩ := wa_rm (n := n + 1) ln_k.2.2.2.1
    rw [rc, rs]
    obtain ⟨rfl, y1, y2, rfl⟩ := hq
    obtain ⟨r8, hr8⟩ : ∃ r8, r8 = pt_mrg 391 r5 r7 471 none := ⟨_, rfl⟩
    show P (80, 0, 0) (of_L v (wa_i 394)) [] (pt_mrg 391 r5 r7 471 none) _
    rw [← hr8]
    have lo8 : ∀ t, t < 391 → r8 t = r7 t := fun t ht => by
      rw [hr8]
      exact wa_mlt ht
    have s8 : r8 394 = 0 := by
      rw [hr8]
      exact (if_neg (by omega)).trans s5
    have f8 : ∀ t, t < 391 → t ≠ 11 + 8 * v → r8 t = r4 t := fun t a b => by
      rw [lo8 t a, y2 t a b, v6, if_neg (by omega), n5 t (by omega)]
    refine hseg _ _ _ _ _ r8 _ _ _ _ _ _ c4 ⟨pt_m0, pt_m0, pt_m0⟩ ⟨fun _ => ?_, trivial⟩
    show P (81, 0, 0) (of_L v wa_u) [wa_i 394] r8 _
    refine hret (81, 0, 0) _ (394, 0) r8 _ rfl of_l.1.1 (by decide +kernel) (by decide +kernel) ⟨congrArg some ?_, ⟨⟨(f8 _ (by omega) (by omega)).trans by4, (f8 _ (by omega) (by omega)).trans R4.2.1.2.1, e0, e3⟩, fun q => absurd w q, fun _ => ⟨(lo8 _ (by omega)).trans y1, l200, fun j => ?_⟩, fun z a b => ?_⟩, fun t a b x => (f8 t a x).trans (fr4 t a b)⟩
    · show r8 394 + 0 = _
      rw [s8, w]
      rfl
    · show (if 47 + 6 * v = 47 + 6 * v ∧ j < (ps_read A N).2.1.length then M2 85 j else M2 (47 + 6 * v) j) = _
      by_cases y : j < (ps_read A N).2.1.length
      · rw [if_pos ⟨rfl, y⟩, if_pos y]
        exact a6 j y
      · rw [if_neg (fun z => y z.2), if_neg y, gz _ (by omega)]
    · rw [← gz z a]
      funext x
      exact if_neg (fun q => b q.1)
  · refine hseg _ _ _ _ _ r4 M2 _ _ _ _ _ c2 ⟨pt_m0, pt_m1 ⟨by show (1 : Int) ≤ r4 471; omega, by show r4 471 ≤ 3; omega⟩, pt_m0⟩ ⟨fun _ => ?_, trivial⟩
    show P (81, 0, 0) (of_L v wa_u) [wa_i 471] r4 M2
    refine hret (81, 0, 0) _ (471, 0) r4 M2 rfl of_l.1.1 (by decide +kernel) (by decide +kernel) ⟨congrArg some ?_, ⟨⟨by4, R4.2.1.2.1, e0, e3⟩, fun _ => ⟨fr4 _ (by omega) noc, gz _ (by omega)⟩, fun q => absurd q w, fun z a _ => gz z a⟩, fun t a b _ => fr4 t a b⟩
    show r4 471 + 0 = _
    rw [z4, Int.add_zero]
