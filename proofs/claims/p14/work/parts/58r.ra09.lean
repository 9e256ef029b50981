/-! LM.flow -/
noncomputable def ra_fc (l a b w : Nat) : List ai_V := [ra_16, .inl (0, .ofNat l), .inl (0, .ofNat a), .inl (0, .ofNat b), .inl (0, .ofNat w)]
noncomputable def ra_fd (l a b : Nat) : pt_X := [(0, 9 + 4 * l + a, 0), (0, 9 + 4 * l + b, 0), (2, 1, 0)]
theorem ra_w_c : (List.range 5).all (fun l => (List.range 4).all (fun a => (List.range 4).all (fun b => (List.range 2).all (fun w => pt_row raY 145 [74, 102] true (0, 0, 0) (ra_fc l a b w ++ [ra_u, ra_u, ra_u]) [] [] [(123, (.ofNat (l + 1), 5)), (122, (.ofNat (max a b + 1), 4))] [] []
  [((74, 0, 0), (ra_fc l a b w ++ [ra_i 330, ra_u, ra_u], [.inl (0, -1)]), [(330, ra_s 8)], [(0, ra_c 0, ra_s 8), (0, ra_s 8, ra_c 0)]), ((102, 0, 0), (ra_fc l a b w ++ [ra_i 330, ra_i 331, ra_u], [ra_i 405, ra_i 406]), [(330, ra_s 8), (331, ra_fd l a b), (405, ra_s 8), (406, ra_fd l a b)], [(1, ra_s 8, ra_c 0)])])))) = true := by decide +kernel
theorem ra_w_d : (List.range 5).all (fun l => (List.range 4).all (fun a => (List.range 4).all (fun b => pt_row raY 145 [113, 132] true (105, 0, 0) (ra_fc l a b 0 ++ [ra_i 330, ra_i 331, ra_u]) [ra_i 405] [] [(330, (-2000000, 2000000)), (331, (-2000000, 2000000)), (405, (1, 2000000))] [] [] [((132, 0, 0), (ra_fc l a b 0 ++ [ra_i 330, ra_i 331, ra_u], [ra_i 405]), [(405, [(0, 331, 0), (0, 405, 0), (2, 3, 0)])], [])]
  && pt_row raY 145 [113, 132] true (105, 0, 0) (ra_fc l a b 1 ++ [ra_i 330, ra_i 331, ra_u]) [ra_i 405] [] [(330, (-2000000, 2000000)), (331, (-2000000, 2000000)), (405, (1, 2000000))] [] [] [((132, 0, 0), (ra_fc l a b 1 ++ [ra_i 330, ra_i 331, ra_u], [ra_i 405]), [(405, [(0, 330, 0), (0, 405, 0), (2, 3, 0)])], [])]))) = true := by decide +kernel
noncomputable def ra_pt (r : Nat → Int) : Int := ai_op 1 (r (9 + 4 * (r 326).toNat + (r 327).toNat)) (r (9 + 4 * (r 326).toNat + (r 328).toNat))
noncomputable def ra_vP (r : Nat → Int) : Prop := (0 ≤ r 326 ∧ r 326 + 1 ≤ r 123) ∧ (0 ≤ r 327 ∧ r 327 + 1 ≤ r 122) ∧ (0 ≤ r 328 ∧ r 328 + 1 ≤ r 122) ∧ (0 ≤ r 329 ∧ r 329 ≤ 1) ∧ (-2000000 ≤ r 8 ∧ r 8 ≤ 2000000) ∧ (-2000000 ≤ ra_pt r ∧ ra_pt r ≤ 2000000)
noncomputable def ra_fv (r : Nat → Int) : Int := if r 8 = 0 then -1 else if r 329 = 0 then (ra_pt r).tdiv (Int.gcd (ra_pt r) (r 8) : Int) else (r 8).tdiv (Int.gcd (ra_pt r) (r 8) : Int)
noncomputable def ra_vQ (r : Nat → Int) (M : Nat → Nat → Int) (r2 : Nat → Int) (M2 : Nat → Nat → Int) (o : Option Int) : Prop := o = some (ra_fv r) ∧ M2 = M ∧ ∀ t, t < 325 → r2 t = r t
theorem ra_N0 : 0 < raY.1.1 := by decide +kernel
theorem ra_v_k : (List.range 5).all (fun l => (List.range 4).all (fun a => (List.range 4).all (fun b => (List.range 2).all (fun w => pt_sk 145 102 37 [ra_i 405, ra_i 406] [ra_i 406, ra_i 405] [] && pt_cck raY 145 37 (102, 0, 0) 1 405 (ra_fc l a b w ++ [ra_i 330, ra_i 331, ra_u]) [] [ra_i 406, ra_i 405] [ra_i 325, ra_i 326])))) = true := by decide +kernel
theorem ra_v_l : Cond.methodLink "LightsMarket" 232 (ct_mt 37).1 ∈ ft_W := by decide +kernel
theorem ra_v_x : ls_code 145 102 = some (.invokestatic 232, 3, 37, (ct_mt 37).2.2.2.2.2) ∧ (ct_mt 145).1.cls = "LightsMarket" := by decide +kernel
theorem ra_tdiv {x g : Int} (hx : -2000000 ≤ x ∧ x ≤ 2000000) : ai_op 3 x g = x.tdiv g := by
  have h := Int.natAbs_tdiv_le_natAbs x g
  exact ra_small (by omega)
theorem ra_flow {n : Nat} (hn : 6 ≤ n) : pt_Met (n + 1) 145 raY ra_nL (fun r _ => ra_vP r) ra_vQ 1 := by
  obtain ⟨n, rfl⟩ : ∃ m, n = m + 1 := ⟨n - 1, by omega⟩
  refine pt_intro (L0 := ra_nL ++ [ra_u, ra_u, ra_u]) ra_plx.2.2.2.2.2.2.1 (by omega) rasys (by
    have e : (ct_mt 145).2.2.1 = 8 := by decide +kernel
    rw [e]
    rfl) (fun P r M h hp => ?_)
  obtain ⟨hseg, henv, hrel, -, -, -, -, -, -, hcall, hret, -, -, -⟩ := h
  refine henv _ _ _ _ _ (fun hE _ => ?_)
  have h0 : r 0 = 0 := hE.1
  obtain ⟨⟨p1, p2⟩, ⟨p3, p4⟩, ⟨p5, p6⟩, ⟨p7, p8⟩, p9, p10⟩ := hp
  have bL := ra_eb hE ra_bnd.1
  have bP := ra_eb hE ra_bnd.2.1
  obtain ⟨l, hl⟩ : ∃ l : Nat, r 326 = (l : Int) := ⟨(r 326).toNat, by omega⟩
  obtain ⟨a, ha⟩ : ∃ a : Nat, r 327 = (a : Int) := ⟨(r 327).toNat, by omega⟩
  obtain ⟨b, hb⟩ : ∃ b : Nat, r 328 = (b : Int) := ⟨(r 328).toNat, by omega⟩
  obtain ⟨w, hw⟩ : ∃ w : Nat, r 329 = (w : Int) := ⟨(r 329).toNat, by omega⟩
  have hl5 : l < 5 := by omega
  have ha4 : a < 4 := by omega
  have hb4 : b < 4 := by omega
  have hw2 : w < 2 := by omega
  have ept : ra_pt r = ai_op 1 (r (9 + 4 * l + a)) (r (9 + 4 * l + b)) := by
    unfold ra_pt
    rw [hl, ha, hb]
    rfl
  have cn : ∀ (t k : Nat), r t = (k : Int) → pt_sv raY.1.1 r (ra_i t) (.inl (0, .ofNat k)) := fun t k hk => ⟨ra_N0, by
    show r t + 0 = r 0 + (k : Int)
    rw [hk, h0, Int.add_zero, Int.zero_add]⟩
  refine hrel _ _ (ra_fc l a b w ++ [ra_u, ra_u, ra_u]) _ [] _ _ ⟨rfl, cn _ _ hl, cn _ _ ha, cn _ _ hb, cn _ _ hw, trivial, trivial, trivial, trivial⟩ trivial ?_
  have row1 := List.all_eq_true.mp (List.all_eq_true.mp (List.all_eq_true.mp (List.all_eq_true.mp ra_w_c l (List.mem_range.mpr hl5)) a (List.mem_range.mpr ha4)) b (List.mem_range.mpr hb4)) w (List.mem_range.mpr hw2)
  have ck := List.all_eq_true.mp (List.all_eq_true.mp (List.all_eq_true.mp (List.all_eq_true.mp ra_v_k l (List.mem_range.mpr hl5)) a (List.mem_range.mpr ha4)) b (List.mem_range.mpr hb4)) w (List.mem_range.mpr hw2)
  rw [Bool.and_eq_true] at ck
  refine hseg _ _ _ _ _ _ _ _ _ _ _ _ row1 ⟨pt_m0, pt_m2 ⟨by show ((l + 1 : Nat) : Int) ≤ r 123; omega, bL.2⟩ ⟨by show ((max a b + 1 : Nat) : Int) ≤ r 122; omega, bP.2⟩, pt_m0⟩ ⟨fun g => ?_, fun g => ?_, trivial⟩
  · have g1 : 0 ≤ r 8 := g.1
    have g2 : r 8 ≤ 0 := g.2.1
    have e0 : r 8 = 0 := by omega
    refine hret (74, 0, 0) _ (0, -1) _ M rfl (by decide +kernel) (by decide +kernel) (by decide +kernel) ⟨congrArg some ?_, rfl, fun t ht => if_neg (by omega)⟩
    show r 0 + -1 = ra_fv r
    unfold ra_fv
    rw [if_pos e0, h0]
    rfl
  · have g1 : r 8 ≠ 0 := g.1
    obtain ⟨s1, hs1⟩ : ∃ s1, s1 = pt_up r [(330, ra_s 8), (331, ra_fd l a b), (405, ra_s 8), (406, ra_fd l a b)] := ⟨_, rfl⟩
    show P (102, 0, 0) (ra_fc l a b w ++ [ra_i 330, ra_i 331, ra_u]) [ra_i 405, ra_i 406] (pt_up r [(330, ra_s 8), (331, ra_fd l a b), (405, ra_s 8), (406, ra_fd l a b)]) M
    rw [← hs1]
    have e5 : s1 330 = r 8 := by rw [hs1]; rfl
    have e6 : s1 331 = ra_pt r := by rw [hs1, ept]; rfl
    have e7 : s1 405 = r 8 := by rw [hs1]; rfl
    have e8 : s1 406 = ra_pt r := by rw [hs1, ept]; rfl
    have k1 : ∀ t, t < 325 → s1 t = r t := fun t ht => by
      rw [hs1]
      show (if t = 330 then _ else if t = 331 then _ else if t = 405 then _ else if t = 406 then _ else r t) = r t
      rw [if_neg (by omega), if_neg (by omega), if_neg (by omega), if_neg (by omega)]
    have z1 : s1 0 = 0 := (k1 0 (by omega)).trans h0
    have a0 : pt_up s1 (pt_wc [ra_i 406, ra_i 405] [ra_i 325, ra_i 326]) 325 = ra_pt r := by
      show pt_v s1 (pt_xr (406, 0)) = _
      rw [pt_xr_ok z1]
      show s1 406 + 0 = _
      rw [Int.add_zero, e8]
    have a1 : pt_up s1 (pt_wc [ra_i 406, ra_i 405] [ra_i 325, ra_i 326]) 326 = r 8 := by
      show pt_v s1 (pt_xr (405, 0)) = _
      rw [pt_xr_ok z1]
      show s1 405 + 0 = _
      rw [Int.add_zero, e7]
    refine hcall (102, 0, 0) _ _ _ _ _ s1 M 37 1 405 _ _ ra_plx.2.2.2.2.2.1 ck.1 ck.2 (Or.inr (fun idx hx => by
      have e := hx.symm.trans ra_v_x.1
      injection e with e
      injection e with e _
      injection e with e
      rw [e, ra_v_x.2]
      exact ra_v_l)) (ra_common (by omega)) ⟨by rw [a0]; exact p10, by rw [a1]; exact p9⟩ (fun r1 M1 o hq => ?_)
    obtain ⟨o1, o2, o3⟩ := hq
    subst o1 o2
    rw [a0, a1]
    obtain ⟨rc, rs⟩ := ra_rm0 (n := n + 1) ra_bud0.2.2.2
    rw [rc, rs]
    obtain ⟨g, hg⟩ : ∃ g : Nat, g = Int.gcd (ra_pt r) (r 8) := ⟨_, rfl⟩
    rw [← hg]
    obtain ⟨s2, hs2⟩ : ∃ s2, s2 = pt_mrg 325 s1 r1 405 (some (g : Int)) := ⟨_, rfl⟩
    show P (105, 0, 0) (ra_fc l a b w ++ [ra_i 330, ra_i 331, ra_u]) [ra_i 405] (pt_mrg 325 s1 r1 405 (some (g : Int))) M1
    rw [← hs2]
    have f5 : s2 330 = r 8 := by rw [hs2, ra_mne (by omega) (by omega), e5]
    have f6 : s2 331 = ra_pt r := by rw [hs2, ra_mne (by omega) (by omega), e6]
    have f0 : s2 405 = (g : Int) := by rw [hs2]; exact ra_mz (by omega)
    have k2 : ∀ t, t < 325 → s2 t = r t := fun t ht => by
      rw [hs2, ra_mlt ht, o3 t ht]
      refine Eq.trans ?_ (k1 t ht)
      show (if t = 325 then _ else if t = 326 then _ else s1 t) = s1 t
      rw [if_neg (by omega), if_neg (by omega)]
    have gp : 1 ≤ g ∧ g ≤ 2000000 := by
      have d1 : 0 < g := by
        rw [hg]
        exact Nat.gcd_pos_of_pos_right _ (by omega)
      have d2 : g ≤ (r 8).natAbs := by
        rw [hg]
        exact Nat.le_of_dvd (by omega) (Nat.gcd_dvd_right _ _)
      omega
    have row2 := List.all_eq_true.mp (List.all_eq_true.mp (List.all_eq_true.mp ra_w_d l (List.mem_range.mpr hl5)) a (List.mem_range.mpr ha4)) b (List.mem_range.mpr hb4)
    rw [Bool.and_eq_true] at row2
    have cps : ∀ q ∈ [(330, ((-2000000 : Int), (2000000 : Int))), (331, ((-2000000 : Int), (2000000 : Int))), (405, ((1 : Int), (2000000 : Int)))], q.2.1 ≤ s2 q.1 ∧ s2 q.1 ≤ q.2.2 := pt_m3 (by show -2000000 ≤ s2 330 ∧ s2 330 ≤ 2000000; rw [f5]; exact p9) (by show -2000000 ≤ s2 331 ∧ s2 331 ≤ 2000000; rw [f6]; exact p10) (by show 1 ≤ s2 405 ∧ s2 405 ≤ 2000000; rw [f0]; omega)
    rcases (by omega : w = 0 ∨ w = 1) with rfl | rfl
    · refine hseg _ _ _ _ _ _ _ _ _ _ _ _ row2.1 ⟨pt_m0, cps, pt_m0⟩ ⟨fun _ => ?_, trivial⟩
      refine hret (132, 0, 0) _ (405, 0) _ M1 rfl (by decide +kernel) (by decide +kernel) (by decide +kernel) ⟨congrArg some ?_, rfl, fun t ht => Eq.trans (if_neg (by omega)) (k2 t ht)⟩
      show ai_op 3 (s2 331) (s2 405) + 0 = ra_fv r
      unfold ra_fv
      rw [if_neg g1, if_pos (show r 329 = 0 from hw), f6, f0, Int.add_zero, ra_tdiv p10, ← hg]
    · refine hseg _ _ _ _ _ _ _ _ _ _ _ _ row2.2 ⟨pt_m0, cps, pt_m0⟩ ⟨fun _ => ?_, trivial⟩
      refine hret (132, 0, 0) _ (405, 0) _ M1 rfl (by decide +kernel) (by decide +kernel) (by decide +kernel) ⟨congrArg some ?_, rfl, fun t ht => Eq.trans (if_neg (by omega)) (k2 t ht)⟩
      show ai_op 3 (s2 330) (s2 405) + 0 = ra_fv r
      unfold ra_fv
      rw [if_neg g1, if_neg (by omega), f5, f0, Int.add_zero, ra_tdiv p9, ← hg]
theorem ra_k_k : (cy_vk 265 9 145 raY.2.1 ra_hS ra_nL ra_hT && pt_cck raY 265 145 (9, 0, 0) 1 405 ra_hL ra_hT ra_nL ra_nL) = true := by decide +kernel
noncomputable def ra_kQ (r : Nat → Int) (M : Nat → Nat → Int) (r2 : Nat → Int) (M2 : Nat → Nat → Int) (o : Option Int) : Prop := o = some 0 ∧ M2 = M ∧ r2 319 = ra_fv r ∧ ∀ t, t < 325 → t ≠ 319 → r2 t = r t
theorem ra_helpFlow {n : Nat} (hn : 7 ≤ n) : pt_Met (n + 1) 265 raY (ra_nL ++ [ra_335]) (fun r _ => ra_vP r) ra_kQ 1 := by
  obtain ⟨n, rfl⟩ : ∃ m, n = m + 1 := ⟨n - 1, by omega⟩
  refine pt_intro (L0 := ra_hL) ra_plx.2.2.2.2.2.2.2 (by omega) rasys (by
    have e : (ct_mt 265).2.2.1 = 7 := by decide +kernel
    rw [e]
    rfl) (fun P r M h hp => ?_)
  obtain ⟨hseg, henv, -, -, -, -, -, -, hcall, -, hret, -, -, -⟩ := h
  refine henv _ _ _ _ _ (fun hE _ => ?_)
  have h0 : r 0 = 0 := hE.1
  obtain ⟨c1, c2⟩ := ra_h_c 265 (Or.inr rfl)
  refine hseg _ _ _ _ _ _ _ _ _ _ _ _ c1 ⟨pt_m0, pt_m0, pt_m0⟩ ⟨fun _ => ?_, trivial⟩
  show P (9, 0, 0) ra_hL ra_hS r M
  have ck := ra_k_k
  rw [Bool.and_eq_true] at ck
  refine hcall (9, 0, 0) _ _ _ _ _ r M 145 1 405 _ _ ra_plx.2.2.2.2.2.2.1 ck.1 ck.2 (ra_flow (by omega)) (by
    rw [ra_nself h0]
    exact hp) (fun r1 M1 o hq => ?_)
  rw [ra_nself h0] at hq
  obtain ⟨rc, rs⟩ := ra_rmk (n := n + 1) ra_bud1.2
  rw [rc, rs]
  obtain ⟨o1, o2, o3⟩ := hq
  subst o1 o2
  obtain ⟨s1, hs1⟩ : ∃ s1, s1 = pt_mrg 325 r r1 405 (some (ra_fv r)) := ⟨_, rfl⟩
  show P (12, 1, 6) ra_hL (ra_i 405 :: ra_hT) (pt_mrg 325 r r1 405 (some (ra_fv r))) M1
  have ez : s1 405 = ra_fv r := by rw [hs1]; exact ra_mz (by omega)
  have m1 : ∀ t, t < 325 → s1 t = r t := fun t ht => by rw [hs1, ra_mlt ht]; exact o3 t ht
  rw [← hs1]
  refine henv _ _ _ _ _ (fun hE1 _ => ?_)
  refine hseg _ _ _ _ _ _ _ _ _ _ _ _ c2 ⟨pt_m0, pt_m0, pt_m0⟩ ⟨fun _ => ?_, trivial⟩
  refine hret (22, 1, 6) _ (0, 0) _ M1 rfl (by decide +kernel) (by decide +kernel) (by decide +kernel) ⟨congrArg some ?_, rfl, ez, fun t ht hn => Eq.trans (if_neg hn) (m1 t ht)⟩
  show s1 0 + 0 = 0
  rw [hE1.1, Int.add_zero]
