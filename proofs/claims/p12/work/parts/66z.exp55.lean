/-! THE LEAST (the reference): least -/
noncomputable def zm_L (q : Nat) (a b : ai_V) : List ai_V := [wa_r 264, wa_k q, wa_i 728, wa_i 729, a, b]
noncomputable def zm_0 (q : Nat) : List ai_V := zm_L q wa_u wa_u
noncomputable def zm_h (q i : Nat) : List ai_V := zm_L q (wa_i 807) (wa_k i)
noncomputable def zm_S (q : Nat) : List ai_V := [.inl (0, -1), wa_i 729, wa_i 728, wa_k q, wa_r 264]
noncomputable def zm_A (q : Nat) : List ai_V := [wa_r 264, wa_k q, wa_i 728, wa_i 729, .inl (0, -1)]
noncomputable abbrev zm_r (st : List Nat) (sk : Bool) (pc : Nat) (L S : List ai_V) (cp : List (Nat × Int × Int)) (le : List (ai_X × ai_X)) (C : List Nat) (Es : List pt_E) : Bool := pt_row zyY 222 st sk (pc, 0, 0) L S [] cp le C Es
theorem zm_c1 : (List.range 4).all (fun q => zm_r [14, 24, 30] true 0 (zm_0 q) [] [(729, (0, 2147483647))] [] [] [((30, 0, 0), (zm_0 q, [wa_r 264, wa_i 729]), [(70, gz_k 0)], [])]) = true := by decide +kernel
theorem zm_c2 : (List.range 4).all (fun q => zm_r [37, 39] false 33 (zm_0 q) [wa_i 807, wa_i 729] [] [((729, 0), (807, 0))] [] [((39, 0, 0), (zm_0 q, [wa_r 264]), [], [])] && zm_r [37, 39] false 33 (zm_0 q) [wa_i 807, wa_i 729] [] [((807, 1), (729, 0))] [] [((37, 0, 0), (zm_0 q, [.inl (0, -1)]), [], [])]) = true := by decide +kernel
theorem zm_c3 : (List.range 4).all (fun q => zm_r [47] false 42 (zm_0 q) [] [] [] [] [((47, 0, 0), (zm_0 q, zm_S q), [], [])]) = true := by decide +kernel
theorem zm_c4 : (List.range 4).all (fun q => zm_r [59, 76] false 50 (zm_0 q) [wa_i 807] [(807, (-1, -1))] [] [] [((59, 0, 0), (zm_L q (wa_i 807) wa_u, [.inl (0, -1)]), [], [])] && zm_r [59, 76] false 50 (zm_0 q) [wa_i 807] [(807, (0, 2147483647))] [] [] [((76, 0, 0), (zm_h q 0, []), [(93, gz_k 1), (94, gz_p 73)], [])]) = true := by decide +kernel
theorem zm_c5 : (List.range 4).all (fun q => (List.range 4).all (fun i => zm_r [76, 107] true 76 (zm_h q i) [] [(73, (.ofNat (i + 1), 4))] [] [304] [((76, 0, 0), (zm_h q (i + 1), []), [(719 + i, gz_p (712 + i))], [])])) = true := by decide +kernel
theorem zm_c6 : (List.range 4).all (fun q => (List.range 5).all (fun i => zm_r [76, 107] true 76 (zm_h q i) [] [(73, (0, .ofNat i))] [] [] [((107, 0, 0), (zm_h q i, [wa_i 807]), [], [])])) = true := by decide +kernel
theorem zm_k : (List.range 4).all (fun q => (cy_vk 222 30 221 zyY.2.1 [wa_r 264, wa_i 729] [wa_r 264] [wa_i 729] && pt_cck zyY 222 221 (30, 0, 0) 1 807 (zm_0 q) [wa_i 729] [wa_r 264] [wa_r 264]) && ((cy_vk 222 39 214 zyY.2.1 [wa_r 264] [wa_r 264] [] && pt_cck zyY 222 214 (39, 0, 0) 0 807 (zm_0 q) [] [wa_r 264] [wa_r 264]) && (cy_vk 222 47 220 zyY.2.1 (zm_S q) (zm_A q) [] && pt_cck zyY 222 220 (47, 0, 0) 1 807 (zm_0 q) [] (zm_A q) zt_a))) = true ∧ (((pt_is 5 222 37 = true ∧ pt_is 5 222 59 = true) ∧ pt_is 5 222 107 = true) ∧ (ct_mt 222).2.2.1 = 6) ∧ lh_plain 222 = true ∧ ct_bud 222 = (0, 0) := by decide +kernel
theorem zm_bd : (List.range 4).all (fun m => zyE.2.1.any (fun q => decide (q = (141 + m, ((0 : Int), (2 : Int))))) && zyE.2.1.any (fun q => decide (q = (145 + m, ((0 : Int), (7 : Int)))))) = true := by decide +kernel
noncomputable def zm_V (r : Nat → Int) (q : Nat) (on w : Int) (K : Nat) (l : Nat → List Int) (F : (Nat → Int) → Bool) : ze_S := if zn_D r 0 = 0 then (-1, zl_s r) else ze_go (zl_lo r on w K) (zl_hi r on w (zl_T r q (-1)) q l K) (zl_C r (zl_T r q (-1)) q l K) F K 0 (zl_T r q (-1)).toNat 0 (fun _ => 0) (-1, zl_s r)
noncomputable def zm_v (r : Nat → Int) (q : Nat) (on w : Int) (K : Nat) (l : Nat → List Int) (F : (Nat → Int) → Bool) : Int := if w ≤ zw_v r then (zm_V r q on w K l F).1 else -1
noncomputable def zm_n (t : Nat) : Prop := (zl_n t ∧ zn_nn t) ∧ (t ≠ 70 ∧ t ≠ 93 ∧ t ≠ 94) ∧ ¬ (719 ≤ t ∧ t < 719 + 4)
noncomputable def zm_P (q K : Nat) (on w : Int) (l : Nat → List Int) (F : (Nat → Int) → Bool) (r : Nat → Int) (M : Nat → Nat → Int) : Prop := ((r 727 = (q : Int) ∧ r 728 = on) ∧ r 729 = w ∧ 0 ≤ w) ∧ (zl_J q K l r M ∧ zn_H r) ∧ ∀ r2, zn_all r r2 → (∀ t, t < 727 → zn_nn t → t ≠ 70 → r2 t = r t) → ∀ z, F z = true ↔ zr_ft (zg_pr r2 (zl_b r2 q (-1)) z K)
/-- what is kept of the best row -/
noncomputable def zm_U (r : Nat → Int) (K : Nat) (b : Bool) (s : Nat → Int) (r2 : Nat → Int) : Prop := match b with
  | true => (r2 93 = 1 ∧ r2 94 = (K : Int)) ∧ (∀ k, k < K → r2 (719 + k) = s k) ∧ ∀ k, K ≤ k → k < 4 → r2 (719 + k) = r (719 + k)
  | false => (r2 93 = r 93 ∧ r2 94 = r 94) ∧ ∀ k, k < 4 → r2 (719 + k) = r (719 + k)
noncomputable def zm_Q (q K : Nat) (on w : Int) (l : Nat → List Int) (F : (Nat → Int) → Bool) (r : Nat → Int) (M : Nat → Nat → Int) (r2 : Nat → Int) (M2 : Nat → Nat → Int) (o : Option Int) : Prop := (o = some (zm_v r q on w K l F) ∧ r2 70 = 0) ∧ zm_U r K (decide (zm_v r q on w K l F ≠ -1)) (zm_V r q on w K l F).2 r2 ∧ (∀ t, t < 727 → zm_n t → r2 t = r t) ∧ ∀ z, z ≠ 292 → z ≠ 299 → M2 z = M z
theorem zl_Jc {q K : Nat} {l : Nat → List Int} {r r1 : Nat → Int} {M : Nat → Nat → Int} (hq : q < 4) (hK : K ≤ 4) (h : zl_J q K l r M) (f : ∀ t, t < 727 → zn_nn t → t ≠ 70 → r1 t = r t) : zl_J q K l r1 M := by
  obtain ⟨⟨a1, a2⟩, ⟨b1, b2⟩, c⟩ := h
  have k : ∀ t, t < 727 → zn_nn t ∧ t ≠ 70 → r1 t = r t := fun t a b => f t a b.1 b.2
  have eP : r1 71 = r 71 := k _ (by omega) (by unfold zn_nn; omega)
  refine ⟨⟨fun p hp hle => ?_, fun p hp => ?_⟩, ⟨?_, fun m hm => ?_⟩, ?_⟩
  · rw [eP] at hle
    rw [k _ (by omega) (by unfold zn_nn; omega)]
    exact a1 p hp hle
  · rw [k _ (by omega) (by unfold zn_nn; omega)]
    exact a2 p hp
  · rw [k _ (by omega) (by unfold zn_nn; omega)]
    exact b1
  · obtain ⟨⟨⟨z1, z2⟩, z3, z4, z5⟩, z6, z7, z8⟩ := b2 m hm
    refine ⟨⟨⟨?_, ?_⟩, fun hh h3 => ?_, ?_, ?_⟩, ?_, ?_, z8⟩
    · rw [k _ (by omega) (by unfold zn_nn; omega)]
      exact z1
    · rw [k _ (by omega) (by unfold zn_nn; omega)]
      exact z2
    · rw [k _ (by omega) (by unfold zn_nn; omega)]
      exact z3 hh h3
    · rw [k _ (by omega) (by unfold zn_nn; omega)]
      exact z4
    · rw [k _ (by omega) (by unfold zn_nn; omega)]
      exact z5
    · rw [eP, k _ (by omega) (by unfold zn_nn; omega)]
      exact z6
    · rw [k _ (by omega) (by unfold zn_nn; omega)]
      exact z7
  · rw [eP, k 72 (by omega) (by unfold zn_nn; omega)]
    exact c
/-- the search's numbers are the same behind the nets -/
theorem zm_e {q K : Nat} {on w : Int} {l : Nat → List Int} {F : (Nat → Int) → Bool} {r r1 : Nat → Int} (hq : q < 4) (hK : K ≤ 4) (hH : ∀ m, m < 4 → r (141 + m) ≤ 2) (jl : ∀ p : Nat, p < 4 → 0 ≤ r (169 + 4 * p + q) ∧ r (169 + 4 * p + q) ≤ 9) (hD : r1 574 = zn_D r 0) (f : ∀ t, t < 727 → zn_nn t → t ≠ 70 → r1 t = r t) : zl_v r1 q on w (-1) K l F = zm_V r q on w K l F := by
  have k : ∀ t, t < 727 → zn_nn t ∧ t ≠ 70 → r1 t = r t := fun t a b => f t a b.1 b.2
  have el : ∀ p : Nat, p < 4 → r1 (169 + 4 * p + q) = r (169 + 4 * p + q) := fun p hp => k _ (by omega) (by unfold zn_nn; omega)
  have eT : zl_T r1 q (-1) = zl_T r q (-1) := by
    unfold zl_T
    rw [zl_Te jl, zl_Te (fun p hp => by rw [el p hp]; exact jl p hp), el 0 (by omega), el 1 (by omega), el 2 (by omega), el 3 (by omega)]
  have cg : ∀ m, m < K → ∀ T, (zt_lo r1 on w m = zt_lo r on w m ∧ zt_h0 r1 on w q m = zt_h0 r on w q m) ∧ zt_A r1 q T m (l m) = zt_A r q T m (l m) := fun m hm T => zl_cg hq (by omega) (fun t a b => k t a (by unfold zl_d at b; unfold zn_nn; omega)) (hH m (by omega))
  have e1 : zl_lo r1 on w K = zl_lo r on w K := by
    funext m
    unfold zl_lo
    by_cases c : m < K
    · rw [if_pos c, if_pos c, (cg m c 0).1.1]
    · rw [if_neg c, if_neg c]
  have e2 : zl_hi r1 on w (zl_T r q (-1)) q l K = zl_hi r on w (zl_T r q (-1)) q l K := by
    funext m
    unfold zl_hi
    by_cases c : m < K
    · rw [if_pos c, if_pos c, (cg m c 0).1.2, (cg m c _).2]
    · rw [if_neg c, if_neg c]
  have e3 : zl_C r1 (zl_T r q (-1)) q l K = zl_C r (zl_T r q (-1)) q l K := by
    funext m u
    unfold zl_C
    by_cases c : m < K
    · rw [if_pos c, if_pos c, (cg m c _).2]
    · rw [if_neg c, if_neg c]
  have e4 : zl_s r1 = zl_s r := by
    funext j
    unfold zl_s
    by_cases c : j < 4
    · rw [if_pos c, if_pos c, k _ (by omega) (by unfold zn_nn; omega)]
    · rw [if_neg c, if_neg c]
  unfold zl_v zm_V
  rw [hD, eT, e1, e2, e3, e4]
theorem zm_M {n q K : Nat} {on w : Int} {l : Nat → List Int} {F : (Nat → Int) → Bool} (hn : 4 ≤ n) (hq : q < 4) (hg : ∀ m, m < 4 → ps_gc (l m)) : pt_Met (n + 1 + 1 + 1 + 1 + 1 + 1 + 1 + 1) 222 zyY [wa_r 264, wa_i 727, wa_i 728, wa_i 729] (zm_P q K on w l F) (zm_Q q K on w l F) 1 := by
  refine pt_intro (L0 := [wa_r 264, wa_i 727, wa_i 728, wa_i 729, wa_u, wa_u]) zm_k.2.2.1 (by omega) zysys (by
    rw [zm_k.2.1.2]
    rfl) (fun P r M h hp => ?_)
  obtain ⟨hseg, henv, hrel, -, -, -, -, -, hcall, -, hret, -⟩ := h
  obtain ⟨⟨⟨p0, p1⟩, p2, pw⟩, ⟨hJ, hH⟩, pF⟩ := hp
  have hJ' := hJ
  obtain ⟨⟨-, jl⟩, ⟨jI, -⟩, -⟩ := hJ'
  refine henv _ _ _ _ _ (fun hE _ => ?_)
  have h0 : r 0 = 0 := hE.1
  have bI := ze_eb hE zw_bd
  have bF := ze_eb hE zr_bd.2.1
  have hK : K ≤ 4 := by omega
  have hb : ∀ m, m < 4 → r (141 + m) ≤ 2 ∧ (0 ≤ r (145 + m) ∧ r (145 + m) ≤ 7) := fun m hm => by
    have bd := List.all_eq_true.mp zm_bd m (List.mem_range.mpr hm)
    rw [Bool.and_eq_true] at bd
    exact ⟨(ze_eb hE bd.1).2, ze_eb hE bd.2⟩
  have wb : ∀ d m, m + d = 4 → 0 ≤ zw_g r d m ∧ zw_g r d m ≤ 7 := fun d => by
    induction d with
    | zero =>
      intro m _
      show (0 : Int) ≤ 0 ∧ (0 : Int) ≤ 7
      omega
    | succ d ih =>
      intro m hm
      have g := ih (m + 1) (by omega)
      have g2 := (hb m (by omega)).2
      show 0 ≤ (if (m : Int) < r 73 then (if r (137 + m) = 2 then r (145 + m) else zw_g r d (m + 1)) else 0) ∧ (if (m : Int) < r 73 then (if r (137 + m) = 2 then r (145 + m) else zw_g r d (m + 1)) else 0) ≤ 7
      split
      · split
        · exact g2
        · exact g
      · omega
  have w7 : zw_v r ≤ 7 := (wb 4 0 rfl).2
  have c1 := List.all_eq_true.mp zm_c1 q (List.mem_range.mpr hq)
  have c2 := List.all_eq_true.mp zm_c2 q (List.mem_range.mpr hq)
  have c3 := List.all_eq_true.mp zm_c3 q (List.mem_range.mpr hq)
  have c4 := List.all_eq_true.mp zm_c4 q (List.mem_range.mpr hq)
  have c5 := List.all_eq_true.mp zm_c5 q (List.mem_range.mpr hq)
  have c6 := List.all_eq_true.mp zm_c6 q (List.mem_range.mpr hq)
  have ck := List.all_eq_true.mp zm_k.1 q (List.mem_range.mpr hq)
  rw [Bool.and_eq_true] at c2 c4
  rw [Bool.and_eq_true, Bool.and_eq_true, Bool.and_eq_true, Bool.and_eq_true, Bool.and_eq_true] at ck
  obtain ⟨⟨k1, k2⟩, ⟨k3, k4⟩, k5, k6⟩ := ck
  have bi : r 729 ≤ 2147483647 := by
    have g := ge_i32Z hE
    exact g.1.2.2
  refine hrel (0, 0, 0) _ (zm_0 q) [] [] r M ⟨rfl, ⟨by show 0 < 827; omega, by show r 727 + 0 = r 0 + (q : Int); omega⟩, ⟨by show 728 < 827; omega, rfl⟩, ⟨by show 729 < 827; omega, rfl⟩, trivial, trivial, trivial⟩ trivial ?_
  refine hseg _ _ _ _ _ r M _ _ _ _ _ c1 ⟨pt_m0, pt_m1 ⟨by show (0 : Int) ≤ r 729; omega, bi⟩, pt_m0⟩ ⟨fun _ => ?_, trivial⟩
  obtain ⟨r1, hr1⟩ : ∃ r1, r1 = pt_up r [(70, gz_k 0)] := ⟨_, rfl⟩
  have u1 : ∀ t, r1 t = if t = 70 then 0 else r t := fun t => by
    rw [hr1]
    rfl
  have n1 : ∀ t, t ≠ 70 → r1 t = r t := fun t a => by rw [u1, if_neg a]
  show P (30, 0, 0) (zm_0 q) [wa_r 264, wa_i 729] (pt_up r [(70, gz_k 0)]) M
  rw [← hr1]
  have ew : zw_v r1 = zw_v r := by
    have g : ∀ d m, m + d = 4 → zw_g r1 d m = zw_g r d m := fun d => by
      induction d with
      | zero => exact fun _ _ => rfl
      | succ d ih =>
        intro m hm
        show (if (m : Int) < r1 73 then (if r1 (137 + m) = 2 then r1 (145 + m) else zw_g r1 d (m + 1)) else 0) = if (m : Int) < r 73 then (if r (137 + m) = 2 then r (145 + m) else zw_g r d (m + 1)) else 0
        rw [n1 73 (by omega), n1 (137 + m) (by omega), n1 (145 + m) (by omega), ih (m + 1) (by omega)]
    exact g 4 0 rfl
  refine hcall (30, 0, 0) _ _ _ _ _ r1 M 221 1 807 _ _ zw_k.2.1 k1 k2 (zw_M (n := n + 1 + 1 + 1 + 1 + 1 + 1) (by omega)) trivial (fun r7 M7 o hq' => ?_)
  have e6 : pt_up r1 (pt_wc [wa_r 264] [wa_r 264]) = r1 := rfl
  rw [e6] at hq'
  obtain ⟨rc, rs⟩ := wa_rm (n := n + 1 + 1 + 1 + 1 + 1 + 1 + 1) zw_k.2.2
  rw [rc, rs]
  obtain ⟨rfl, f7, eM⟩ := hq'
  rw [eM, ew]
  obtain ⟨r2, hr2⟩ : ∃ r2, r2 = pt_mrg 727 r1 r7 807 (some (zw_v r)) := ⟨_, rfl⟩
  show P (33, 0, 0) (zm_0 q) [wa_i 807, wa_i 729] (pt_mrg 727 r1 r7 807 (some (zw_v r))) M
  rw [← hr2]
  have n2 : ∀ t, t ≠ 807 → r2 t = r1 t := fun t a => by
    rw [hr2]
    show (if t < 727 then r7 t else if t = 807 then zw_v r else r1 t) = r1 t
    by_cases c : t < 727
    · rw [if_pos c]
      exact f7 t c
    · rw [if_neg c, if_neg a]
  have s2 : r2 807 = zw_v r := by
    rw [hr2]
    exact wa_mz (by omega)
  have m2 : ∀ t, t ≠ 807 → t ≠ 70 → r2 t = r t := fun t a b => (n2 t a).trans (n1 t b)
  have cd2 : r2 70 = 0 := by rw [n2 _ (by omega), u1, if_pos rfl]
  by_cases cw : w ≤ zw_v r
  · have ev : zm_v r q on w K l F = (zm_V r q on w K l F).1 := if_pos cw
    refine hseg _ _ _ _ _ r2 M _ _ _ _ _ c2.1 ⟨pt_m0, pt_m0, pt_m1 (by show r2 729 + 0 ≤ r2 807 + 0; rw [m2 729 (by omega) (by omega), s2]; omega)⟩ ⟨fun _ => ?_, trivial⟩
    show P (39, 0, 0) (zm_0 q) [wa_r 264] r2 M
    have f2 : ∀ t, t < 727 → zn_nn t → t ≠ 70 → r2 t = r t := fun t a _ b => m2 t (by omega) b
    refine hcall (39, 0, 0) _ _ _ _ _ r2 M 214 0 807 _ _ zn_pl.1.1.2.2 k3 k4 (zn_NM (n := n + 1 + 1 + 1 + 1) (by omega)) (zn_Hc hH f2) (fun r7 M7 o hq' => ?_)
    have e6 : pt_up r2 (pt_wc [wa_r 264] [wa_r 264]) = r2 := rfl
    rw [e6] at hq'
    obtain ⟨rc, rs⟩ := wa_rm (n := n + 1 + 1 + 1 + 1 + 1 + 1 + 1) zn_pl.1.2.2.2
    rw [rc, rs]
    obtain ⟨rfl, ha, f7, eM⟩ := hq'
    rw [eM]
    obtain ⟨r3, hr3⟩ : ∃ r3, r3 = pt_mrg 727 r2 r7 807 none := ⟨_, rfl⟩
    show P (42, 0, 0) (zm_0 q) [] (pt_mrg 727 r2 r7 807 none) M
    rw [← hr3]
    have lo3 : ∀ t, t < 727 → r3 t = r7 t := fun t a => by
      rw [hr3]
      exact wa_mlt a
    have hi3 : ∀ t, 727 ≤ t → r3 t = r2 t := fun t a => by
      rw [hr3]
      exact if_neg (by omega)
    have g3 : ∀ t, t < 727 → zn_nn t → r3 t = r2 t := fun t a b => (lo3 t a).trans (f7 t a b)
    have f3 : ∀ t, t < 727 → zn_nn t → t ≠ 70 → r3 t = r t := fun t a b c => (g3 t a b).trans (f2 t a b c)
    -- the nets as they are told from r
    have a3 : ∀ r4 : Nat → Int, (∀ t, t < 727 → r4 t = r3 t) → zn_all r r4 := fun r4 e4 v hv hle => by
      have evw : zr_vw r2 = zr_vw r := by
        unfold zr_vw
        rw [m2 87 (by omega) (by omega), m2 72 (by omega) (by omega)]
      obtain ⟨g1, g2⟩ := ha v hv (by rw [evw]; exact hle)
      obtain ⟨c1, c2⟩ := zn_Pc hH f2 (v := v)
      have bL := hH.2.2.1
      have bP := hH.2.2.2
      refine ⟨?_, fun i j hi hj => ?_⟩
      · rw [e4 _ (by omega), lo3 _ (by omega), g1, c1]
      · rw [e4 _ (by unfold zn_x; omega), lo3 _ (by unfold zn_x; omega), g2 i j (by rw [m2 72 (by omega) (by omega)]; exact hi) (by rw [m2 71 (by omega) (by omega)]; exact hj), c2 i j (by omega) (by omega)]
    refine hseg _ _ _ _ _ r3 M _ _ _ _ _ c3 ⟨pt_m0, pt_m0, pt_m0⟩ ⟨fun _ => ?_, trivial⟩
    show P (47, 0, 0) (zm_0 q) (zm_S q) r3 M
    refine henv _ _ _ _ _ (fun hE3 _ => ?_)
    have xq : pt_v r3 (pt_xr (0, .ofNat q)) = (q : Int) := by
      rw [pt_xr_ok hE3.1]
      show r3 0 + (q : Int) = q
      rw [hE3.1, Int.zero_add]
    have xm : pt_v r3 (pt_xr (0, -1)) = -1 := by
      rw [pt_xr_ok hE3.1]
      show r3 0 + -1 = -1
      rw [hE3.1]
      rfl
    obtain ⟨r4, hr4⟩ : ∃ r4, r4 = pt_up r3 (pt_wc (zm_A q) zt_a) := ⟨_, rfl⟩
    have v4 : ∀ t, r4 t = if t = 727 then (q : Int) else if t = 728 then r3 728 else if t = 729 then r3 729 else if t = 730 then -1 else r3 t := fun t => by
      have e : r4 t = if t = 727 then pt_v r3 (pt_xr (0, .ofNat q)) else if t = 728 then r3 728 else if t = 729 then r3 729 else if t = 730 then pt_v r3 (pt_xr (0, -1)) else r3 t := by
        rw [hr4]
        rfl
      rw [e, xq, xm]
    have l4 : ∀ t, t < 727 → r4 t = r3 t := fun t a => by rw [v4, if_neg (by omega), if_neg (by omega), if_neg (by omega), if_neg (by omega)]
    have f4 : ∀ t, t < 727 → zn_nn t → t ≠ 70 → r4 t = r t := fun t a b c => (l4 t a).trans (f3 t a b c)
    have bL := hH.2.2.1
    have all4 := a3 r4 l4
    have hD4 : r4 574 = zn_D r 0 := (all4 0 (by omega) (by
      unfold zr_vw
      split <;> omega)).1
    have eV : zl_v r4 q on w (-1) K l F = zm_V r q on w K l F := zm_e hq hK (fun m hm => (hb m hm).1) jl hD4 f4
    refine hcall (47, 0, 0) _ _ _ _ _ r3 M 220 1 807 _ _ zl_k.2.2.1 k5 k6 (zl_M (n := n) (q := q) (K := K) (on := on) (w := w) (x := -1) (l := l) (F := F) hn hq (by omega) (by omega) hg) (by
      rw [← hr4]
      refine ⟨⟨⟨?_, ?_⟩, ?_, ?_⟩, zl_Jc hq hK hJ f4, pF r4 all4 f4⟩
      · rw [v4, if_pos rfl]
      · rw [v4, if_neg (by omega), if_pos rfl, hi3 _ (by omega), m2 _ (by omega) (by omega)]
        exact p1
      · rw [v4, if_neg (by omega), if_neg (by omega), if_pos rfl, hi3 _ (by omega), m2 _ (by omega) (by omega)]
        exact p2
      · rw [v4, if_neg (by omega), if_neg (by omega), if_neg (by omega), if_pos rfl]) (fun r7' M7' o' hq'' => ?_)
    rw [← hr4] at hq''
    obtain ⟨rc, rs⟩ := wa_rm (n := n + 1 + 1 + 1 + 1 + 1 + 1 + 1) zl_k.2.2.2
    rw [rc, rs]
    obtain ⟨rfl, ⟨qS, qB⟩, qf, qM⟩ := hq''
    rw [eV] at qS qB ⊢
    obtain ⟨V, hV⟩ : ∃ V, V = zm_V r q on w K l F := ⟨_, rfl⟩
    rw [← hV] at ev qS qB ⊢
    obtain ⟨r5, hr5⟩ : ∃ r5, r5 = pt_mrg 727 r3 r7' 807 (some V.1) := ⟨_, rfl⟩
    show P (50, 0, 0) (zm_0 q) [wa_i 807] (pt_mrg 727 r3 r7' 807 (some V.1)) M7'
    rw [← hr5]
    have lo5 : ∀ t, t < 727 → r5 t = r7' t := fun t a => by
      rw [hr5]
      exact wa_mlt a
    have s5 : r5 807 = V.1 := by
      rw [hr5]
      exact wa_mz (by omega)
    have f5 : ∀ t, t < 727 → zl_n t → zn_nn t → t ≠ 70 → r5 t = r t := fun t a b c e => (lo5 t a).trans ((qf t a b).trans (f4 t a c e))
    have cd5 : r5 70 = 0 := by rw [lo5 _ (by omega), qf _ (by omega) (by unfold zl_n; omega), l4 _ (by omega), g3 _ (by omega) (by unfold zn_nn; omega), cd2]
    have m5 : ∀ z, z ≠ 292 → z ≠ 299 → M7' z = M z := qM
    by_cases c0 : V.1 = -1
    · have eb : decide (zm_v r q on w K l F ≠ -1) = false := by
        rw [ev]
        exact decide_eq_false (fun a => a c0)
      refine hseg _ _ _ _ _ r5 M7' _ _ _ _ _ c4.1 ⟨pt_m0, pt_m1 ⟨by show (-1 : Int) ≤ r5 807; omega, by show r5 807 ≤ -1; omega⟩, pt_m0⟩ ⟨fun _ => ?_, trivial⟩
      show P (59, 0, 0) (zm_L q (wa_i 807) wa_u) [.inl (0, -1)] r5 M7'
      refine henv _ _ _ _ _ (fun hE5 _ => ?_)
      refine hret (59, 0, 0) _ (0, -1) r5 M7' rfl zm_k.2.1.1.1.2 (by decide +kernel) (by decide +kernel) ⟨⟨congrArg some ?_, cd5⟩, ?_, fun t a b => f5 t a b.1.1 b.1.2 b.2.1.1, m5⟩
      · show r5 0 + -1 = _
        rw [hE5.1, ev, c0]
        rfl
      · rw [eb]
        refine ⟨⟨f5 _ (by omega) (by unfold zl_n; omega) (by unfold zn_nn; omega) (by omega), f5 _ (by omega) (by unfold zl_n; omega) (by unfold zn_nn; omega) (by omega)⟩, fun k hk => f5 _ (by omega) (by unfold zl_n; omega) (by unfold zn_nn; omega) (by omega)⟩
    · have g0 : 0 ≤ V.1 ∧ V.1 ≤ 279972 := qB.resolve_left c0
      have eb : decide (zm_v r q on w K l F ≠ -1) = true := by
        rw [ev]
        exact decide_eq_true c0
      have eI5 : r5 73 = (K : Int) := by
        rw [f5 _ (by omega) (by unfold zl_n; omega) (by unfold zn_nn; omega) (by omega)]
        exact jI
      have key : ∀ (d i : Nat) (r6 : Nat → Int), i + d = K → (r6 93 = 1 ∧ r6 94 = (K : Int)) → (∀ k, k < i → r6 (719 + k) = V.2 k) → (∀ t, t ≠ 93 → t ≠ 94 → ¬ (719 ≤ t ∧ t < 719 + i) → r6 t = r5 t) → P (76, 0, 0) (zm_h q i) [] r6 M7' := fun d => by
        induction d with
        | zero =>
          intro i r6 hd a6 b6 f6
          have e : i = K := by omega
          subst e
          have eI : r6 73 = (i : Int) := (f6 _ (by omega) (by omega) (by omega)).trans eI5
          refine hseg _ _ _ _ _ r6 M7' _ _ _ _ _ (List.all_eq_true.mp c6 i (List.mem_range.mpr (by omega))) ⟨pt_m0, pt_m1 ⟨by show (0 : Int) ≤ r6 73; omega, by show r6 73 ≤ (i : Int); omega⟩, pt_m0⟩ ⟨fun _ => ?_, trivial⟩
          refine hret (107, 0, 0) _ (807, 0) r6 M7' rfl zm_k.2.1.1.2 (by decide +kernel) (by decide +kernel) ⟨⟨congrArg some ?_, ?_⟩, ?_, fun t a b => ?_, m5⟩
          · show r6 807 + 0 = _
            rw [Int.add_zero, f6 _ (by omega) (by omega) (by omega), s5, ev]
          · rw [f6 _ (by omega) (by omega) (by omega)]
            exact cd5
          · rw [eb, ← hV]
            refine ⟨a6, b6, fun k h1 h2 => ?_⟩
            rw [f6 _ (by omega) (by omega) (by omega)]
            exact f5 _ (by omega) (by unfold zl_n; omega) (by unfold zn_nn; omega) (by omega)
          · obtain ⟨⟨b1, b2⟩, ⟨b3, b4, b5⟩, b7⟩ := b
            rw [f6 _ b4 b5 (by omega)]
            exact f5 t a b1 b2 b3
        | succ d ih =>
          intro i r6 hd a6 b6 f6
          have eI : r6 73 = (K : Int) := (f6 _ (by omega) (by omega) (by omega)).trans eI5
          refine hseg _ _ _ _ _ r6 M7' _ _ _ _ _ (List.all_eq_true.mp c5 i (List.mem_range.mpr (by omega))) ⟨pt_m0, pt_m1 ⟨by show ((i + 1 : Nat) : Int) ≤ r6 73; omega, by show r6 73 ≤ 4; omega⟩, pt_m0⟩ ⟨fun _ => ?_, trivial⟩
          obtain ⟨r8, hr8⟩ : ∃ r8, r8 = pt_up r6 [(719 + i, gz_p (712 + i))] := ⟨_, rfl⟩
          show P (76, 0, 0) (zm_h q (i + 1)) [] (pt_up r6 [(719 + i, gz_p (712 + i))]) M7'
          rw [← hr8]
          have v8 : ∀ t, r8 t = if t = 719 + i then r6 (712 + i) else r6 t := fun t => by
            rw [hr8]
            rfl
          refine ih (i + 1) r8 (by omega) ⟨by rw [v8, if_neg (by omega)]; exact a6.1, by rw [v8, if_neg (by omega)]; exact a6.2⟩ (fun k hk => ?_) (fun t a b c => ?_)
          · by_cases e : k = i
            · rw [e, v8, if_pos rfl, f6 _ (by omega) (by omega) (by omega), lo5 _ (by omega)]
              exact qS.2 i (by omega)
            · rw [v8, if_neg (by omega)]
              exact b6 k (by omega)
          · rw [v8, if_neg (by omega)]
            exact f6 t a b (by omega)
      refine hseg _ _ _ _ _ r5 M7' _ _ _ _ _ c4.2 ⟨pt_m0, pt_m1 ⟨by show (0 : Int) ≤ r5 807; omega, by show r5 807 ≤ 2147483647; omega⟩, pt_m0⟩ ⟨fun _ => ?_, trivial⟩
      obtain ⟨r6, hr6⟩ : ∃ r6, r6 = pt_up r5 [(93, gz_k 1), (94, gz_p 73)] := ⟨_, rfl⟩
      show P (76, 0, 0) (zm_h q 0) [] (pt_up r5 [(93, gz_k 1), (94, gz_p 73)]) M7'
      rw [← hr6]
      have v6 : ∀ t, r6 t = if t = 93 then 1 else if t = 94 then r5 73 else r5 t := fun t => by
        rw [hr6]
        rfl
      exact key K 0 r6 (by omega) ⟨by rw [v6, if_pos rfl], by rw [v6, if_neg (by omega), if_pos rfl]; exact eI5⟩ (fun k hk => absurd hk (Nat.not_lt_zero k)) (fun t a b _ => by rw [v6, if_neg a, if_neg b])
  · have ev : zm_v r q on w K l F = -1 := if_neg cw
    have eb : decide (zm_v r q on w K l F ≠ -1) = false := by
      rw [ev]
      rfl
    refine hseg _ _ _ _ _ r2 M _ _ _ _ _ c2.2 ⟨pt_m0, pt_m0, pt_m1 (by show r2 807 + 1 ≤ r2 729 + 0; rw [m2 729 (by omega) (by omega), s2]; omega)⟩ ⟨fun _ => ?_, trivial⟩
    show P (37, 0, 0) (zm_0 q) [.inl (0, -1)] r2 M
    refine henv _ _ _ _ _ (fun hE2 _ => ?_)
    refine hret (37, 0, 0) _ (0, -1) r2 M rfl zm_k.2.1.1.1.1 (by decide +kernel) (by decide +kernel) ⟨⟨congrArg some ?_, cd2⟩, ?_, fun t a b => m2 t (by omega) b.2.1.1, fun _ _ _ => rfl⟩
    · show r2 0 + -1 = _
      rw [hE2.1, ev]
      rfl
    · rw [eb]
      exact ⟨⟨m2 _ (by omega) (by omega), m2 _ (by omega) (by omega)⟩, fun k hk => m2 _ (by omega) (by omega)⟩
