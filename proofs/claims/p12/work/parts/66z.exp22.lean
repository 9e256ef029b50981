/-! ASKED (the reference): two, worked -/
noncomputable def tw_stZ : List Nat := [47, 51, 55, 67, 78, 89, 103, 117]
noncomputable def tw_gZ (c : Int) : Int := if c = -13 then 7 else if c = -14 then 8 else -5 - c
noncomputable def tw_pcZ (c : Int) : Nat := if c = -6 then 47 else if c = -7 then 51 else if c = -8 then 55 else if c = -9 then 67 else if c = -10 then 78 else if c = -11 then 89 else if c = -13 then 103 else 117
theorem tw_cZ : (ak_tabZ 727).all (ak_rowZ zyY 205 727 tw_stZ tw_gZ tw_pcZ) = true := by decide +kernel
theorem tw_kZ : (ak_opsZ.all (fun c => pt_is 5 205 (tw_pcZ c)) = true ∧ (ct_mt 205).2.2.1 = 3) ∧ lh_plain 205 = true ∧ ct_bud 205 = (0, 0) := by decide +kernel
theorem ge_i32Z {r : Nat → Int} (hE : ai_gE r zyY.1) : ((-2147483648 ≤ r 728 ∧ r 728 ≤ 2147483647) ∧ (-2147483648 ≤ r 729 ∧ r 729 ≤ 2147483647)) ∧ -2147483648 ≤ r 807 ∧ r 807 ≤ 2147483647 := by
  have w : ((728, ((-2147483648 : Int), (2147483647 : Int))) ∈ zyE.2.1 ∧ (729, ((-2147483648 : Int), (2147483647 : Int))) ∈ zyE.2.1) ∧ (807, ((-2147483648 : Int), (2147483647 : Int))) ∈ zyE.2.1 := by decide +kernel
  exact ⟨⟨(hE.2.2.2.1 _ w.1.1).2, (hE.2.2.2.1 _ w.1.2).2⟩, (hE.2.2.2.1 _ w.2).2⟩
theorem tw_MZ {n : Nat} {c : Int} (hn : 4 ≤ n) (hc : c ∈ ak_opsZ) : pt_Met (n + 1) 205 zyY (ak_tLZ 727) (fun r _ => r 727 = tw_gZ c) (fun r M r2 M2 o => o = some (ak_jZ c (r 728) (r 729)) ∧ (∀ t, t < 727 → r2 t = r t) ∧ M2 = M) 1 := by
  refine pt_intro (L0 := ak_tLZ 727) tw_kZ.2.1 hn zysys (by
    rw [tw_kZ.1.2]
    rfl) (fun P r M h hp => ?_)
  have h' := h
  obtain ⟨-, henv, -⟩ := h'
  refine henv _ _ _ _ _ (fun hE _ => ?_)
  obtain ⟨⟨b1, b2⟩, -⟩ := ge_i32Z hE
  exact ak_twoZ (c := c) h tw_cZ tw_kZ.1.1 hc hp b1 b2 (fun r2 f => ⟨rfl, f, rfl⟩)
theorem gb_cs_apZ {l m : List Int} : gb_cs (l ++ m) = gb_cs l ++ gb_cs m := List.flatMap_append
noncomputable def av_stsZ (V : Nat → Int) : List Int → List Int → List Int
  | [], st => st
  | c :: m, st => av_stsZ V m (ak_stZ V c st)
noncomputable def wk2_LZ (v : Nat) (a b c : ai_V) : List ai_V := [wa_r 264, wa_k v, wa_i 728, a, b, c]
noncomputable def wk2_hZ (v : Nat) : List ai_V := wk2_LZ v (wa_i 729) (wa_i 730) wa_u
noncomputable def wk2_wZ (v w : Nat) : List ai_V := wk2_LZ v (wa_i 729) (wa_i 730) (wa_k w)
noncomputable abbrev wk2_rZ (st : List Nat) (sk : Bool) (pc : Nat) (L S : List ai_V) (cp : List (Nat × Int × Int)) (le : List (ai_X × ai_X)) (pc2 : Nat) (L2 S2 : List ai_V) (W : List (Nat × pt_X)) : Bool := pt_row zyY 206 st sk (pc, 0, 0) L S [] cp le [] [((pc2, 0, 0), (L2, S2), W, [])]
noncomputable def wk2_tZ : List ai_V := [.inl (729, -1), wa_r 292]
theorem wk2_c1Z : (List.range 4).all (fun v => (wk2_rZ [12] true 0 (wk2_LZ v wa_u wa_u wa_u) [] [(728, (0, 31))] [] 12 (wk2_LZ v (wa_k 0) wa_u wa_u) [wa_i 728, wa_r 288, wa_k (400 * v)] [] && wk2_rZ [28] false 13 (wk2_LZ v (wa_k 0) wa_u wa_u) [wa_i 807, wa_k (400 * v)] [(807, (0, 400))] [] 28 (wk2_hZ v) [wa_i 728, wa_r 289, wa_k (400 * v), wa_i 730] [(729, gz_k 0), (730, [(0, 807, 0), (3, 0, .ofNat (400 * v))])]) &&
    (wk2_rZ [28] true 16 (wk2_hZ v) [] [(728, (0, 31))] [] 28 (wk2_hZ v) [wa_i 728, wa_r 289, wa_k (400 * v), wa_i 730] [] && (wk2_rZ [39, 173] false 29 (wk2_hZ v) [wa_i 807, wa_k (400 * v), wa_i 730] [(807, (0, 400)), (730, (0, 1999))] [((730, 1), (807, .ofNat (400 * v)))] 39 (wk2_hZ v) [wa_i 730, wa_r 290] [] && wk2_rZ [39, 173] false 29 (wk2_hZ v) [wa_i 807, wa_k (400 * v), wa_i 730] [(807, (0, 400)), (730, (0, 2000))] [((807, .ofNat (400 * v)), (730, 0))] 173 (wk2_hZ v) [wa_k 0, wa_r 292] []))) = true := by decide +kernel
theorem wk2_c2Z : (List.range 4).all (fun v => (wk2_rZ [61] false 40 (wk2_hZ v) [wa_k 0] [(730, (0, 1998))] [] 61 (wk2_wZ v 0) [wa_i 730, wa_r 290, wa_i 729, wa_r 292] [(730, gz_d 730 1)] && wk2_rZ [16] false 63 (wk2_wZ v 0) [] [(729, (0, 108)), (730, (0, 1998))] [] 16 (wk2_hZ v) [] [(729, gz_d 729 1), (730, gz_d 730 1)]) &&
    ((List.range 5).all (fun k => wk2_rZ [91] false 40 (wk2_hZ v) [wa_k (20 + k)] [] [] 91 (wk2_wZ v (20 + k)) [wa_i (419 + k), wa_i 729, wa_r 292] [] && wk2_rZ [16] false 92 (wk2_wZ v (20 + k)) [] [(729, (0, 108)), (730, (0, 1998))] [] 16 (wk2_hZ v) [] [(729, gz_d 729 1), (730, gz_d 730 1)]) &&
    ((wk2_rZ [119] false 40 (wk2_hZ v) [wa_k 9] [(729, (1, 109))] [] 119 (wk2_wZ v 9) (.inl (729, -1) :: wa_r 292 :: wk2_tZ) [] && (wk2_rZ [128] false 120 (wk2_wZ v 9) (wa_i 807 :: wk2_tZ) [(807, (0, 0)), (729, (1, 109))] [] 128 (wk2_wZ v 9) (wa_k 1 :: wk2_tZ) [] && (wk2_rZ [128] false 120 (wk2_wZ v 9) (wa_i 807 :: wk2_tZ) [(807, ak_pZ), (729, (1, 109))] [] 128 (wk2_wZ v 9) (wa_k 0 :: wk2_tZ) [] && wk2_rZ [128] false 120 (wk2_wZ v 9) (wa_i 807 :: wk2_tZ) [(807, ak_nZ), (729, (1, 109))] [] 128 (wk2_wZ v 9) (wa_k 0 :: wk2_tZ) []))) && wk2_rZ [16] false 129 (wk2_wZ v 9) [] [(730, (0, 1998))] [] 16 (wk2_hZ v) [] [(730, gz_d 730 1)]))) = true := by decide +kernel
theorem wk2_c3Z : (List.range 4).all (fun v => (List.range 8).all (fun k => wk2_rZ [151] false 40 (wk2_hZ v) [wa_k (k + 1)] [(729, (2, 109))] [] 151 (wk2_wZ v (k + 1)) (.inl (729, -1) :: wa_r 292 :: wa_k (k + 1) :: wk2_tZ) [(729, gz_d 729 (-1))] && (wk2_rZ [157] false 152 (wk2_wZ v (k + 1)) (wa_i 807 :: wa_k (k + 1) :: wk2_tZ) [(729, (1, 108))] [] 157 (wk2_wZ v (k + 1)) (wa_i 729 :: wa_r 292 :: wa_i 807 :: wa_k (k + 1) :: wk2_tZ) [] && wk2_rZ [16] false 162 (wk2_wZ v (k + 1)) [] [(730, (0, 1998))] [] 16 (wk2_hZ v) [] [(730, gz_d 730 1)]))) = true := by decide +kernel
theorem wk2_k1Z : (List.range 4).all (fun v => (pt_lck zyY 206 12 1 288 40 0 807 (wk2_LZ v (wa_k 0) wa_u wa_u) [wa_k (400 * v)] && pt_lck zyY 206 28 1 289 40 0 807 (wk2_hZ v) [wa_k (400 * v), wa_i 730]) && ((pt_lck zyY 206 39 1 290 2000 0 807 (wk2_hZ v) [] && pt_lck zyY 206 173 1 292 110 0 807 (wk2_hZ v) []) && (pt_lck zyY 206 61 1 290 2000 0 807 (wk2_wZ v 0) [wa_i 729, wa_r 292] && (pt_lck zyY 206 119 1 292 110 0 807 (wk2_wZ v 9) wk2_tZ && (List.range 8).all (fun k => (pt_lck zyY 206 151 1 292 110 0 807 (wk2_wZ v (k + 1)) (wa_k (k + 1) :: wk2_tZ) && pt_lck zyY 206 157 1 292 110 0 808 (wk2_wZ v (k + 1)) (wa_i 807 :: wa_k (k + 1) :: wk2_tZ)) && (pt_sk 206 158 205 (wa_i 808 :: wa_i 807 :: wa_k (k + 1) :: wk2_tZ) [wa_k (k + 1), wa_i 807, wa_i 808] wk2_tZ && pt_cck zyY 206 205 (158, 0, 0) 1 807 (wk2_wZ v (k + 1)) wk2_tZ [wa_k (k + 1), wa_i 807, wa_i 808] (ak_tLZ 727))))))) = true := by decide +kernel
theorem wk2_k2Z : ((pt_sck zyY 206 62 2 292 110 0 = true ∧ pt_sck zyY 206 91 2 292 110 0 = true) ∧ pt_sck zyY 206 128 2 292 110 0 = true ∧ pt_sck zyY 206 161 2 292 110 0 = true) ∧ (pt_is 5 206 174 = true ∧ (ct_mt 206).2.2.1 = 6) ∧ lh_plain 206 = true ∧ ct_bud 206 = (0, 0) := by decide +kernel
theorem wk2_xZ : ls_code 206 158 = some (.invokestatic 401, 3, 205, (ct_mt 205).2.2.2.2.2) := by decide +kernel
theorem wk2_yZ : Cond.methodLink (ct_mt 206).1.cls 401 (ct_mt 205).1 ∈ ft_W := by decide +kernel
theorem wk2_sZ : (ct_mt 205).2.2.2.2.1.isSome = true ∨ (∀ idx, ls_code 206 158 = some (.invokestatic idx, 3, 205, (ct_mt 205).2.2.2.2.2) → Cond.methodLink (ct_mt 206).1.cls idx (ct_mt 205).1 ∈ ft_W) := Or.inr (fun idx h => by
  rw [wk2_xZ] at h
  cases h
  exact wk2_yZ)
section WKS
variable {n v ci s0 : Nat} {Z : (Nat → Int) → (Nat → Nat → Int) → Option Int → Prop} {P : pt_P} {V : Nat → Int} {m : List Int} {r0 : Nat → Int} {M0 : Nat → Nat → Int}
theorem wk2_loopZ (h : pt_Cl (n + 1) 206 zyY 1 Z P) (hn : 4 ≤ n) (hv : v < 4) (hci : ci < 32) (e1 : r0 728 = (ci : Int)) (hto : M0 289 ci = ((s0 + (gb_cs m).length : Nat) : Int)) (h400 : s0 + (gb_cs m).length ≤ 400) (hM : ∀ x, x < (gb_cs m).length → M0 290 (400 * v + s0 + x) = (gb_cs m).getD x 0) (hV : ∀ k, k < 5 → r0 (419 + k) = V k)
    (hz : ∀ r2 M2, (∀ t, t < 727 → r2 t = r0 t) → (∀ z, z ≠ 292 → M2 z = M0 z) → Z r2 M2 (some ((av_stsZ V m []).getD 0 0))) :
    ∀ (rest pre st : List Int) (r : Nat → Int) (M : Nat → Nat → Int), pre ++ rest = m → av_stsZ V rest st = av_stsZ V m [] → ps_dp 31 rest st.length = some 1 → st.length ≤ 31 → (r 728 = (ci : Int) ∧ r 729 = (st.length : Int) ∧ r 730 = ((400 * v + s0 + (gb_cs pre).length : Nat) : Int)) → ak_atZ 292 st M → (∀ t, t < 727 → r t = r0 t) → (∀ z, z ≠ 292 → M z = M0 z) →
      P (28, 0, 0) (wk2_hZ v) [wa_i 728, wa_r 289, wa_k (400 * v), wa_i 730] r M := by
  have h' := h
  obtain ⟨hseg, henv, hrel, -, hld, -, hst, -, -, hcall0, hret, -⟩ := h'
  have q1 := List.all_eq_true.mp wk2_c1Z v (List.mem_range.mpr hv)
  simp only [Bool.and_eq_true] at q1
  obtain ⟨-, c3, c4, c5⟩ := q1
  have q2 := List.all_eq_true.mp wk2_c2Z v (List.mem_range.mpr hv)
  rw [Bool.and_eq_true, Bool.and_eq_true, Bool.and_eq_true, Bool.and_eq_true, Bool.and_eq_true, Bool.and_eq_true, Bool.and_eq_true] at q2
  obtain ⟨⟨d1, d2⟩, d3, ⟨d4, d5, d6, d7⟩, d8⟩ := q2
  have q3 := List.all_eq_true.mp wk2_c3Z v (List.mem_range.mpr hv)
  have qk := List.all_eq_true.mp wk2_k1Z v (List.mem_range.mpr hv)
  rw [Bool.and_eq_true, Bool.and_eq_true, Bool.and_eq_true, Bool.and_eq_true, Bool.and_eq_true, Bool.and_eq_true] at qk
  obtain ⟨⟨-, k2⟩, ⟨k3, k4⟩, k5, k6, k7⟩ := qk
  obtain ⟨⟨⟨s1, s2⟩, s3, s4⟩, -⟩ := wk2_k2Z
  intro rest
  induction rest with
  | nil =>
    intro pre st r M hp hr hd h31 he ha fr fM
    rw [List.append_nil] at hp
    subst hp
    have hd : some st.length = some 1 := hd
    have l1 : st.length = 1 := Option.some.inj hd
    refine hld (28, 0, 0) _ [wa_k (400 * v), wa_i 730] r M 289 40 807 ci (728, 0) k2 (by omega) (by show r 728 + 0 = _; omega) ?_
    rw [fM 289 (by omega), hto]
    obtain ⟨r1, hr1⟩ : ∃ r1, r1 = pt_set r 807 ((s0 + (gb_cs pre).length : Nat) : Int) := ⟨_, rfl⟩
    show P (29, 0, 0) (wk2_hZ v) [wa_i 807, wa_k (400 * v), wa_i 730] (pt_set r 807 ((s0 + (gb_cs pre).length : Nat) : Int)) M
    rw [← hr1]
    have n1 : ∀ t, t ≠ 807 → r1 t = r t := fun t a => by
      rw [hr1]
      exact if_neg a
    have t1 : r1 807 = ((s0 + (gb_cs pre).length : Nat) : Int) := by
      rw [hr1]
      exact gz_sset
    have e3 : r1 730 = ((400 * v + s0 + (gb_cs pre).length : Nat) : Int) := (n1 _ (by omega)).trans he.2.2
    have ev : Int.ofNat (400 * v) = ((400 * v : Nat) : Int) := rfl
    refine hseg _ _ _ _ _ r1 M _ _ _ _ _ c5 ⟨pt_m0, pt_m2 ⟨by show (0 : Int) ≤ r1 807; omega, by show r1 807 ≤ 400; omega⟩ ⟨by show (0 : Int) ≤ r1 730; omega, by show r1 730 ≤ 2000; omega⟩, pt_m1 (by show r1 807 + Int.ofNat (400 * v) ≤ r1 730 + 0; omega)⟩ ⟨fun _ => ?_, trivial⟩
    refine henv _ _ _ _ _ (fun hE1 _ => ?_)
    refine hld (173, 0, 0) _ [] r1 M 292 110 807 0 (0, 0) k4 (by omega) (by show r1 0 + 0 = ((0 : Nat) : Int); have h10 : r1 0 = 0 := hE1.1; omega) ?_
    have e0 : M 292 0 = (av_stsZ V pre []).getD 0 0 := by
      rw [ha 0 (by omega), ← hr, l1]
      rfl
    rw [e0]
    refine hret (174, 0, 0) _ (807, 0) _ M rfl wk2_k2Z.2.1.1 (by decide +kernel) (by decide +kernel) ?_
    have ev2 : ai_vx (pt_set r1 807 ((av_stsZ V pre []).getD 0 0)) (807, 0) = (av_stsZ V pre []).getD 0 0 := by
      show pt_set r1 807 _ 807 + 0 = _
      rw [Int.add_zero]
      exact gz_sset
    rw [ev2]
    exact hz _ M (fun t a => (if_neg (by omega)).trans ((n1 t (by omega)).trans (fr t a))) fM
  | cons c rest ih =>
    intro pre st r M hp hr hd h31 he ha fr fM
    obtain ⟨g1, g2, g3⟩ := he
    have eC : gb_cs m = gb_cs pre ++ (gb_enc c ++ gb_cs rest) := by
      rw [← hp, gb_cs_apZ, gb_cs_c]
    have lC : (gb_cs m).length = (gb_cs pre).length + ((gb_enc c).length + (gb_cs rest).length) := by
      rw [eC, List.length_append, List.length_append]
    have hp2 : (pre ++ [c]) ++ rest = m := by
      rw [List.append_assoc]
      exact hp
    have lP : (gb_cs (pre ++ [c])).length = (gb_cs pre).length + (gb_enc c).length := by
      rw [gb_cs_a, List.length_append]
    have at1 : ∀ x, x < (gb_enc c).length → (gb_cs m).getD ((gb_cs pre).length + x) 0 = (gb_enc c).getD x 0 := fun x hx => by
      rw [eC, ps_gr]
      rw [List.getD_eq_getElem?_getD, List.getD_eq_getElem?_getD, List.getElem?_append_left hx]
    have ev : Int.ofNat (400 * v) = ((400 * v : Nat) : Int) := rfl
    -- behind a code: at the head again
    have again : ∀ (st2 : List Int) (r2 : Nat → Int) (M2 : Nat → Nat → Int), ak_stZ V c st = st2 → ps_dp 31 rest st2.length = some 1 → st2.length ≤ 31 → (r2 728 = (ci : Int) ∧ r2 729 = (st2.length : Int) ∧ r2 730 = ((400 * v + s0 + (gb_cs pre).length + (gb_enc c).length : Nat) : Int)) → ak_atZ 292 st2 M2 → (∀ t, t < 727 → r2 t = r0 t) → (∀ z, z ≠ 292 → M2 z = M0 z) → P (16, 0, 0) (wk2_hZ v) [] r2 M2 := fun st2 r2 M2 a1 a2 a3 a4 a5 a6 a7 => by
      refine hseg _ _ _ _ _ r2 M2 _ _ _ _ _ c3 ⟨pt_m0, pt_m1 ⟨by show (0 : Int) ≤ r2 728; omega, by show r2 728 ≤ 31; omega⟩, pt_m0⟩ ⟨fun _ => ?_, trivial⟩
      have hr2 : av_stsZ V rest st2 = av_stsZ V m [] := by
        rw [← hr, ← a1]
        rfl
      exact ih (pre ++ [c]) st2 r2 M2 hp2 hr2 a2 a3 ⟨a4.1, a4.2.1, by rw [a4.2.2, lP, Nat.add_assoc (400 * v + s0)]⟩ a5 a6 a7
    have lt1 : 1 ≤ (gb_enc c).length → s0 + (gb_cs pre).length < s0 + (gb_cs m).length := fun q => by omega
    -- up to the code
    have code : ∀ w : Nat, 1 ≤ (gb_enc c).length → (gb_enc c).getD 0 0 = (w : Int) → (∀ r2 : Nat → Int, (∀ t, t ≠ 807 → r2 t = r t) → P (40, 0, 0) (wk2_hZ v) [wa_k w] r2 M) → P (28, 0, 0) (wk2_hZ v) [wa_i 728, wa_r 289, wa_k (400 * v), wa_i 730] r M := fun w hl hw k => by
      refine hld (28, 0, 0) _ [wa_k (400 * v), wa_i 730] r M 289 40 807 ci (728, 0) k2 (by omega) (by show r 728 + 0 = _; omega) ?_
      rw [fM 289 (by omega), hto]
      obtain ⟨r1, hr1⟩ : ∃ r1, r1 = pt_set r 807 ((s0 + (gb_cs m).length : Nat) : Int) := ⟨_, rfl⟩
      show P (29, 0, 0) (wk2_hZ v) [wa_i 807, wa_k (400 * v), wa_i 730] (pt_set r 807 ((s0 + (gb_cs m).length : Nat) : Int)) M
      rw [← hr1]
      have n1 : ∀ t, t ≠ 807 → r1 t = r t := fun t a => by
        rw [hr1]
        exact if_neg a
      have t1 : r1 807 = ((s0 + (gb_cs m).length : Nat) : Int) := by
        rw [hr1]
        exact gz_sset
      have e3 : r1 730 = ((400 * v + s0 + (gb_cs pre).length : Nat) : Int) := (n1 _ (by omega)).trans g3
      refine hseg _ _ _ _ _ r1 M _ _ _ _ _ c4 ⟨pt_m0, pt_m2 ⟨by show (0 : Int) ≤ r1 807; omega, by show r1 807 ≤ 400; omega⟩ ⟨by show (0 : Int) ≤ r1 730; omega, by show r1 730 ≤ 1999; omega⟩, pt_m1 (by show r1 730 + 1 ≤ r1 807 + Int.ofNat (400 * v); omega)⟩ ⟨fun _ => ?_, trivial⟩
      refine hld (39, 0, 0) _ [] r1 M 290 2000 807 (400 * v + s0 + (gb_cs pre).length) (730, 0) k3 (by omega) (by show r1 730 + 0 = _; omega) ?_
      have ec : M 290 (400 * v + s0 + (gb_cs pre).length) = (w : Int) := by
        rw [fM 290 (by omega), hM _ (by omega), ← hw]
        have := at1 0 (by omega)
        rw [Nat.add_zero] at this
        exact this
      rw [ec]
      obtain ⟨r2, hr2⟩ : ∃ r2, r2 = pt_set r1 807 (w : Int) := ⟨_, rfl⟩
      show P (40, 0, 0) (wk2_hZ v) [wa_i 807] (pt_set r1 807 (w : Int)) M
      rw [← hr2]
      have t2 : r2 807 = (w : Int) := by
        rw [hr2]
        exact gz_sset
      refine henv _ _ _ _ _ (fun hE2 _ => ?_)
      refine hrel (40, 0, 0) _ (wk2_hZ v) _ [wa_k w] r2 M ⟨rfl, ⟨by show 0 < 827; omega, rfl⟩, ⟨by show 728 < 827; omega, rfl⟩, ⟨by show 729 < 827; omega, rfl⟩, ⟨by show 730 < 827; omega, rfl⟩, trivial, trivial⟩ ⟨⟨by show 0 < 827; omega, by show r2 807 + 0 = r2 0 + (w : Int); rw [t2, hE2.1]; omega⟩, trivial⟩ (k r2 (fun t a => by
        rw [hr2]
        exact (if_neg a).trans (n1 t a)))
    rw [ps_dp_c] at hd
    by_cases a : -5 ≤ c
    · rw [if_pos a] at hd
      by_cases b : st.length < 31
      · rw [if_pos b] at hd
        by_cases p : 0 ≤ c
        · have ec : gb_enc c = [0, c] := if_pos p
          have est : ak_stZ V c st = c :: st := if_pos p
          have l2 : (gb_enc c).length = 2 := by rw [ec]; rfl
          refine code 0 (by omega) (by rw [ec]; rfl) (fun r2 f2 => ?_)
          have b3 : r2 730 = ((400 * v + s0 + (gb_cs pre).length : Nat) : Int) := (f2 _ (by omega)).trans g3
          refine hseg _ _ _ _ _ r2 M _ _ _ _ _ d1 ⟨pt_m0, pt_m1 ⟨by show (0 : Int) ≤ r2 730; omega, by show r2 730 ≤ 1998; omega⟩, pt_m0⟩ ⟨fun _ => ?_, trivial⟩
          obtain ⟨r3, hr3⟩ : ∃ r3, r3 = pt_up r2 [(730, gz_d 730 1)] := ⟨_, rfl⟩
          show P (61, 0, 0) (wk2_wZ v 0) (.inl (730, 0) :: .inr (.inr (some (some 290))) :: [wa_i 729, wa_r 292]) (pt_up r2 [(730, gz_d 730 1)]) M
          rw [← hr3]
          have v3 : ∀ t, r3 t = if t = 730 then r2 730 + 1 else r2 t := fun t => by
            rw [hr3]
            rfl
          refine hld (61, 0, 0) _ [wa_i 729, wa_r 292] r3 M 290 2000 807 (400 * v + s0 + (gb_cs pre).length + 1) (730, 0) k5 (by omega) (by show r3 730 + 0 = _; rw [v3, if_pos rfl]; omega) ?_
          have ex : M 290 (400 * v + s0 + (gb_cs pre).length + 1) = c := by
            rw [fM 290 (by omega), Nat.add_assoc (400 * v + s0), hM _ (by omega), at1 1 (by omega), ec]
            rfl
          rw [ex]
          obtain ⟨r4, hr4⟩ : ∃ r4, r4 = pt_set r3 807 c := ⟨_, rfl⟩
          show P (62, 0, 0) (wk2_wZ v 0) (.inl (807, 0) :: .inl (729, 0) :: .inr (.inr (some (some 292))) :: []) (pt_set r3 807 c) M
          rw [← hr4]
          have n4 : ∀ t, t ≠ 807 → r4 t = r3 t := fun t x => by
            rw [hr4]
            exact if_neg x
          have t4 : r4 807 = c := by
            rw [hr4]
            exact gz_sset
          have e42 : r4 729 = (st.length : Int) := by rw [n4 _ (by omega), v3, if_neg (by omega), f2 _ (by omega), g2]
          have e43 : r4 730 = ((400 * v + s0 + (gb_cs pre).length + 1 : Nat) : Int) := by
            rw [n4 _ (by omega), v3, if_pos rfl]
            omega
          refine hst (62, 0, 0) _ [] r4 M 292 110 st.length (729, 0) (807, 0) s1 (by omega) (by show r4 729 + 0 = _; omega) ?_
          have evx : ai_vx r4 (807, 0) = c := (Int.add_zero _).trans t4
          rw [evx]
          refine hseg _ _ _ _ _ r4 _ _ _ _ _ _ d2 ⟨pt_m0, pt_m2 ⟨by show (0 : Int) ≤ r4 729; omega, by show r4 729 ≤ 108; omega⟩ ⟨by show (0 : Int) ≤ r4 730; omega, by show r4 730 ≤ 1998; omega⟩, pt_m0⟩ ⟨fun _ => ?_, trivial⟩
          obtain ⟨r5, hr5⟩ : ∃ r5, r5 = pt_up r4 [(729, gz_d 729 1), (730, gz_d 730 1)] := ⟨_, rfl⟩
          show P (16, 0, 0) (wk2_hZ v) [] (pt_up r4 [(729, gz_d 729 1), (730, gz_d 730 1)]) _
          rw [← hr5]
          have v5 : ∀ t, r5 t = if t = 729 then r4 729 + 1 else if t = 730 then r4 730 + 1 else r4 t := fun t => by
            rw [hr5]
            rfl
          refine again (c :: st) r5 _ est hd (by rw [List.length_cons]; omega) ⟨?_, ?_, ?_⟩ (ak_at_pushZ ha) (fun t x => ?_) (fun z x => ?_)
          · rw [v5, if_neg (by omega), if_neg (by omega), n4 _ (by omega), v3, if_neg (by omega), f2 _ (by omega), g1]
          · rw [v5, if_pos rfl, List.length_cons, e42]
            omega
          · rw [v5, if_neg (by omega), if_pos rfl, l2, e43]
            omega
          · rw [v5, if_neg (by omega), if_neg (by omega), n4 t (by omega), v3, if_neg (by omega), f2 t (by omega)]
            exact fr t x
          · rw [← fM z x]
            funext y
            exact if_neg (fun q => x q.1)
        · have ec : gb_enc c = [19 - c] := (if_neg p).trans (if_pos a)
          have est : ak_stZ V c st = V (-1 - c).toNat :: st := (if_neg p).trans (if_pos a)
          have l2 : (gb_enc c).length = 1 := by rw [ec]; rfl
          obtain ⟨k, hk⟩ : ∃ k : Nat, k = (-1 - c).toNat := ⟨_, rfl⟩
          rw [← hk] at est
          have k5' : k < 5 := by omega
          have w20 : (gb_enc c).getD 0 0 = ((20 + k : Nat) : Int) := by
            rw [ec]
            show 19 - c = _
            omega
          have rk := List.all_eq_true.mp d3 k (List.mem_range.mpr k5')
          rw [Bool.and_eq_true] at rk
          refine code (20 + k) (by omega) w20 (fun r2 f2 => ?_)
          refine hseg _ _ _ _ _ r2 M _ _ _ _ _ rk.1 ⟨pt_m0, pt_m0, pt_m0⟩ ⟨fun _ => ?_, trivial⟩
          have e22 : r2 729 = (st.length : Int) := (f2 _ (by omega)).trans g2
          have e23 : r2 730 = ((400 * v + s0 + (gb_cs pre).length : Nat) : Int) := (f2 _ (by omega)).trans g3
          refine hst (91, 0, 0) _ [] r2 M 292 110 st.length (729, 0) (419 + k, 0) s2 (by omega) (by show r2 729 + 0 = _; omega) ?_
          have evx : ai_vx r2 (419 + k, 0) = V k := by
            show r2 (419 + k) + 0 = V k
            rw [Int.add_zero, f2 _ (by omega), fr _ (by omega)]
            exact hV k k5'
          rw [evx]
          refine hseg _ _ _ _ _ r2 _ _ _ _ _ _ rk.2 ⟨pt_m0, pt_m2 ⟨by show (0 : Int) ≤ r2 729; omega, by show r2 729 ≤ 108; omega⟩ ⟨by show (0 : Int) ≤ r2 730; omega, by show r2 730 ≤ 1998; omega⟩, pt_m0⟩ ⟨fun _ => ?_, trivial⟩
          obtain ⟨r5, hr5⟩ : ∃ r5, r5 = pt_up r2 [(729, gz_d 729 1), (730, gz_d 730 1)] := ⟨_, rfl⟩
          show P (16, 0, 0) (wk2_hZ v) [] (pt_up r2 [(729, gz_d 729 1), (730, gz_d 730 1)]) _
          rw [← hr5]
          have v5 : ∀ t, r5 t = if t = 729 then r2 729 + 1 else if t = 730 then r2 730 + 1 else r2 t := fun t => by
            rw [hr5]
            rfl
          refine again (V k :: st) r5 _ est hd (by rw [List.length_cons]; omega) ⟨?_, ?_, ?_⟩ (ak_at_pushZ ha) (fun t x => ?_) (fun z x => ?_)
          · rw [v5, if_neg (by omega), if_neg (by omega), f2 _ (by omega), g1]
          · rw [v5, if_pos rfl, List.length_cons, e22]
            omega
          · rw [v5, if_neg (by omega), if_pos rfl, l2, e23]
            omega
          · rw [v5, if_neg (by omega), if_neg (by omega), f2 t (by omega)]
            exact fr t x
          · rw [← fM z x]
            funext y
            exact if_neg (fun q => x q.1)
      · rw [if_neg b] at hd
        cases hd
    · rw [if_neg a] at hd
      by_cases b : c = -12
      · rw [if_pos b] at hd
        by_cases x : 1 ≤ st.length
        · rw [if_pos x] at hd
          rcases st with _ | ⟨y, st⟩
          · exact absurd x (Nat.not_succ_le_zero 0)
          have ec : gb_enc c = [9] := by
            rw [b]
            decide
          have est : ak_stZ V c (y :: st) = (if y = 0 then 1 else 0) :: st := (if_neg (by omega)).trans ((if_neg a).trans (if_pos b))
          have l2 : (gb_enc c).length = 1 := by rw [ec]; rfl
          rw [List.length_cons] at g2 h31
          refine code 9 (by omega) (by rw [ec]; rfl) (fun r2 f2 => ?_)
          have e22 : r2 729 = ((st.length + 1 : Nat) : Int) := (f2 _ (by omega)).trans g2
          have e23 : r2 730 = ((400 * v + s0 + (gb_cs pre).length : Nat) : Int) := (f2 _ (by omega)).trans g3
          have b2 : ∀ r3 : Nat → Int, r3 729 = ((st.length + 1 : Nat) : Int) → (1 : Int) ≤ r3 729 ∧ r3 729 ≤ 109 := fun r3 e => by omega
          refine hseg _ _ _ _ _ r2 M _ _ _ _ _ d4 ⟨pt_m0, pt_m1 (b2 r2 e22), pt_m0⟩ ⟨fun _ => ?_, trivial⟩
          refine hld (119, 0, 0) _ wk2_tZ r2 M 292 110 807 st.length (729, -1) k6 (by omega) (by show r2 729 + -1 = _; omega) ?_
          rw [ak_at_topZ ha]
          obtain ⟨r3, hr3⟩ : ∃ r3, r3 = pt_set r2 807 y := ⟨_, rfl⟩
          show P (120, 0, 0) (wk2_wZ v 9) (wa_i 807 :: wk2_tZ) (pt_set r2 807 y) M
          rw [← hr3]
          have n3 : ∀ t, t ≠ 807 → r3 t = r2 t := fun t w => by
            rw [hr3]
            exact if_neg w
          have t3 : r3 807 = y := by
            rw [hr3]
            exact gz_sset
          have e32 : r3 729 = ((st.length + 1 : Nat) : Int) := (n3 _ (by omega)).trans e22
          have e33 : r3 730 = ((400 * v + s0 + (gb_cs pre).length : Nat) : Int) := (n3 _ (by omega)).trans e23
          refine henv _ _ _ _ _ (fun hE3 _ => ?_)
          have b32 := (ge_i32Z hE3).2
          have h30 : r3 0 = 0 := hE3.1
          have fin : ∀ (z : Nat), (z : Int) = (if y = 0 then 1 else 0) → P (128, 0, 0) (wk2_wZ v 9) (.inl (0, .ofNat z) :: .inl (729, -1) :: .inr (.inr (some (some 292))) :: []) r3 M := fun z hz' => by
            refine hst (128, 0, 0) _ [] r3 M 292 110 st.length (729, -1) (0, .ofNat z) s3 (by omega) (by show r3 729 + -1 = _; omega) ?_
            have evx : ai_vx r3 (0, Int.ofNat z) = if y = 0 then 1 else 0 := by
              show r3 0 + (z : Int) = _
              rw [h30, Int.zero_add]
              exact hz'
            rw [evx]
            refine hseg _ _ _ _ _ r3 _ _ _ _ _ _ d8 ⟨pt_m0, pt_m1 ⟨by show (0 : Int) ≤ r3 730; omega, by show r3 730 ≤ 1998; omega⟩, pt_m0⟩ ⟨fun _ => ?_, trivial⟩
            obtain ⟨r5, hr5⟩ : ∃ r5, r5 = pt_up r3 [(730, gz_d 730 1)] := ⟨_, rfl⟩
            show P (16, 0, 0) (wk2_hZ v) [] (pt_up r3 [(730, gz_d 730 1)]) _
            rw [← hr5]
            have v5 : ∀ t, r5 t = if t = 730 then r3 730 + 1 else r3 t := fun t => by
              rw [hr5]
              rfl
            refine again ((if y = 0 then 1 else 0) :: st) r5 _ est hd (by rw [List.length_cons]; omega) ⟨?_, ?_, ?_⟩ (ak_at_pushZ (ak_at_popZ ha)) (fun t w => ?_) (fun z w => ?_)
            · rw [v5, if_neg (by omega), n3 _ (by omega), f2 _ (by omega), g1]
            · rw [v5, if_neg (by omega), List.length_cons, e32]
            · rw [v5, if_pos rfl, l2, e33]
              omega
            · rw [v5, if_neg (by omega), n3 t (by omega), f2 t (by omega)]
              exact fr t w
            · rw [← fM z w]
              funext u
              exact if_neg (fun q => w q.1)
          rcases (by omega : y = 0 ∨ 1 ≤ y ∨ y ≤ -1) with z | z | z
          · refine hseg _ _ _ _ _ r3 M _ _ _ _ _ d5 ⟨pt_m0, pt_m2 ⟨by show (0 : Int) ≤ r3 807; omega, by show r3 807 ≤ 0; omega⟩ (b2 r3 e32), pt_m0⟩ ⟨fun _ => ?_, trivial⟩
            exact fin 1 (by rw [if_pos z]; rfl)
          · refine hseg _ _ _ _ _ r3 M _ _ _ _ _ d6 ⟨pt_m0, pt_m2 ⟨by show (1 : Int) ≤ r3 807; omega, by show r3 807 ≤ 2147483647; omega⟩ (b2 r3 e32), pt_m0⟩ ⟨fun _ => ?_, trivial⟩
            exact fin 0 (by rw [if_neg (by omega)]; rfl)
          · refine hseg _ _ _ _ _ r3 M _ _ _ _ _ d7 ⟨pt_m0, pt_m2 ⟨by show (-2147483648 : Int) ≤ r3 807; omega, by show r3 807 ≤ -1; omega⟩ (b2 r3 e32), pt_m0⟩ ⟨fun _ => ?_, trivial⟩
            exact fin 0 (by rw [if_neg (by omega)]; rfl)
        · rw [if_neg x] at hd
          cases hd
      · rw [if_neg b] at hd
        by_cases x14 : -14 ≤ c
        · rw [if_pos x14] at hd
          by_cases x2 : 2 ≤ st.length
          · rw [if_pos x2] at hd
            rcases st with _ | ⟨y, _ | ⟨x, st⟩⟩
            · exact absurd x2 (Nat.not_succ_le_zero 1)
            · exact absurd x2 (by show ¬ 2 ≤ 1; omega)
            have hops : c ∈ ak_opsZ := by
              simp only [ak_opsZ, List.mem_cons, List.not_mem_nil, or_false]
              omega
            have est : ak_stZ V c (y :: x :: st) = ak_jZ c x y :: st := (if_neg (by omega)).trans ((if_neg a).trans (if_neg b))
            obtain ⟨k, ek, l2, gk⟩ : ∃ k : Nat, k < 8 ∧ gb_enc c = [((k + 1 : Nat) : Int)] ∧ tw_gZ c = ((k + 1 : Nat) : Int) := by
              rcases (by omega : -11 ≤ c ∨ c = -13 ∨ c = -14) with z | z | z
              · refine ⟨(-6 - c).toNat, by omega, ?_, ?_⟩
                · rw [show gb_enc c = [-5 - c] from (if_neg (by omega)).trans ((if_neg a).trans (if_pos z))]
                  exact congrArg (fun q => [q]) (by omega)
                · rw [show tw_gZ c = -5 - c from (if_neg (by omega)).trans (if_neg (by omega))]
                  omega
              · exact ⟨6, by omega, by rw [z]; decide, by rw [z]; decide⟩
              · exact ⟨7, by omega, by rw [z]; decide, by rw [z]; decide⟩
            have l2' : (gb_enc c).length = 1 := by rw [l2]; rfl
            rw [List.length_cons, List.length_cons] at g2 h31
            have rk := List.all_eq_true.mp q3 k (List.mem_range.mpr ek)
            simp only [Bool.and_eq_true] at rk
            obtain ⟨u1, u2, u3⟩ := rk
            have kk := List.all_eq_true.mp k7 k (List.mem_range.mpr ek)
            rw [Bool.and_eq_true, Bool.and_eq_true, Bool.and_eq_true] at kk
            obtain ⟨⟨w1, w2⟩, w3, w4⟩ := kk
            refine code (k + 1) (by omega) (by rw [l2]; rfl) (fun r2 f2 => ?_)
            have e22 : r2 729 = ((st.length + 1 + 1 : Nat) : Int) := (f2 _ (by omega)).trans g2
            have e23 : r2 730 = ((400 * v + s0 + (gb_cs pre).length : Nat) : Int) := (f2 _ (by omega)).trans g3
            refine hseg _ _ _ _ _ r2 M _ _ _ _ _ u1 ⟨pt_m0, pt_m1 ⟨by show (2 : Int) ≤ r2 729; omega, by show r2 729 ≤ 109; omega⟩, pt_m0⟩ ⟨fun _ => ?_, trivial⟩
            obtain ⟨r3, hr3⟩ : ∃ r3, r3 = pt_up r2 [(729, gz_d 729 (-1))] := ⟨_, rfl⟩
            show P (151, 0, 0) (wk2_wZ v (k + 1)) (.inl (729, -1) :: .inr (.inr (some (some 292))) :: wa_k (k + 1) :: wk2_tZ) (pt_up r2 [(729, gz_d 729 (-1))]) M
            rw [← hr3]
            have v3 : ∀ t, r3 t = if t = 729 then r2 729 + -1 else r2 t := fun t => by
              rw [hr3]
              rfl
            have e32 : r3 729 = ((st.length + 1 : Nat) : Int) := by
              rw [v3, if_pos rfl]
              omega
            have top2 : M 292 (st.length + 1) = y := ak_at_topZ ha
            have top1 : M 292 st.length = x := ak_at_topZ (ak_at_popZ ha)
            refine hld (151, 0, 0) _ (wa_k (k + 1) :: wk2_tZ) r3 M 292 110 807 st.length (729, -1) w1 (by omega) (by show r3 729 + -1 = _; omega) ?_
            rw [top1]
            obtain ⟨r4, hr4⟩ : ∃ r4, r4 = pt_set r3 807 x := ⟨_, rfl⟩
            show P (152, 0, 0) (wk2_wZ v (k + 1)) (wa_i 807 :: wa_k (k + 1) :: wk2_tZ) (pt_set r3 807 x) M
            rw [← hr4]
            have n4 : ∀ t, t ≠ 807 → r4 t = r3 t := fun t w => by
              rw [hr4]
              exact if_neg w
            have t4 : r4 807 = x := by
              rw [hr4]
              exact gz_sset
            have e42 : r4 729 = ((st.length + 1 : Nat) : Int) := (n4 _ (by omega)).trans e32
            refine hseg _ _ _ _ _ r4 M _ _ _ _ _ u2 ⟨pt_m0, pt_m1 ⟨by show (1 : Int) ≤ r4 729; omega, by show r4 729 ≤ 108; omega⟩, pt_m0⟩ ⟨fun _ => ?_, trivial⟩
            refine hld (157, 0, 0) _ (wa_i 807 :: wa_k (k + 1) :: wk2_tZ) r4 M 292 110 808 (st.length + 1) (729, 0) w2 (by omega) (by show r4 729 + 0 = _; omega) ?_
            rw [top2]
            obtain ⟨r5, hr5⟩ : ∃ r5, r5 = pt_set r4 808 y := ⟨_, rfl⟩
            show P (158, 0, 0) (wk2_wZ v (k + 1)) (wa_i 808 :: wa_i 807 :: wa_k (k + 1) :: wk2_tZ) (pt_set r4 808 y) M
            rw [← hr5]
            have n5 : ∀ t, t ≠ 808 → r5 t = r4 t := fun t w => by
              rw [hr5]
              exact if_neg w
            have t5 : r5 808 = y := by
              rw [hr5]
              exact gz_sset
            refine henv _ _ _ _ _ (fun hE5 _ => ?_)
            obtain ⟨r6, hr6⟩ : ∃ r6, r6 = pt_up r5 (pt_wc [wa_k (k + 1), wa_i 807, wa_i 808] (ak_tLZ 727)) := ⟨_, rfl⟩
            have v6 : ∀ t, r6 t = if t = 727 then ((k + 1 : Nat) : Int) else if t = 727 + 1 then r5 807 else if t = 727 + 2 then r5 808 else r5 t := fun t => by
              have e : pt_v r5 (pt_xr (0, .ofNat (k + 1))) = ((k + 1 : Nat) : Int) := by
                rw [pt_xr_ok hE5.1]
                show r5 0 + ((k + 1 : Nat) : Int) = _
                rw [hE5.1, Int.zero_add]
              rw [hr6, ← e]
              rfl
            refine hcall0 (158, 0, 0) _ _ _ _ _ r5 M 205 1 807 _ _ tw_kZ.2.1 w3 w4 wk2_sZ (tw_MZ (n := n) (c := c) hn hops) (by
              rw [← hr6]
              show r6 727 = tw_gZ c
              rw [v6, if_pos rfl, gk]) (fun r7 M7 o hq => ?_)
            rw [← hr6] at hq
            obtain ⟨rc, rs⟩ := wa_rm (n := n + 1) tw_kZ.2.2
            rw [rc, rs]
            obtain ⟨rfl, y2, eM⟩ := hq
            have eM := eM.symm
            subst eM
            have evj : ak_jZ c (r6 728) (r6 729) = ak_jZ c x y := by
              rw [v6, if_neg (by omega), if_pos (by omega), v6, if_neg (by omega), if_neg (by omega), if_pos (by omega), t5, n5 _ (by omega), t4]
            rw [evj]
            obtain ⟨r8, hr8⟩ : ∃ r8, r8 = pt_mrg 727 r5 r7 807 (some (ak_jZ c x y)) := ⟨_, rfl⟩
            show P (161, 0, 0) (wk2_wZ v (k + 1)) (.inl (807, 0) :: .inl (729, -1) :: .inr (.inr (some (some 292))) :: []) (pt_mrg 727 r5 r7 807 (some (ak_jZ c x y))) _
            rw [← hr8]
            have lo8 : ∀ t, t < 727 → r8 t = r5 t := fun t ht => by
              rw [hr8, wa_mlt ht, y2 t ht, v6, if_neg (by omega), if_neg (by omega), if_neg (by omega)]
            have hi8 : ∀ t, 727 ≤ t → t ≠ 807 → r8 t = r5 t := fun t ht hne => by
              rw [hr8]
              show (if t < 727 then r7 t else if t = 807 then ak_jZ c x y else r5 t) = r5 t
              rw [if_neg (by omega), if_neg hne]
            have t8 : r8 807 = ak_jZ c x y := by
              rw [hr8]
              exact wa_mz (by omega)
            have e82 : r8 729 = ((st.length + 1 : Nat) : Int) := by rw [hi8 _ (by omega) (by omega), n5 _ (by omega), e42]
            have e83 : r8 730 = ((400 * v + s0 + (gb_cs pre).length : Nat) : Int) := by rw [hi8 _ (by omega) (by omega), n5 _ (by omega), n4 _ (by omega), v3, if_neg (by omega), e23]
            refine hst (161, 0, 0) _ [] r8 M 292 110 st.length (729, -1) (807, 0) s4 (by omega) (by show r8 729 + -1 = _; omega) ?_
            have evx : ai_vx r8 (807, 0) = ak_jZ c x y := (Int.add_zero _).trans t8
            rw [evx]
            refine hseg _ _ _ _ _ r8 _ _ _ _ _ _ u3 ⟨pt_m0, pt_m1 ⟨by show (0 : Int) ≤ r8 730; omega, by show r8 730 ≤ 1998; omega⟩, pt_m0⟩ ⟨fun _ => ?_, trivial⟩
            obtain ⟨r9, hr9⟩ : ∃ r9, r9 = pt_up r8 [(730, gz_d 730 1)] := ⟨_, rfl⟩
            show P (16, 0, 0) (wk2_hZ v) [] (pt_up r8 [(730, gz_d 730 1)]) _
            rw [← hr9]
            have v9 : ∀ t, r9 t = if t = 730 then r8 730 + 1 else r8 t := fun t => by
              rw [hr9]
              rfl
            refine again (ak_jZ c x y :: st) r9 _ est hd (by rw [List.length_cons]; omega) ⟨?_, ?_, ?_⟩ (ak_at_pushZ (ak_at_popZ (ak_at_popZ ha))) (fun t w => ?_) (fun z w => ?_)
            · rw [v9, if_neg (by omega), hi8 _ (by omega) (by omega), n5 _ (by omega), n4 _ (by omega), v3, if_neg (by omega), f2 _ (by omega), g1]
            · rw [v9, if_neg (by omega), List.length_cons, e82]
            · rw [v9, if_pos rfl, l2', e83]
              omega
            · rw [v9, if_neg (by omega), lo8 t w, n5 t (by omega), n4 t (by omega), v3, if_neg (by omega), f2 t (by omega)]
              exact fr t w
            · rw [← fM z w]
              funext u
              exact if_neg (fun q => w q.1)
          · rw [if_neg x2] at hd
            cases hd
        · rw [if_neg x14] at hd
          cases hd
end WKS
noncomputable def wk2_aZ : List ai_V := [wa_r 264, wa_i 727, wa_i 728]
noncomputable def wk2_PZ (v ci s0 : Nat) (V : Nat → Int) (m : List Int) (r : Nat → Int) (M : Nat → Nat → Int) : Prop := ((r 727 = (v : Int) ∧ r 728 = (ci : Int)) ∧ ∀ k, k < 5 → r (419 + k) = V k) ∧ (M 288 ci = (s0 : Int) ∧ M 289 ci = ((s0 + (gb_cs m).length : Nat) : Int)) ∧ ∀ x, x < (gb_cs m).length → M 290 (400 * v + s0 + x) = (gb_cs m).getD x 0
theorem wk2_MZ {n v ci s0 : Nat} {V : Nat → Int} {m : List Int} (hn : 4 ≤ n) (hv : v < 4) (hci : ci < 32) (h400 : s0 + (gb_cs m).length ≤ 400) (hd : ps_dp 31 m 0 = some 1) : pt_Met (n + 1 + 1) 206 zyY wk2_aZ (wk2_PZ v ci s0 V m) (fun r M r2 M2 o => o = some ((av_stsZ V m []).getD 0 0) ∧ (∀ t, t < 727 → r2 t = r t) ∧ ∀ z, z ≠ 292 → M2 z = M z) 1 := by
  refine pt_intro (L0 := [wa_r 264, wa_i 727, wa_i 728, wa_u, wa_u, wa_u]) wk2_k2Z.2.2.1 (by omega) zysys (by
    rw [wk2_k2Z.2.1.2]
    rfl) (fun P r M h hp => ?_)
  have h' := h
  obtain ⟨hseg, henv, hrel, -, hld, -⟩ := h'
  obtain ⟨⟨⟨p1, p2⟩, p3⟩, ⟨p4, p5⟩, p6⟩ := hp
  refine henv _ _ _ _ _ (fun hE _ => ?_)
  have h0 : r 0 = 0 := hE.1
  refine hrel (0, 0, 0) _ (wk2_LZ v wa_u wa_u wa_u) [] [] r M ⟨rfl, ⟨by show 0 < 827; omega, by show r 727 + 0 = r 0 + (v : Int); omega⟩, ⟨by show 728 < 827; omega, rfl⟩, trivial, trivial, trivial, trivial⟩ trivial ?_
  have q1 := List.all_eq_true.mp wk2_c1Z v (List.mem_range.mpr hv)
  simp only [Bool.and_eq_true] at q1
  obtain ⟨⟨c1, c2⟩, -⟩ := q1
  have qk := List.all_eq_true.mp wk2_k1Z v (List.mem_range.mpr hv)
  rw [Bool.and_eq_true, Bool.and_eq_true] at qk
  refine hseg _ _ _ _ _ r M _ _ _ _ _ c1 ⟨pt_m0, pt_m1 ⟨by show (0 : Int) ≤ r 728; omega, by show r 728 ≤ 31; omega⟩, pt_m0⟩ ⟨fun _ => ?_, trivial⟩
  refine hld (12, 0, 0) _ [wa_k (400 * v)] r M 288 40 807 ci (728, 0) qk.1.1 (by omega) (by show r 728 + 0 = _; omega) ?_
  rw [p4]
  obtain ⟨r1, hr1⟩ : ∃ r1, r1 = pt_set r 807 (s0 : Int) := ⟨_, rfl⟩
  show P (13, 0, 0) (wk2_LZ v (wa_k 0) wa_u wa_u) [wa_i 807, wa_k (400 * v)] (pt_set r 807 (s0 : Int)) M
  rw [← hr1]
  have n1 : ∀ t, t ≠ 807 → r1 t = r t := fun t a => by
    rw [hr1]
    exact if_neg a
  have t1 : r1 807 = (s0 : Int) := by
    rw [hr1]
    exact gz_sset
  refine hseg _ _ _ _ _ r1 M _ _ _ _ _ c2 ⟨pt_m0, pt_m1 ⟨by show (0 : Int) ≤ r1 807; omega, by show r1 807 ≤ 400; omega⟩, pt_m0⟩ ⟨fun _ => ?_, trivial⟩
  obtain ⟨r2, hr2⟩ : ∃ r2, r2 = pt_up r1 [(729, gz_k 0), (730, [(0, 807, 0), (3, 0, .ofNat (400 * v))])] := ⟨_, rfl⟩
  show P (28, 0, 0) (wk2_hZ v) [wa_i 728, wa_r 289, wa_k (400 * v), wa_i 730] (pt_up r1 [(729, gz_k 0), (730, [(0, 807, 0), (3, 0, .ofNat (400 * v))])]) M
  rw [← hr2]
  have v2 : ∀ t, r2 t = if t = 729 then 0 else if t = 730 then r1 807 + ((400 * v : Nat) : Int) else r1 t := fun t => by
    rw [hr2]
    rfl
  have f2 : ∀ t, t < 727 → r2 t = r t := fun t a => by rw [v2, if_neg (by omega), if_neg (by omega), n1 t (by omega)]
  exact wk2_loopZ (r0 := r2) (M0 := M) (V := V) h hn hv hci (by rw [v2, if_neg (by omega), if_neg (by omega), n1 _ (by omega), p2]) p5 h400 p6 (fun k hk => by rw [f2 _ (by omega)]; exact p3 k hk) (fun r3 M3 g1 g2 => ⟨rfl, fun t a => (g1 t a).trans (f2 t a), g2⟩) m [] [] r2 M rfl rfl hd (Nat.zero_le _) ⟨by rw [v2, if_neg (by omega), if_neg (by omega), n1 _ (by omega), p2], by rw [v2, if_pos rfl]; rfl, by rw [v2, if_neg (by omega), if_pos rfl, t1]; show (s0 : Int) + ((400 * v : Nat) : Int) = ((400 * v + s0 + 0 : Nat) : Int); omega⟩ ak_at_0Z (fun _ _ => rfl) (fun _ _ => rfl)
