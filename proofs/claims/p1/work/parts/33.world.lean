/-! THE WORLD AT THE LAW'S START (class rows printed by program) -/
noncomputable def st_dv (v : Option ai_V) (ty : FieldType) : Bool := match v, ty with
  | some (.inl (0, .ofNat 0)), .int => true
  | some (.inl (0, .ofNat 0)), .boolean => true
  | some (.inr (.inl (0, .ofNat 0))), .long => true
  | some (.inr (.inr (some none))), .object _ => true
  | some (.inr (.inr (some none))), .array _ => true
  | _, _ => false
theorem st_dv_ok {v : Option ai_V} {ty : FieldType} (h : st_dv v ty = true) : v = ai_dv ty := by
  unfold st_dv at h
  split at h <;> first | rfl | cases h
theorem st_cls1 {gs : List Nat} {ci : Nat} {C : String} {T : u_T} {N : Nat} {ty : Nat → FieldType} (e : vwCl[ci]? = some (C, T, N)) (h2 : ∀ k, k < N → parseFieldDescriptor (T k).2.2.1 = some (ty k)) (h3 : ∀ a, a < N → ∀ b, b < N → a ≠ b → (T a).2.1 ≠ (T b).2.1)
    (h1 : ft_all (ft_pick gs lw_tbl) (u_ws C T N) = true) (h4 : ft_all (ft_pick gs lw_tbl) [Cond.instantiable C N, Cond.initialized C] = true) (h5 : (ct_dflt ci).length = N) (h6 : ∀ k, k < N → st_dv (ai_getv (ct_dflt ci) k) (ty k) = true) (h7 : ∀ k, k < N → ct_kind ci k = ai_kd (ty k)) : ai_cls ft_W ct_dflt ct_kind ci := by
  have hu : ∀ u ∈ ft_pick gs lw_tbl, u ∈ lw_tbl := fun u hu => ft_pick_ok hu
  have g := ft_all_ok hu h4
  exact ⟨C, T, N, ty, e, ft_all_ok hu h1, h2, h3, g _ List.mem_cons_self, g _ (List.mem_cons_of_mem _ List.mem_cons_self), h5, fun k hk => st_dv_ok (h6 k hk), h7⟩
theorem sc_0 : ai_cls ft_W ct_dflt ct_kind 0 := st_cls1 (gs := [133, 342, 39, 1, 1, 1, 1, 1, 1, 1, 1, 1, 1, 1]) (C := RX0) (T := TX0) (N := 12) (ty := tyX0) rfl tyX0_ok nmX0 (by decide +kernel) (by decide +kernel) rfl (by decide +kernel) (by decide +kernel)
theorem sc_1 : ai_cls ft_W ct_dflt ct_kind 1 := st_cls1 (gs := [132, 296, 20, 1, 1, 1, 1, 1, 1, 1, 1, 1, 1, 1]) (C := RX1) (T := TX1) (N := 12) (ty := tyX1) rfl tyX1_ok nmX1 (by decide +kernel) (by decide +kernel) rfl (by decide +kernel) (by decide +kernel)
theorem sc_2 : ai_cls ft_W ct_dflt ct_kind 2 := st_cls1 (gs := [135, 447, 15, 1, 1, 1, 1, 1, 1, 1]) (C := RX2) (T := TX2) (N := 8) (ty := tyX2) rfl tyX2_ok nmX2 (by decide +kernel) (by decide +kernel) rfl (by decide +kernel) (by decide +kernel)
theorem sc_3 : ai_cls ft_W ct_dflt ct_kind 3 := st_cls1 (gs := [126, 32, 170, 1, 1, 1, 1, 1, 1, 1, 1, 1, 1, 1, 1, 1, 1, 1]) (C := RX3) (T := TX3) (N := 16) (ty := tyX3) rfl tyX3_ok nmX3 (by decide +kernel) (by decide +kernel) rfl (by decide +kernel) (by decide +kernel)
theorem sc_4 : ai_cls ft_W ct_dflt ct_kind 4 := st_cls1 (gs := [127, 40, 68, 1, 1, 1, 1, 1, 1, 1, 1, 1, 1, 1, 1, 1, 1]) (C := RX4) (T := TX4) (N := 15) (ty := tyX4) rfl tyX4_ok nmX4 (by decide +kernel) (by decide +kernel) rfl (by decide +kernel) (by decide +kernel)
theorem sc_5 : ai_cls ft_W ct_dflt ct_kind 5 := st_cls1 (gs := [136, 481, 23, 1, 1, 1, 1, 1, 1, 1, 1, 1, 1, 1, 1, 1]) (C := RX5) (T := TX5) (N := 14) (ty := tyX5) rfl tyX5_ok nmX5 (by decide +kernel) (by decide +kernel) rfl (by decide +kernel) (by decide +kernel)
theorem sc_6 : ai_cls ft_W ct_dflt ct_kind 6 := st_cls1 (gs := [128, 45, 9, 1, 1, 1, 1]) (C := RX6) (T := TX6) (N := 5) (ty := tyX6) rfl tyX6_ok nmX6 (by decide +kernel) (by decide +kernel) rfl (by decide +kernel) (by decide +kernel)
theorem sc_7 : ai_cls ft_W ct_dflt ct_kind 7 := st_cls1 (gs := [134, 407, 16, 1, 1, 1, 1, 1, 1, 1, 1, 1, 1]) (C := RX7) (T := TX7) (N := 11) (ty := tyX7) rfl tyX7_ok nmX7 (by decide +kernel) (by decide +kernel) rfl (by decide +kernel) (by decide +kernel)
theorem sc_8 : ai_cls ft_W ct_dflt ct_kind 8 := st_cls1 (gs := [131, 253, 19, 1, 1, 1, 1, 1, 1, 1, 1, 1, 1]) (C := RX8) (T := TX8) (N := 11) (ty := tyX8) rfl tyX8_ok nmX8 (by decide +kernel) (by decide +kernel) rfl (by decide +kernel) (by decide +kernel)
theorem sc_9 : ai_cls ft_W ct_dflt ct_kind 9 := st_cls1 (gs := [130, 233, 10, 1, 1, 1]) (C := RX9) (T := TX9) (N := 4) (ty := tyX9) rfl tyX9_ok nmX9 (by decide +kernel) (by decide +kernel) rfl (by decide +kernel) (by decide +kernel)
theorem sc_10 : ai_cls ft_W ct_dflt ct_kind 10 := st_cls1 (gs := [137, 534, 13, 1, 1, 1, 1, 1, 1]) (C := RX10) (T := TX10) (N := 7) (ty := tyX10) rfl tyX10_ok nmX10 (by decide +kernel) (by decide +kernel) rfl (by decide +kernel) (by decide +kernel)
theorem sc_11 : ai_cls ft_W ct_dflt ct_kind 11 := st_cls1 (gs := [125, 25, 564, 1, 1, 1, 1, 1, 1, 1, 1, 1, 1, 1, 1, 1]) (C := RX11) (T := TX11) (N := 14) (ty := tyX11) rfl tyX11_ok nmX11 (by decide +kernel) (by decide +kernel) rfl (by decide +kernel) (by decide +kernel)
theorem sc_12 : ai_cls ft_W ct_dflt ct_kind 12 := st_cls1 (gs := [138, 1481, 123, 1, 1, 1, 1, 1, 1, 1, 1, 1, 1, 1, 1, 1, 1, 1, 1, 1, 1, 1, 1, 1, 1, 1, 1, 1, 1, 1, 1, 1, 1, 1, 1, 1, 1, 1, 1, 1, 1, 1, 1, 1, 1, 1, 1, 1, 1, 1, 1, 1, 1, 1, 1, 1, 1, 1, 1, 1, 1, 1, 1, 1, 1, 1, 1, 1, 1, 1, 1, 1, 1, 1, 1, 1, 1, 1, 1, 1, 1, 1, 1, 1, 1, 1, 1, 1, 1, 1, 1, 1, 1, 1, 1, 1, 1, 1, 1, 1, 1, 1, 1, 1, 1, 1, 1, 1, 1, 1, 1, 1, 1, 1, 1]) (C := RX12) (T := TX12) (N := 113) (ty := tyX12) rfl tyX12_ok nmX12 (by decide +kernel) (by decide +kernel) rfl (by decide +kernel) (by decide +kernel)
theorem sc_all : ∀ ci, ci < 13 → ai_cls ft_W ct_dflt ct_kind ci := fun ci h => match ci, h with
  | 0, _ => sc_0
  | 1, _ => sc_1
  | 2, _ => sc_2
  | 3, _ => sc_3
  | 4, _ => sc_4
  | 5, _ => sc_5
  | 6, _ => sc_6
  | 7, _ => sc_7
  | 8, _ => sc_8
  | 9, _ => sc_9
  | 10, _ => sc_10
  | 11, _ => sc_11
  | 12, _ => sc_12
  | n + 13, h => absurd h (by omega)
theorem st_D {s : State} {args : Array Value} (hts : ∀ w ∈ ft_W, w.before args s = true) : ∃ D : va_G, ∀ (c : Nat) (q : vw_C), vwCl[c]? = some q → u_Kn s q.1 q.2.1 q.2.2 (D.1 c) (D.2 c) := by
  have h : ∀ c : Nat, ∃ (k : ClassId) (i : Nat → Nat), ∀ q : vw_C, vwCl[c]? = some q → u_Kn s q.1 q.2.1 q.2.2 k i := by
    intro c
    by_cases hc : c < 13
    · obtain ⟨C, T, N, ty, e, w1, -, -, w4, -⟩ := sc_all c hc
      obtain ⟨k, i, hk⟩ := u_known hts w1 (hts _ w4)
      exact ⟨k, i, fun q hq => by rw [e] at hq; cases hq; exact hk⟩
    · exact ⟨0, fun _ => 0, fun q hq => absurd (show c < 13 from (List.getElem?_eq_some_iff.mp hq).1) hc⟩
  exact ⟨(fun c => Classical.choose (h c), fun c => Classical.choose (Classical.choose_spec (h c))), fun c q hq => Classical.choose_spec (Classical.choose_spec (h c)) q hq⟩
theorem st_arr {s : State} {args : Array Value} {ty : FieldType} (h : (Cond.arrayClass ty).before args s = true) (hp : ty = .int ∨ ty = .long ∨ ty = .boolean) : ∃ cA, ArrOfT s cA ty ∧ va_RA s cA ty := by
  obtain ⟨cA, kA, comp, h1, h2, h3⟩ := Cond.arrayClass_spec h
  refine ⟨cA, fun n z => ⟨fun k h => (by cases h), kA, h2, comp, h3⟩, ?_⟩
  rcases hp with rfl | rfl | rfl
  · exact h1
  · exact h1
  · exact h1
theorem st_arrA {s : State} (h : va_AOA .int s) : ∃ cA, ArrOfT s cA (.array .int) ∧ va_RA s cA (.array .int) := by
  obtain ⟨comp, cA, kA, h1, h2, h3, h4, h5⟩ := ai_over h
  exact ⟨cA, fun n z => ⟨fun k h => (by cases h), kA, h3, comp, h4⟩, h5⟩
theorem st_arrO {s : State} {C : String} (h : va_AO C s) : ∃ cA, ArrOfT s cA (.object C) ∧ va_RA s cA (.object C) := by
  obtain ⟨comp, cA, kA, h1, h2, h3, h4, h5⟩ := Cond.arrayOver_spec h
  exact ⟨cA, fun n z => ⟨fun k h => (by cases h), kA, h3, comp, h4⟩, kA, comp, h3, h4, h1, h5⟩
theorem st_K {s : State} {args : Array Value} (hts : ∀ w ∈ lw_tbl, w.before args s = true) : ∃ (D : va_G) (tyc : Nat → ClassId), va_K D vwCl (ai_tys tyc) s ∧ va_AO RX4 s ∧ va_AO "java/lang/String" s ∧ va_AOA .int s := by
  have hW : ∀ w ∈ ft_W, w.before args s = true := fun w hw => hts w (List.mem_filter.mp hw).1
  obtain ⟨D, hD⟩ := st_D hW
  have a4 : va_AO RX4 s := (hts (Cond.arrayOver (.object RX4)) (List.mem_of_getElem? (i := 167) (by decide +kernel)))
  have a5 : va_AO "java/lang/String" s := (hts (Cond.arrayOver (.object "java/lang/String")) (List.mem_of_getElem? (i := 1626) (by decide +kernel)))
  have a3 : va_AOA .int s := (hts (Cond.arrayOver (.array .int)) (List.mem_of_getElem? (i := 165) (by decide +kernel)))
  obtain ⟨t0, p0, q0⟩ := st_arr (ty := .int) (hts _ (List.mem_of_getElem? (i := 195) (by decide +kernel))) (Or.inl rfl)
  obtain ⟨t1, p1, q1⟩ := st_arr (ty := .long) (hts _ (List.mem_of_getElem? (i := 1971) (by decide +kernel))) (Or.inr (Or.inl rfl))
  obtain ⟨t2, p2, q2⟩ := st_arr (ty := .boolean) (hts _ (List.mem_of_getElem? (i := 616) (by decide +kernel))) (Or.inr (Or.inr rfl))
  obtain ⟨t3, p3, q3⟩ := st_arrA a3
  obtain ⟨t4, p4, q4⟩ := st_arrO a4
  obtain ⟨t5, p5, q5⟩ := st_arrO a5
  refine ⟨D, (fun k => match k with | 0 => t0 | 1 => t1 | 2 => t2 | 3 => t3 | 4 => t4 | _ => t5), ⟨hD, fun k q hk => ?_⟩, a4, a5, a3⟩
  match k, hk with
  | 0, hk => cases hk; exact ⟨p0, q0⟩
  | 1, hk => cases hk; exact ⟨p1, q1⟩
  | 2, hk => cases hk; exact ⟨p2, q2⟩
  | 3, hk => cases hk; exact ⟨p3, q3⟩
  | 4, hk => cases hk; exact ⟨p4, q4⟩
  | 5, hk => cases hk; exact ⟨p5, q5⟩
  | n + 6, hk => cases hk
theorem st_text {s : State} {args : Array Value} {own tx : String} {k : Nat} {A : Nat → Prop} (h1 : (Cond.stringRef own k tx).before args s = true) (h2 : (Cond.exactly (Term.string own k) "java/lang/String").before args s = true) (hA : ∀ a : Nat, a < s.heap.size → ¬ A a) : ∃ a, va_O "java/lang/String" a A s s.heap ∧ vk_R own k tx a s := by
  obtain ⟨a, c, cell, kk, g1, -⟩ := Cond.exactly_spec h2
  exact ⟨a, va_Oof h2 g1 hA, vk_R.of h1 g1⟩
theorem st_texts {s : State} {b : Nat} {A : Nat → Prop} (hts : ∀ w ∈ lw_tbl, w.before #[Value.ref b] s = true) (hgv : (Jvm.Cond.and given_1 narrow_1).before #[Value.ref b] s = true) (hA : ∀ a : Nat, a < s.heap.size → ¬ A a) : ∃ f : Nat → Nat, (∀ i, i < 10 → va_O "java/lang/String" (f i) A s s.heap) ∧ ∀ q ∈ ct_strs, vk_R q.1 q.2.1 q.2.2.1 (f q.2.2.2) s := by
  have hn := flat_of_before _ hgv
  obtain ⟨a0, o0, v0⟩ := st_text (A := A) (own := "LightsMarketModel") (k := 9) (tx := "unit") (hts _ (List.mem_of_getElem? (i := 1627) (by decide +kernel))) (hn _ (by decide +kernel)) hA
  obtain ⟨a1, o1, v1⟩ := st_text (A := A) (own := "LightsMarketModel") (k := 11) (tx := "quarter") (hts _ (List.mem_of_getElem? (i := 1628) (by decide +kernel))) (hn _ (by decide +kernel)) hA
  obtain ⟨a2, o2, v2⟩ := st_text (A := A) (own := "LightsMarketModel") (k := 13) (tx := "load") (hts _ (List.mem_of_getElem? (i := 1629) (by decide +kernel))) (hn _ (by decide +kernel)) hA
  obtain ⟨a3, o3, v3⟩ := st_text (A := A) (own := "LightsMarketModel") (k := 15) (tx := "true") (hts _ (List.mem_of_getElem? (i := 1630) (by decide +kernel))) (hn _ (by decide +kernel)) hA
  obtain ⟨a4, o4, v4⟩ := st_text (A := A) (own := "LightsMarketModel") (k := 17) (tx := "most") (hts _ (List.mem_of_getElem? (i := 1631) (by decide +kernel))) (hn _ (by decide +kernel)) hA
  obtain ⟨a5, o5, v5⟩ := st_text (A := A) (own := "LightsMarketModel") (k := 379) (tx := "not") (hts _ (List.mem_of_getElem? (i := 2087) (by decide +kernel))) (hn _ (by decide +kernel)) hA
  obtain ⟨a6, o6, v6⟩ := st_text (A := A) (own := "LightsMarketModel") (k := 387) (tx := "and") (hts _ (List.mem_of_getElem? (i := 2116) (by decide +kernel))) (hn _ (by decide +kernel)) hA
  obtain ⟨a7, o7, v7⟩ := st_text (A := A) (own := "LightsMarketModel") (k := 392) (tx := "or") (hts _ (List.mem_of_getElem? (i := 2117) (by decide +kernel))) (hn _ (by decide +kernel)) hA
  obtain ⟨a8, o8, v8⟩ := st_text (A := A) (own := "LightsMarketModel") (k := 394) (tx := "price") (hts _ (List.mem_of_getElem? (i := 2059) (by decide +kernel))) (hn _ (by decide +kernel)) hA
  obtain ⟨a9, o9, v9⟩ := st_text (A := A) (own := "LightsMarketModel") (k := 396) (tx := "when") (hts _ (List.mem_of_getElem? (i := 2066) (by decide +kernel))) (hn _ (by decide +kernel)) hA
  refine ⟨(fun i => match i with | 0 => a0 | 1 => a1 | 2 => a2 | 3 => a3 | 4 => a4 | 5 => a5 | 6 => a6 | 7 => a7 | 8 => a8 | _ => a9), fun i hi => ?_, fun q hq => ?_⟩
  · match i, hi with
    | 0, _ => exact o0
    | 1, _ => exact o1
    | 2, _ => exact o2
    | 3, _ => exact o3
    | 4, _ => exact o4
    | 5, _ => exact o5
    | 6, _ => exact o6
    | 7, _ => exact o7
    | 8, _ => exact o8
    | 9, _ => exact o9
    | n + 10, h => omega
  · unfold ct_strs at hq
    rcases List.mem_cons.mp hq with rfl | hq
    · exact v0
    rcases List.mem_cons.mp hq with rfl | hq
    · exact v1
    rcases List.mem_cons.mp hq with rfl | hq
    · exact v2
    rcases List.mem_cons.mp hq with rfl | hq
    · exact v3
    rcases List.mem_cons.mp hq with rfl | hq
    · exact v4
    cases hq
