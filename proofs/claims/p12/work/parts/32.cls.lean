/-! CLASSES (rows printed by genworld.py); what the tables say of each method, for the layers -/
noncomputable def st_dv (v : Option ai_V) (ty : FieldType) : Bool := match v, ty with
  | some (.inl (0, .ofNat 0)), .int => true
  | some (.inl (0, .ofNat 0)), .boolean => true
  | some (.inr (.inl (0, .ofNat 0))), .long => true
  | some (.inr (.inr (some none))), .object _ => true
  | some (.inr (.inr (some none))), .array _ => true
  | _, _ => false
theorem st_dv_ok {v : Option ai_V} {ty : FieldType} (h : st_dv v ty = true) : v = ai_dv ty := by
  unfold st_dv at h
  split at h <;> first | rfl | cases h
theorem st_cls1 {gs : List (List Nat)} {ci : Nat} {C : String} {T : u_T} {N : Nat} {ty : Nat → FieldType} (e : vwCl[ci]? = some (C, T, N)) (h2 : ∀ k, k < N → parseFieldDescriptor (T k).2.2.1 = some (ty k)) (h3 : ∀ a, a < N → ∀ b, b < N → a ≠ b → (T a).2.1 ≠ (T b).2.1)
    (h1 : ft_all (ft_pick gs ft_ls) (u_ws C T N) = true) (h4 : ft_all (ft_pick gs ft_ls) [Cond.instantiable C N, Cond.initialized C] = true) (h5 : (ct_dflt ci).length = N) (h6 : ∀ k, k < N → st_dv (ai_getv (ct_dflt ci) k) (ty k) = true) (h7 : ∀ k, k < N → ct_kind ci k = ai_kd (ty k)) : ai_cls ft_W ct_dflt ct_kind ci := by
  have hu : ∀ u ∈ ft_pick gs ft_ls, u ∈ lw_tbl := fun u hu => ft_pick_ok hu
  have g := ft_all_ok hu h4
  exact ⟨C, T, N, ty, e, ft_all_ok hu h1, h2, h3, g _ List.mem_cons_self, g _ (List.mem_cons_of_mem _ List.mem_cons_self), h5, fun k hk => st_dv_ok (h6 k hk), h7⟩
theorem sc_0 : ai_cls ft_W ct_dflt ct_kind 0 := st_cls1 (gs := [[], [9], [112, 39, 1, 1, 1, 1, 1, 1, 1, 1, 1, 1, 1]]) (C := RX0) (T := TX0) (N := 12) (ty := tyX0) rfl tyX0_ok nmX0 (by decide +kernel) (by decide +kernel) rfl (by decide +kernel) (by decide +kernel)
theorem sc_1 : ai_cls ft_W ct_dflt ct_kind 1 := st_cls1 (gs := [[], [8], [65, 20, 1, 1, 1, 1, 1, 1, 1, 1, 1, 1, 1]]) (C := RX1) (T := TX1) (N := 12) (ty := tyX1) rfl tyX1_ok nmX1 (by decide +kernel) (by decide +kernel) rfl (by decide +kernel) (by decide +kernel)
theorem sc_2 : ai_cls ft_W ct_dflt ct_kind 2 := st_cls1 (gs := [[], [11], [219, 15, 1, 1], [1, 1, 1, 1, 1]]) (C := RX2) (T := TX2) (N := 8) (ty := tyX2) rfl tyX2_ok nmX2 (by decide +kernel) (by decide +kernel) rfl (by decide +kernel) (by decide +kernel)
theorem sc_3 : ai_cls ft_W ct_dflt ct_kind 3 := st_cls1 (gs := [[], [2, 32, 170, 1, 1, 1, 1, 1, 1, 1, 1, 1, 1, 1, 1, 1, 1, 1]]) (C := RX3) (T := TX3) (N := 16) (ty := tyX3) rfl tyX3_ok nmX3 (by decide +kernel) (by decide +kernel) rfl (by decide +kernel) (by decide +kernel)
theorem sc_4 : ai_cls ft_W ct_dflt ct_kind 4 := st_cls1 (gs := [[], [3, 40, 68, 1, 1, 1, 1, 1, 1, 1, 1, 1, 1, 1, 1, 1, 1]]) (C := RX4) (T := TX4) (N := 15) (ty := tyX4) rfl tyX4_ok nmX4 (by decide +kernel) (by decide +kernel) rfl (by decide +kernel) (by decide +kernel)
theorem sc_5 : ai_cls ft_W ct_dflt ct_kind 5 := st_cls1 (gs := [[], [12], [], [14, 23, 1, 1, 1, 1, 1, 1, 1, 1, 1, 1, 1, 1, 1]]) (C := RX5) (T := TX5) (N := 14) (ty := tyX5) rfl tyX5_ok nmX5 (by decide +kernel) (by decide +kernel) rfl (by decide +kernel) (by decide +kernel)
theorem sc_6 : ai_cls ft_W ct_dflt ct_kind 6 := st_cls1 (gs := [[], [4, 45, 9, 1, 1, 1, 1]]) (C := RX6) (T := TX6) (N := 5) (ty := tyX6) rfl tyX6_ok nmX6 (by decide +kernel) (by decide +kernel) rfl (by decide +kernel) (by decide +kernel)
theorem sc_7 : ai_cls ft_W ct_dflt ct_kind 7 := st_cls1 (gs := [[], [10], [178, 16, 1, 1, 1, 1, 1, 1, 1, 1, 1, 1]]) (C := RX7) (T := TX7) (N := 11) (ty := tyX7) rfl tyX7_ok nmX7 (by decide +kernel) (by decide +kernel) rfl (by decide +kernel) (by decide +kernel)
theorem sc_8 : ai_cls ft_W ct_dflt ct_kind 8 := st_cls1 (gs := [[], [7], [21, 19, 1, 1, 1, 1, 1, 1, 1, 1, 1, 1]]) (C := RX8) (T := TX8) (N := 11) (ty := tyX8) rfl tyX8_ok nmX8 (by decide +kernel) (by decide +kernel) rfl (by decide +kernel) (by decide +kernel)
theorem sc_9 : ai_cls ft_W ct_dflt ct_kind 9 := st_cls1 (gs := [[], [6], [0, 10, 1, 1, 1]]) (C := RX9) (T := TX9) (N := 4) (ty := tyX9) rfl tyX9_ok nmX9 (by decide +kernel) (by decide +kernel) rfl (by decide +kernel) (by decide +kernel)
theorem sc_10 : ai_cls ft_W ct_dflt ct_kind 10 := st_cls1 (gs := [[], [13], [], [68, 13, 1, 1, 1, 1, 1, 1]]) (C := RX10) (T := TX10) (N := 7) (ty := tyX10) rfl tyX10_ok nmX10 (by decide +kernel) (by decide +kernel) rfl (by decide +kernel) (by decide +kernel)
theorem sc_11 : ai_cls ft_W ct_dflt ct_kind 11 := st_cls1 (gs := [[], [1, 25], [], [112, 1, 1, 1, 1, 1, 1, 1, 1, 1, 1, 1, 1, 1]]) (C := RX11) (T := TX11) (N := 14) (ty := tyX11) rfl tyX11_ok nmX11 (by decide +kernel) (by decide +kernel) rfl (by decide +kernel) (by decide +kernel)
theorem sc_12 : ai_cls ft_W ct_dflt ct_kind 12 := st_cls1 (gs := [[], [14], [], [], [], [], [], [56, 123, 1, 1, 1, 1, 1, 1, 1, 1, 1, 1, 1, 1, 1, 1, 1, 1, 1, 1, 1, 1, 1, 1, 1, 1, 1, 1, 1, 1, 1], [0, 1, 1, 1, 1, 1, 1, 1, 1, 1, 1, 1, 1, 1, 1, 1, 1, 1, 1, 1, 1, 1, 1, 1, 1, 1, 1, 1, 1, 1, 1, 1, 1, 1, 1, 1, 1, 1, 1, 1, 1, 1, 1, 1, 1, 1, 1, 1, 1, 1, 1, 1, 1, 1, 1, 1, 1, 1, 1, 1, 1, 1, 1, 1, 1, 1, 1, 1, 1, 1, 1, 1, 1, 1, 1, 1, 1, 1, 1, 1, 1, 1, 1]]) (C := RX12) (T := TX12) (N := 113) (ty := tyX12) rfl tyX12_ok nmX12 (by decide +kernel) (by decide +kernel) rfl (by decide +kernel) (by decide +kernel)
theorem sc_all : ∀ ci, ci < 13 → ai_cls ft_W ct_dflt ct_kind ci := fun ci h => match ci, h with
  | 0, _ => sc_0
  | 1, _ => sc_1
  | 2, _ => sc_2
  | 3, _ => sc_3
  | 4, _ => sc_4
  | 5, _ => sc_5
  | 6, _ => sc_6
  | 7, _ => sc_7
  | 8, _ => sc_8
  | 9, _ => sc_9
  | 10, _ => sc_10
  | 11, _ => sc_11
  | 12, _ => sc_12
  | n + 13, h => absurd h (by omega)
theorem ct_hprog {mk : Nat → Nat → Option ai_AA} (hmk : ∀ mi, mk mi 99999 = none) : ∀ mi nl code hand bud ann, (ct_meth mk mi).map fr_unM = some (nl, code, hand, bud, ann) → ai_Pm ft_W ft_N ct_strs ct_mt ct_bud mi nl code hand bud ann := by
  intro mi nl code hand bud ann h
  have g := ct_all mi
  have em : ct_mt mi = ct_mtL (ai_tget 9 ct_prog mi) := rfl
  have eb : ct_bud mi = ct_budL (ai_tget 9 ct_prog mi) := rfl
  have eh : ct_meth mk mi = ct_with (mk mi) (ai_tget 9 ct_prog mi) := rfl
  rw [eh] at h
  unfold ai_Pm
  rw [em, eb]
  cases e : ai_tget 9 ct_prog mi with
  | none => rw [e] at h; cases h
  | some q =>
    obtain ⟨code0, hand0, b0, y⟩ := q
    rw [e] at h g
    have h : some (y.2.2.1, (fun pc => (code0 pc).map fr_un), hand0, b0, mk mi) = some (nl, code, hand, bud, ann) := h
    cases h
    obtain ⟨g1, g2, g3, g4⟩ := g
    refine ⟨rfl, rfl, g1, g3, fun pc z => ?_⟩
    have g5 := g4 pc z
    cases eh : hand pc z with
    | none => rw [eh] at g5; exact g5
    | some kp =>
      obtain ⟨k, pcn⟩ := kp
      rw [eh] at g5
      rcases g5 with ⟨e1, e2⟩ | g5
      · refine Or.inl ⟨?_, ?_⟩
        · show (code0 pcn).map fr_un = none
          rw [e1, e2]
          rfl
        · rw [e1]
          exact hmk mi
      · exact Or.inr g5
theorem ct_hnx {mk : Nat → Nat → Option ai_AA} : ∀ mi q, ct_meth mk mi = some q → fr_nx q.2.1 := by
  intro mi q h
  have g := ct_all mi
  have eh : ct_meth mk mi = ct_with (mk mi) (ai_tget 9 ct_prog mi) := rfl
  rw [eh] at h
  cases e : ai_tget 9 ct_prog mi with
  | none => rw [e] at h; cases h
  | some c =>
    obtain ⟨code0, hand0, b0, y⟩ := c
    rw [e] at h g
    have h : some (y.2.2.1, code0, hand0, b0, mk mi) = some q := h
    cases h
    exact g.2.1
