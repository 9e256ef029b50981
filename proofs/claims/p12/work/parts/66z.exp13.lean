/-! THE LEAST (the class): rows of units are tried -/
/-- numbers that it rests on whether a row fits -/
noncomputable def zc_dq (t : Nat) : Prop := (411 ≤ t ∧ t < 411 + 4) ∨ (133 ≤ t ∧ t < 133 + 4) ∨ (424 ≤ t ∧ t < 424 + 6) ∨ (430 ≤ t ∧ t < 430 + 120) ∨ (128 ≤ t ∧ t < 128 + 5) ∨ t = 88 ∨ t = 72 ∨ t = 87
noncomputable def zs_n (t : Nat) : Prop := ¬ (554 ≤ t ∧ t < 554 + 4) ∧ ¬ (558 ≤ t ∧ t < 558 + 4)
theorem zc_dq_ok {t : Nat} (h : zc_dq t) : (t < 727 ∧ zc_st t) ∧ zc_nP t ∧ zs_n t := by
  unfold zc_dq at h
  unfold zc_st zc_nP zs_n
  omega
/-- whether a row fits rests on numbers that the search leaves -/
theorem zc_fte {r r1 t t' : Nat → Int} (h : ∀ x, zc_dq x → r1 x = r x) (ht : ∀ j, j < 4 → t j = t' j) : zc_ft r1 t ↔ zc_ft r t' := by
  have pu : ∀ {p m : Nat}, p < 4 → m ≤ 4 → zc_pu r1 t m p = zc_pu r t' m p := fun {p m} hp => by
    induction m with
    | zero =>
      intro _
      show ai_op 1 0 (r1 (411 + p)) = ai_op 1 0 (r (411 + p))
      rw [h _ (by unfold zc_dq; omega)]
    | succ m ih =>
      intro hm
      show (if r1 (133 + m) = (p : Int) then ai_op 0 (zc_pu r1 t m p) (t m) else zc_pu r1 t m p) = if r (133 + m) = (p : Int) then ai_op 0 (zc_pu r t' m p) (t' m) else zc_pu r t' m p
      rw [h (133 + m) (by unfold zc_dq; omega), ih (by omega), ht m (by omega)]
  have hw : ∀ x, zc_dp x → zc_pr r1 t x = zc_pr r t' x := fun x a => by
    unfold zc_pr
    by_cases q : 566 ≤ x ∧ x < 566 + 4
    · rw [if_pos q, if_pos q]
      exact pu (by omega) (Nat.le_refl 4)
    · rw [if_neg q, if_neg q]
      exact h x (by unfold zc_dp at a; unfold zc_dq; omega)
  have ew : zc_vw r1 = zc_vw r := by
    unfold zc_vw
    rw [h 87 (by unfold zc_dq; omega), h 72 (by unfold zc_dq; omega)]
  unfold zc_ft
  rw [ew]
  exact ⟨fun g v hv hle => (zc_coe hv hw).mp (g v hv hle), fun g v hv hle => (zc_coe hv hw).mpr (g v hv hle)⟩
noncomputable def zc_a : List ai_V := [wa_r 87, wa_i 727, wa_i 728, wa_i 729]
noncomputable def zc_L (m : Nat) (u : ai_V) : List ai_V := [wa_r 87, wa_k m, wa_i 728, wa_i 729, u]
noncomputable def zc_lh (m : Nat) : List ai_V := zc_L m (wa_i 730)
noncomputable def zc_du : pt_X := [(0, 728, 0), (0, 730, 0), (2, 1, 0)]
noncomputable def zc_rx (m : Nat) : pt_X := match m with
  | 0 => [(0, 558 + 1, 0), (0, 558 + 2, 0), (2, 0, 0), (0, 558 + 3, 0), (2, 0, 0)]
  | 1 => [(0, 558 + 2, 0), (0, 558 + 3, 0), (2, 0, 0)]
  | 2 => [(0, 558 + 3, 0)]
  | _ => [(1, 0, 0)]
noncomputable def zc_sS (m : Nat) : List ai_V := [wa_i 729, wa_i 808, wa_k (m + 1), wa_r 87]
noncomputable def zc_cS (m : Nat) : List ai_V := [wa_i 807, wa_i 808, wa_k (m + 1), wa_r 87]
noncomputable def zc_cA (m : Nat) : List ai_V := [wa_r 87, wa_k (m + 1), wa_i 808, wa_i 807]
noncomputable def zc_hb : List (Nat × Int × Int) := [(730, (0, 7)), (728, (0, 99)), (558, (0, 7)), (558 + 1, (0, 7)), (558 + 2, (0, 7)), (558 + 3, (0, 7))]
noncomputable abbrev zc_r (st : List Nat) (sk : Bool) (pc : Nat) (L S : List ai_V) (cp : List (Nat × Int × Int)) (le : List (ai_X × ai_X)) (C : List Nat) (Es : List pt_E) : Bool := pt_row zxY 9 st sk (pc, 0, 0) L S [] cp le C Es
theorem zc_e1 : (List.range 4).all (fun m => zc_r [16, 65] true 0 (zc_L m wa_u) [] [(46, (-1, -1))] [] [] [((65, 0, 0), (zc_lh m, []), [(730, gz_p (554 + m))], [])] && zc_r [16, 65] true 0 (zc_L m wa_u) [] [(46, (0, 2147483647))] [((729, 1), (46, 0))] [] [((65, 0, 0), (zc_lh m, []), [(730, gz_p (554 + m))], [])]) = true := by decide +kernel
theorem zc_e2 : (List.range 5).all (fun m => zc_r [16, 65] true 0 (zc_L m wa_u) [] [(46, (0, 2147483647))] [((46, 0), (729, 0))] [] [((16, 0, 0), (zc_L m wa_u, []), [], [])]) = true := by decide +kernel
theorem zc_e3 : ((zc_r [16, 31, 56] true 0 (zc_L 4 wa_u) [] [(46, (-1, -1)), (728, (0, 0))] [] [] [((31, 0, 0), (zc_L 4 wa_u, [wa_r 87]), [], [])] = true ∧ zc_r [16, 31, 56] true 0 (zc_L 4 wa_u) [] [(46, (0, 2147483647)), (728, (0, 0))] [((729, 1), (46, 0))] [] [((31, 0, 0), (zc_L 4 wa_u, [wa_r 87]), [], [])] = true) ∧ zc_r [16, 31, 56] true 0 (zc_L 4 wa_u) [] [(46, (-1, -1)), (728, (1, 99))] [] [] [((56, 0, 0), (zc_L 4 wa_u, []), [], [])] = true ∧ zc_r [16, 31, 56] true 0 (zc_L 4 wa_u) [] [(46, (0, 2147483647)), (728, (1, 99))] [((729, 1), (46, 0))] [] [((56, 0, 0), (zc_L 4 wa_u, []), [], [])] = true) ∧
    zc_r [56] false 34 (zc_L 4 wa_u) [wa_i 807] [(807, (0, 0))] [] [] [((56, 0, 0), (zc_L 4 wa_u, []), [], [])] = true ∧ zc_r [56] false 34 (zc_L 4 wa_u) [wa_i 807] [(807, (1, 1))] [] [88] [((56, 0, 0), (zc_L 4 wa_u, []), [(46, gz_p 729), (550, gz_p 562), (550 + 1, gz_p (562 + 1)), (550 + 2, gz_p (562 + 2)), (550 + 3, gz_p (562 + 3))], [])] = true := by decide +kernel
theorem zc_e4 : (List.range 4).all (fun m => zc_r [65, 131, 142] true 65 (zc_lh m) [] [(730, (0, 8)), (558 + m, (0, 7))] [((558 + m, 1), (730, 0))] [] [((142, 0, 0), (zc_lh m, []), [], [])] && zc_r [65, 131, 142] true 65 (zc_lh m) [] zc_hb [((730, 0), (558 + m, 0)), ((728, 1), (730, 0))] [] [((142, 0, 0), (zc_lh m, []), [], [])]) = true := by decide +kernel
theorem zc_e5 : (List.range 4).all (fun m => zc_r [65, 131, 142] true 65 (zc_lh m) [] zc_hb [((730, 0), (558 + m, 0)), ((730, 0), (728, 0))] [98] [((65, 0, 0), (zc_lh m, []), [(730, gz_d 730 1)], [(0, zc_rx m, zc_du ++ [(3, 0, -1)])]), ((131, 0, 0), (zc_lh m, wa_i 730 :: wa_r (91 + m) :: zc_sS m), [(562 + m, gz_p 730), (808, zc_du)], [(0, zc_du, zc_rx m)])]) = true := by decide +kernel
theorem zc_e6 : (List.range 4).all (fun m => zc_r [133] false 132 (zc_lh m) (wa_i 809 :: zc_sS m) [] [] [] [((133, 0, 0), (zc_lh m, zc_cS m), [(807, [(0, 729, 0), (0, 809, 0), (2, 0, 0)])], [])] && zc_r [65] false 136 (zc_lh m) [] [(730, (0, 7))] [] [] [((65, 0, 0), (zc_lh m, []), [(730, gz_d 730 1)], [])]) = true := by decide +kernel
theorem zc_ek : (List.range 4).all (fun m => pt_lck zxY 9 131 1 (91 + m) 8 0 809 (zc_lh m) (zc_sS m) && (cy_vk 9 133 9 zxY.2.1 (zc_cS m) (zc_cA m) [] && pt_cck zxY 9 9 (133, 0, 0) 0 807 (zc_lh m) [] (zc_cA m) zc_a)) = true ∧ ((cy_vk 9 31 14 zxY.2.1 [wa_r 87] [wa_r 87] [] && pt_cck zxY 9 14 (31, 0, 0) 1 807 (zc_L 4 wa_u) [] [wa_r 87] [wa_r 87]) = true ∧ (pt_is 7 9 16 = true ∧ pt_is 7 9 56 = true ∧ pt_is 7 9 142 = true) ∧ (ct_mt 9).2.2.1 = 5) ∧ lh_plain 9 = true ∧ ct_bud 9 = (0, 0) := by decide +kernel
/-- the search's tables -/
noncomputable def zc_K (lo hi : Nat → Nat) (C : Nat → Nat → Int) (r : Nat → Int) (M : Nat → Nat → Int) : Prop := (∀ k, k < 4 → (r (554 + k) = (lo k : Int) ∧ r (558 + k) = (hi k : Int)) ∧ lo k ≤ hi k ∧ hi k ≤ 7) ∧ (∀ k, k < 4 → ∀ u, u ≤ hi k → M (91 + k) u = C k u) ∧ ∀ m u, u ≤ hi m → 0 ≤ C m u ∧ C m u ≤ 69993
noncomputable def zc_S (r : Nat → Int) (s : ze_S) : Prop := r 46 = s.1 ∧ ∀ k, k < 4 → r (550 + k) = s.2 k
noncomputable def zc_B (s : ze_S) : Prop := s.1 = -1 ∨ (0 ≤ s.1 ∧ s.1 ≤ 279972)
noncomputable def zc_P (lo hi : Nat → Nat) (C : Nat → Nat → Int) (F : (Nat → Int) → Bool) (m left : Nat) (sum : Int) (t : Nat → Int) (s : ze_S) (r : Nat → Int) (M : Nat → Nat → Int) : Prop := (r 727 = (m : Int) ∧ r 728 = (left : Int) ∧ r 729 = sum) ∧ zc_K lo hi C r M ∧ (∀ z, F z = true ↔ zc_ft r z) ∧ (∀ k, k < m → r (562 + k) = t k) ∧ (zc_S r s ∧ zc_B s) ∧ left ≤ 99 ∧ 0 ≤ sum ∧ sum ≤ (m : Int) * 69993
noncomputable def zc_Q (s2 : ze_S) (m : Nat) (t : Nat → Int) (r : Nat → Int) (M : Nat → Nat → Int) (r2 : Nat → Int) (M2 : Nat → Nat → Int) (o : Option Int) : Prop := o = none ∧ zc_S r2 s2 ∧ (∀ k, k < m → r2 (562 + k) = t k) ∧ (∀ x, x < 727 → zc_st x → zc_nP x → r2 x = r x) ∧ M2 = M
theorem zc_Ke {lo hi : Nat → Nat} {C : Nat → Nat → Int} {r r1 : Nat → Int} {M : Nat → Nat → Int} (h : zc_K lo hi C r M) (f : ∀ x, x < 727 → zc_st x → zc_nP x → r1 x = r x) : zc_K lo hi C r1 M := by
  obtain ⟨h1, h2, h3⟩ := h
  refine ⟨fun k hk => ?_, h2, h3⟩
  obtain ⟨⟨a, b⟩, c⟩ := h1 k hk
  refine ⟨⟨?_, ?_⟩, c⟩
  · rw [f _ (by omega) (by unfold zc_st; omega) (by unfold zc_nP; omega)]
    exact a
  · rw [f _ (by omega) (by unfold zc_st; omega) (by unfold zc_nP; omega)]
    exact b
theorem zc_fL4 {r : Nat → Int} {F : (Nat → Int) → Bool} {t : Nat → Int} (h : ∀ z, F z = true ↔ zc_ft r z) (ht : ∀ k, k < 4 → r (562 + k) = t k) : zc_ft r (fun k => r (562 + k)) ↔ F t = true := by
  rw [h]
  exact zc_fte (fun _ _ => rfl) ht
theorem zc_4 {n left : Nat} {lo hi : Nat → Nat} {C : Nat → Nat → Int} {F : (Nat → Int) → Bool} {sum : Int} {t : Nat → Int} {s : ze_S} (hn : 4 ≤ n) : pt_Met (n + 1 + 1 + 1) 9 zxY zc_a (zc_P lo hi C F 4 left sum t s) (zc_Q (ze_zc lo hi C F 0 4 left sum t s) 4 t) 0 := by
  refine pt_intro (L0 := [wa_r 87, wa_i 727, wa_i 728, wa_i 729, wa_u]) zc_ek.2.2.1 (by omega) zxsys (by
    rw [zc_ek.2.1.2.2]
    rfl) (fun P r M h hp => ?_)
  obtain ⟨hseg, henv, hrel, -, -, -, -, -, hcall, -, -, -, -, hvret⟩ := h
  obtain ⟨⟨p0, p1, p2⟩, -, pF, pt, ⟨pS, pB⟩, pl, ps, -⟩ := hp
  refine henv _ _ _ _ _ (fun hE _ => ?_)
  have h0 : r 0 = 0 := hE.1
  refine hrel (0, 0, 0) _ (zc_L 4 wa_u) [] [] r M ⟨rfl, ⟨by show 0 < 827; omega, by show r 727 + 0 = r 0 + 4; omega⟩, ⟨by show 728 < 827; omega, rfl⟩, ⟨by show 729 < 827; omega, rfl⟩, trivial, trivial⟩ trivial ?_
  obtain ⟨⟨⟨c1, c2⟩, c3, c4⟩, c5, c6⟩ := zc_e3
  have eb : r 46 = s.1 := pS.1
  have keep : zc_Q s 4 t r M r M none := ⟨rfl, pS, pt, fun _ _ _ _ => rfl, rfl⟩
  by_cases w : s.1 ≠ -1 ∧ s.1 ≤ sum
  · have e : ze_zc lo hi C F 0 4 left sum t s = s := if_pos w
    rw [e] at hvret
    have row := List.all_eq_true.mp zc_e2 4 (List.mem_range.mpr (by omega))
    have b : 0 ≤ s.1 ∧ s.1 ≤ 279972 := pB.resolve_left w.1
    refine hseg _ _ _ _ _ r M _ _ _ _ _ row ⟨pt_m0, pt_m1 ⟨by show (0 : Int) ≤ r 46; omega, by show r 46 ≤ 2147483647; omega⟩, pt_m1 (by show r 46 + 0 ≤ r 729 + 0; omega)⟩ ⟨fun _ => ?_, trivial⟩
    exact hvret (16, 0, 0) _ r M rfl zc_ek.2.1.2.1.1 (by decide +kernel) (by decide +kernel) keep
  have e : ze_zc lo hi C F 0 4 left sum t s = if left = 0 ∧ F t = true then (sum, t) else s := if_neg w
  rw [e] at hvret
  have g : s.1 = -1 ∨ (0 ≤ s.1 ∧ s.1 ≤ 279972 ∧ sum < s.1) := by
    rcases pB with a | a
    · exact Or.inl a
    · refine Or.inr ⟨a.1, a.2, ?_⟩
      have : ¬ s.1 ≤ sum := fun b => w ⟨by omega, b⟩
      omega
  by_cases l0 : left = 0
  · have next : P (31, 0, 0) (zc_L 4 wa_u) [wa_r 87] r M := by
      have ck := zc_ek.2.1.1
      rw [Bool.and_eq_true] at ck
      refine hcall (31, 0, 0) _ _ _ _ _ r M 14 1 807 _ _ zc_fk.2.2.1 ck.1 ck.2 (zc_fM (n := n) hn) trivial (fun r7 M7 o hq => ?_)
      have e6 : pt_up r (pt_wc [wa_r 87] [wa_r 87]) = r := rfl
      rw [e6] at hq
      obtain ⟨rc, rs⟩ := wa_rm (n := n + 1 + 1) zc_fk.2.2.2
      rw [rc, rs]
      obtain ⟨ho, f7, eM⟩ := hq
      rw [eM]
      rw [zc_fL4 pF pt] at ho
      have next : ∀ b : Int, o = some b → ∃ r8 : Nat → Int, (r8 807 = b ∧ r8 729 = sum) ∧ (∀ x, x < 727 → zc_nP x → r8 x = r x) ∧ (P (34, 0, 0) (zc_L 4 wa_u) [wa_i 807] r8 M → P (31 + 3, 0 + 0, 0 + 0) (zc_L 4 wa_u) (pt_psh 1 807 []) (pt_mrg 727 r r7 807 o) M) := fun b hb => by
        refine ⟨pt_mrg 727 r r7 807 (some b), ⟨wa_mz (by omega), ?_⟩, fun x a c => ?_, fun q => ?_⟩
        · show (if 729 < 727 then _ else if 729 = 807 then b else r 729) = sum
          rw [if_neg (by omega), if_neg (by omega)]
          exact p2
        · rw [wa_mlt a]
          exact f7 x a c
        · rw [hb]
          exact q
      rcases ho with ⟨ho, hc⟩ | ⟨ho, hc⟩
      · obtain ⟨r8, ⟨b1, b2⟩, f8, go⟩ := next 1 ho
        rw [if_pos ⟨l0, hc⟩] at hvret
        refine go (hseg _ _ _ _ _ r8 M _ _ _ _ _ c6 ⟨pt_m0, pt_m1 ⟨by show (1 : Int) ≤ r8 807; omega, by show r8 807 ≤ 1; omega⟩, pt_m0⟩ ⟨fun _ => ?_, trivial⟩)
        obtain ⟨r9, hr9⟩ : ∃ r9, r9 = pt_up r8 [(46, gz_p 729), (550, gz_p 562), (550 + 1, gz_p (562 + 1)), (550 + 2, gz_p (562 + 2)), (550 + 3, gz_p (562 + 3))] := ⟨_, rfl⟩
        show P (56, 0, 0) (zc_L 4 wa_u) [] (pt_up r8 [(46, gz_p 729), (550, gz_p 562), (550 + 1, gz_p (562 + 1)), (550 + 2, gz_p (562 + 2)), (550 + 3, gz_p (562 + 3))]) M
        rw [← hr9]
        have v9 : ∀ x, r9 x = if x = 46 then r8 729 else if x = 550 then r8 562 else if x = 550 + 1 then r8 (562 + 1) else if x = 550 + 2 then r8 (562 + 2) else if x = 550 + 3 then r8 (562 + 3) else r8 x := fun x => by
          rw [hr9]
          rfl
        have t8 : ∀ k, k < 4 → r8 (562 + k) = t k := fun k hk => by
          rw [f8 _ (by omega) (by unfold zc_nP; omega)]
          exact pt k hk
        refine hvret (56, 0, 0) _ r9 M rfl zc_ek.2.1.2.1.2.1 (by decide +kernel) (by decide +kernel) ⟨rfl, ⟨?_, fun k hk => ?_⟩, fun k hk => ?_, fun x a b c => ?_, rfl⟩
        · rw [v9, if_pos rfl]
          exact b2
        · show r9 (550 + k) = t k
          rw [← t8 k hk]
          rcases (by omega : k = 0 ∨ k = 1 ∨ k = 2 ∨ k = 3) with rfl | rfl | rfl | rfl
          · rw [v9, if_neg (by omega), if_pos rfl]
          · rw [v9, if_neg (by omega), if_neg (by omega), if_pos rfl]
          · rw [v9, if_neg (by omega), if_neg (by omega), if_neg (by omega), if_pos rfl]
          · rw [v9, if_neg (by omega), if_neg (by omega), if_neg (by omega), if_neg (by omega), if_pos rfl]
        · rw [v9, if_neg (by omega), if_neg (by omega), if_neg (by omega), if_neg (by omega), if_neg (by omega)]
          exact t8 k hk
        · unfold zc_st at b
          rw [v9, if_neg (by omega), if_neg (by omega), if_neg (by omega), if_neg (by omega), if_neg (by omega)]
          exact f8 x a c
      · obtain ⟨r8, ⟨b1, b2⟩, f8, go⟩ := next 0 ho
        rw [if_neg (fun q => hc q.2)] at hvret
        refine go (hseg _ _ _ _ _ r8 M _ _ _ _ _ c5 ⟨pt_m0, pt_m1 ⟨by show (0 : Int) ≤ r8 807; omega, by show r8 807 ≤ 0; omega⟩, pt_m0⟩ ⟨fun _ => ?_, trivial⟩)
        refine hvret (56, 0, 0) _ r8 M rfl zc_ek.2.1.2.1.2.1 (by decide +kernel) (by decide +kernel) ⟨rfl, ⟨?_, fun k hk => ?_⟩, fun k hk => ?_, fun x a b c => f8 x a c, rfl⟩
        · rw [f8 _ (by omega) (by unfold zc_nP; omega)]
          exact eb
        · rw [f8 _ (by omega) (by unfold zc_nP; omega)]
          exact pS.2 k hk
        · rw [f8 _ (by omega) (by unfold zc_nP; omega)]
          exact pt k hk
    rcases g with g | g
    · refine hseg _ _ _ _ _ r M _ _ _ _ _ c1 ⟨pt_m0, pt_m2 ⟨by show (-1 : Int) ≤ r 46; omega, by show r 46 ≤ -1; omega⟩ ⟨by show (0 : Int) ≤ r 728; omega, by show r 728 ≤ 0; omega⟩, pt_m0⟩ ⟨fun _ => ?_, trivial⟩
      exact next
    · refine hseg _ _ _ _ _ r M _ _ _ _ _ c2 ⟨pt_m0, pt_m2 ⟨by show (0 : Int) ≤ r 46; omega, by show r 46 ≤ 2147483647; omega⟩ ⟨by show (0 : Int) ≤ r 728; omega, by show r 728 ≤ 0; omega⟩, pt_m1 (by show r 729 + 1 ≤ r 46 + 0; omega)⟩ ⟨fun _ => ?_, trivial⟩
      exact next
  · rw [if_neg (fun q => l0 q.1)] at hvret
    rcases g with g | g
    · refine hseg _ _ _ _ _ r M _ _ _ _ _ c3 ⟨pt_m0, pt_m2 ⟨by show (-1 : Int) ≤ r 46; omega, by show r 46 ≤ -1; omega⟩ ⟨by show (1 : Int) ≤ r 728; omega, by show r 728 ≤ 99; omega⟩, pt_m0⟩ ⟨fun _ => ?_, trivial⟩
      exact hvret (56, 0, 0) _ r M rfl zc_ek.2.1.2.1.2.1 (by decide +kernel) (by decide +kernel) keep
    · refine hseg _ _ _ _ _ r M _ _ _ _ _ c4 ⟨pt_m0, pt_m2 ⟨by show (0 : Int) ≤ r 46; omega, by show r 46 ≤ 2147483647; omega⟩ ⟨by show (1 : Int) ≤ r 728; omega, by show r 728 ≤ 99; omega⟩, pt_m1 (by show r 729 + 1 ≤ r 46 + 0; omega)⟩ ⟨fun _ => ?_, trivial⟩
      exact hvret (56, 0, 0) _ r M rfl zc_ek.2.1.2.1.2.1 (by decide +kernel) (by decide +kernel) keep
