/-! THE LEAST (the class): search -/
noncomputable def zd_L : List ai_V := [wa_r 87, wa_i 728, wa_i 729, wa_i 730, wa_i 731]
noncomputable def zd_cS : List ai_V := [wa_k 0, wa_i 45, wa_k 0, wa_r 87]
noncomputable def zd_cA : List ai_V := [wa_r 87, wa_k 0, wa_i 45, wa_k 0]
theorem zd_c : pt_row zxY 8 [22, 42] true (0, 0, 0) zd_L [] [] [] [] [] [((22, 0, 0), (zd_L, [wa_i 731, wa_i 730, wa_i 729, wa_i 728, wa_r 87]), [(46, gz_k (-1))], [(1, gz_p 424, gz_k 0)]), ((42, 0, 0), (zd_L, [.inl (0, -1)]), [(46, gz_k (-1))], [(0, gz_k 0, gz_p 424), (0, gz_p 424, gz_k 0)])] = true ∧ (pt_row zxY 8 [35, 42] false (25, 0, 0) zd_L [wa_i 807] [] [(807, (1, 1))] [] [] [((35, 0, 0), (zd_L, zd_cS), [], [])] = true ∧ pt_row zxY 8 [35, 42] false (25, 0, 0) zd_L [wa_i 807] [] [(807, (0, 0))] [] [] [((42, 0, 0), (zd_L, [wa_i 46]), [], [])] = true) ∧ pt_row zxY 8 [42] false (38, 0, 0) zd_L [] [] [] [] [] [((42, 0, 0), (zd_L, [wa_i 46]), [], [])] = true := by decide +kernel
theorem zd_k : ((cy_vk 8 22 11 zxY.2.1 [wa_i 731, wa_i 730, wa_i 729, wa_i 728, wa_r 87] zs_a [] && pt_cck zxY 8 11 (22, 0, 0) 1 807 zd_L [] zs_a zs_a) = true ∧ (cy_vk 8 35 9 zxY.2.1 zd_cS zd_cA [] && pt_cck zxY 8 9 (35, 0, 0) 0 807 zd_L [] zd_cA zc_a) = true) ∧ (pt_is 5 8 42 = true ∧ (ct_mt 8).2.2.1 = 5) ∧ lh_plain 8 = true ∧ ct_bud 8 = (0, 0) := by decide +kernel
/-- the search's answer: the least coin, its units -/
noncomputable def zd_v (lo hi : Nat → Nat) (C : Nat → Nat → Int) (F : (Nat → Int) → Bool) (T : Nat) (w0 : Int) (t u : Nat → Int) : ze_S := if w0 = 0 then (-1, u) else ze_go lo hi C F 4 0 T 0 t (-1, u)
/-- what the search wants: the QUARTER is open -/
noncomputable def zd_P (q sd T : Nat) (C : Nat → Nat → Int) (F : (Nat → Int) → Bool) (r : Nat → Int) (M : Nat → Nat → Int) : Prop := zs_P q sd r ∧ (r 45 = (T : Int) ∧ T ≤ 99) ∧ (∀ m, m < 4 → ∀ u : Nat, (u : Int) ≤ r (415 + m) → M (91 + m) u = C m u ∧ 0 ≤ C m u ∧ C m u ≤ 69993) ∧ ∀ z, F z = true ↔ zc_ft r z
/-- a table of what is ASKED for units that aren't OFFERED is never asked -/
noncomputable def zd_C (C : Nat → Nat → Int) (hi : Nat → Nat) : Nat → Nat → Int := fun m u => if m < 4 ∧ u ≤ hi m then C m u else 0
noncomputable def zd_n (t : Nat) : Prop := zc_st t ∧ zc_nP t ∧ zs_n t
theorem zd_go {lo hi : Nat → Nat} {C C' : Nat → Nat → Int} {F : (Nat → Int) → Bool} : ∀ {d m left : Nat} {sum : Int} {t : Nat → Int} {s : ze_S}, (∀ k, m ≤ k → k < m + d → ∀ u, u ≤ hi k → C k u = C' k u) → ze_go lo hi C F d m left sum t s = ze_go lo hi C' F d m left sum t s
  | 0, _, _, _, _, _, _ => rfl
  | d + 1, m, left, sum, t, s, h => by
    show ze_lp (fun u s => ze_go lo hi C F d (m + 1) (left - u) (sum + C m u) (ze_up t m (u : Int)) s) (ze_n (hi m) (lo m) left) (lo m) s = ze_lp (fun u s => ze_go lo hi C' F d (m + 1) (left - u) (sum + C' m u) (ze_up t m (u : Int)) s) (ze_n (hi m) (lo m) left) (lo m) s
    refine ze_lp_c (fun k s a b => ?_)
    show ze_go lo hi C F d (m + 1) (left - k) (sum + C m k) (ze_up t m (k : Int)) s = ze_go lo hi C' F d (m + 1) (left - k) (sum + C' m k) (ze_up t m (k : Int)) s
    rw [h m (Nat.le_refl m) (by omega) k (ze_k b a).1]
    exact zd_go (fun j c e => h j (by omega) (by omega))
theorem zd_M {n q sd T : Nat} {C : Nat → Nat → Int} {F : (Nat → Int) → Bool} {on w sil : Int} (hn : 4 ≤ n) (hw : 0 ≤ w ∧ w ≤ 7) (hsil : -1 ≤ sil ∧ sil ≤ 2) : pt_Met (n + 1 + 1 + 1 + 1 + 1 + 1 + 1 + 1) 8 zxY zs_a (fun r M => ((r 728 = on ∧ r 729 = w) ∧ r 730 = (sd : Int) ∧ r 731 = sil) ∧ zd_P q sd T C F r M)
    (fun r M r2 M2 o => o = some (zd_v (zs_lo r on w sil) (zs_hi r on w sil sd q) C F T (r 424) (fun _ => 0) (fun k => r (550 + k))).1 ∧ zc_S r2 (zd_v (zs_lo r on w sil) (zs_hi r on w sil sd q) C F T (r 424) (fun _ => 0) (fun k => r (550 + k))) ∧ (∀ t, t < 727 → zd_n t → r2 t = r t) ∧ M2 = M) 1 := by
  refine pt_intro (L0 := zd_L) zd_k.2.2.1 (by omega) zxsys (by
    rw [zd_k.2.1.2]
    rfl) (fun P r M h hp => ?_)
  obtain ⟨hseg, henv, -, -, -, -, -, -, hcall, -, hret, -⟩ := h
  obtain ⟨hp1, hp2, ⟨pT, pT9⟩, pC, pF⟩ := hp
  refine henv _ _ _ _ _ (fun hE _ => ?_)
  have h0 : r 0 = 0 := hE.1
  obtain ⟨lo, hlo⟩ : ∃ lo, lo = zs_lo r on w sil := ⟨_, rfl⟩
  obtain ⟨hi, hhi⟩ : ∃ hi, hi = zs_hi r on w sil sd q := ⟨_, rfl⟩
  rw [← hlo, ← hhi] at hret
  obtain ⟨c1, ⟨c2, c3⟩, c4⟩ := zd_c
  have ck1 := zd_k.1.1
  have ck2 := zd_k.1.2
  rw [Bool.and_eq_true] at ck1 ck2
  obtain ⟨u0, hu0⟩ : ∃ u0 : Nat → Int, u0 = fun k => r (550 + k) := ⟨_, rfl⟩
  rw [← hu0] at hret
  refine hseg _ _ _ _ _ r M _ _ _ _ _ c1 ⟨pt_m0, pt_m0, pt_m0⟩ ⟨fun g => ?_, fun g => ?_, trivial⟩
  · have g : r 424 ≠ 0 := g.1
    have ev : zd_v lo hi C F T (r 424) (fun _ => 0) u0 = ze_go lo hi C F 4 0 T 0 (fun _ => 0) (-1, u0) := if_neg g
    rw [ev] at hret
    obtain ⟨r1, hr1⟩ : ∃ r1, r1 = pt_up r [(46, gz_k (-1))] := ⟨_, rfl⟩
    show P (22, 0, 0) zd_L [wa_i 731, wa_i 730, wa_i 729, wa_i 728, wa_r 87] (pt_up r [(46, gz_k (-1))]) M
    rw [← hr1]
    have v1 : ∀ t, r1 t = if t = 46 then -1 else r t := fun t => by
      rw [hr1]
      rfl
    have n1 : ∀ t, t ≠ 46 → r1 t = r t := fun t a => by rw [v1, if_neg a]
    have self : pt_up r1 (pt_wc zs_a zs_a) = r1 := wa_up_self (by rw [v1, if_neg (by omega), h0]) (fun x hx => by
      have hx : x ∈ [(728, pt_xr (728, 0)), (729, pt_xr (729, 0)), (730, pt_xr (730, 0)), (731, pt_xr (731, 0))] := hx
      simp only [List.mem_cons, List.not_mem_nil, or_false] at hx
      rcases hx with rfl | rfl | rfl | rfl <;> rfl)
    have sP1 : zs_P q sd r1 := by
      obtain ⟨⟨a, b⟩, c, e⟩ := hp2
      refine ⟨⟨(n1 _ (by omega)).trans a, b⟩, fun m hm => ?_, e⟩
      rw [n1 _ (by omega), n1 (zs_le m) (by unfold zs_le; omega), n1 _ (by omega)]
      exact c m hm
    have eLH : ∀ m, m < 4 → zs_lo r1 on w sil m = lo m ∧ zs_hi r1 on w sil sd q m = hi m := fun m hm => by
      rw [hlo, hhi]
      unfold zs_lo zs_hi zs_l zs_h
      dsimp only
      rw [n1 73 (by omega), n1 (141 + m) (by omega), n1 (137 + m) (by omega), n1 (zs_le m) (by unfold zs_le; omega), n1 (145 + m) (by omega), n1 (415 + m) (by omega), n1 (185 + 4 * m + q) (by omega)]
      exact ⟨rfl, rfl⟩
    refine hcall (22, 0, 0) _ _ _ _ _ r1 M 11 1 807 _ _ zs_k.2.1 ck1.1 ck1.2 (zs_M (n := n + 1 + 1 + 1 + 1 + 1 + 1) (q := q) (sd := sd) (on := on) (w := w) (sil := sil) (by omega) hw hsil) (by
      rw [self]
      refine ⟨⟨⟨?_, ?_⟩, ?_, ?_⟩, sP1⟩
      · rw [n1 _ (by omega)]
        exact hp1.1.1
      · rw [n1 _ (by omega)]
        exact hp1.1.2
      · rw [n1 _ (by omega)]
        exact hp1.2.1
      · rw [n1 _ (by omega)]
        exact hp1.2.2) (fun r2 M2 o hq => ?_)
    rw [self] at hq
    obtain ⟨rc, rs⟩ := wa_rm (n := n + 1 + 1 + 1 + 1 + 1 + 1 + 1) zs_k.2.2
    rw [rc, rs]
    obtain ⟨ho, f2, eM⟩ := hq
    rw [eM]
    have next : ∀ b : Int, o = some b → ∃ r3 : Nat → Int, r3 807 = b ∧ (∀ t, t < 727 → r3 t = r2 t) ∧ (P (25, 0, 0) zd_L [wa_i 807] r3 M → P (22 + 3, 0 + 0, 0 + 0) zd_L (pt_psh 1 807 []) (pt_mrg 727 r1 r2 807 o) M) := fun b hb => by
      refine ⟨pt_mrg 727 r1 r2 807 (some b), wa_mz (by omega), fun t a => wa_mlt a, fun q => ?_⟩
      rw [hb]
      exact q
    rcases ho with ⟨ho, hc⟩ | ⟨ho, m, m4, hc⟩
    · obtain ⟨r3, b3, f3, go⟩ := next 1 ho
      refine go (hseg _ _ _ _ _ r3 M _ _ _ _ _ c2 ⟨pt_m0, pt_m1 ⟨by show (1 : Int) ≤ r3 807; omega, by show r3 807 ≤ 1; omega⟩, pt_m0⟩ ⟨fun _ => ?_, trivial⟩)
      show P (35, 0, 0) zd_L zd_cS r3 M
      have g3 : ∀ t, t < 727 → zs_n t → r3 t = r1 t := fun t a b => (f3 t a).trans (f2 t a b)
      have h30 : r3 0 = 0 := by rw [g3 0 (by omega) (by unfold zs_n; omega), n1 _ (by omega), h0]
      obtain ⟨r6, hr6⟩ : ∃ r6, r6 = pt_up r3 (pt_wc zd_cA zc_a) := ⟨_, rfl⟩
      have v6 : ∀ x, r6 x = if x = 727 then 0 else if x = 728 then r3 45 else if x = 729 then 0 else r3 x := fun x => by
        rw [hr6]
        rfl
      have g6 : ∀ t, t < 727 → zs_n t → r6 t = r1 t := fun t a b => by
        rw [v6, if_neg (by omega), if_neg (by omega), if_neg (by omega)]
        exact g3 t a b
      have l6 : ∀ m, m < 4 → (r6 (554 + m) = (lo m : Int) ∧ r6 (558 + m) = (hi m : Int)) ∧ lo m ≤ hi m ∧ hi m ≤ 7 := fun m hm => by
        obtain ⟨⟨a, b⟩, c⟩ := hc m hm
        obtain ⟨e1, e2⟩ := eLH m hm
        rw [e1] at a c
        rw [e2] at b c
        refine ⟨⟨?_, ?_⟩, c, ?_⟩
        · rw [v6, if_neg (by omega), if_neg (by omega), if_neg (by omega), f3 _ (by omega), a]
        · rw [v6, if_neg (by omega), if_neg (by omega), if_neg (by omega), f3 _ (by omega), b]
        · rw [hhi]
          have d := (hp2.2.1 m hm).1
          have : zs_hi r on w sil sd q m ≤ (r (415 + m)).toNat := Nat.min_le_right _ _
          omega
      have hd : ∀ m, m < 4 → (hi m : Int) ≤ r (415 + m) := fun m hm => by
        rw [hhi]
        have d := (hp2.2.1 m hm).1
        have : zs_hi r on w sil sd q m ≤ (r (415 + m)).toNat := Nat.min_le_right _ _
        omega
      have hK : zc_K lo hi (zd_C C hi) r6 M := by
        refine ⟨l6, fun k hk u hu => ?_, fun m u hu => ?_⟩
        · show M (91 + k) u = if k < 4 ∧ u ≤ hi k then C k u else 0
          rw [if_pos ⟨hk, hu⟩]
          exact (pC k hk u (by have := hd k hk; omega)).1
        · show 0 ≤ (if m < 4 ∧ u ≤ hi m then C m u else 0) ∧ (if m < 4 ∧ u ≤ hi m then C m u else 0) ≤ 69993
          by_cases q4 : m < 4
          · rw [if_pos ⟨q4, hu⟩]
            exact (pC m q4 u (by have := hd m q4; omega)).2
          · rw [if_neg (fun q => q4 q.1)]
            omega
      have eC : ze_go lo hi C F 4 0 T 0 (fun _ => 0) (-1, u0) = ze_go lo hi (zd_C C hi) F 4 0 T 0 (fun _ => 0) (-1, u0) := zd_go (fun k _ hk u hu => (if_pos ⟨by omega, hu⟩).symm)
      rw [eC, ← ze_zc_eq (fun m u hu => (hK.2.2 m u hu).1)] at hret
      refine hcall (35, 0, 0) _ _ _ _ _ r3 M 9 0 807 _ _ zc_ek.2.2.1 ck2.1 ck2.2 (zc_0 (n := n) (left := T) (lo := lo) (hi := hi) (C := zd_C C hi) (F := F) (sum := 0) (t := fun _ => 0) (s := (-1, u0)) hn) (by
        rw [← hr6]
        refine ⟨⟨?_, ?_, ?_⟩, hK, fun z => (pF z).trans (zc_fte (fun x a => (g6 x (zc_dq_ok a).1.1 (zc_dq_ok a).2.2).trans (n1 x (zc_dq_ok a).1.2.1)) (fun _ _ => rfl)).symm, fun k hk => absurd hk (Nat.not_lt_zero k), ⟨⟨?_, fun k hk => ?_⟩, Or.inl rfl⟩, pT9, Int.le_refl 0, Int.le_refl 0⟩
        · rw [v6, if_pos rfl]
          rfl
        · rw [v6, if_neg (by omega), if_pos rfl, g3 _ (by omega) (by unfold zs_n; omega), n1 _ (by omega)]
          exact pT
        · rw [v6, if_neg (by omega), if_neg (by omega), if_pos rfl]
        · rw [g6 _ (by omega) (by unfold zs_n; omega), v1, if_pos rfl]
        · rw [g6 _ (by omega) (by unfold zs_n; omega), n1 _ (by omega), hu0]) (fun r7 M7 o7 hq => ?_)
      rw [← hr6] at hq
      obtain ⟨rc, rs⟩ := wa_rm (n := n + 1 + 1 + 1 + 1 + 1 + 1 + 1) zc_ek.2.2.2
      rw [rc, rs]
      obtain ⟨rfl, q1, q2, q3, eM7⟩ := hq
      rw [eM7]
      obtain ⟨s2, hs2⟩ : ∃ s2, s2 = ze_zc lo hi (zd_C C hi) F 4 0 T 0 (fun _ => 0) (-1, u0) := ⟨_, rfl⟩
      rw [← hs2] at q1 hret
      obtain ⟨r8, hr8⟩ : ∃ r8, r8 = pt_mrg 727 r3 r7 807 none := ⟨_, rfl⟩
      show P (38, 0, 0) zd_L [] (pt_mrg 727 r3 r7 807 none) M
      rw [← hr8]
      have lo8 : ∀ x, x < 727 → r8 x = r7 x := fun x a => by
        rw [hr8]
        exact wa_mlt a
      refine hseg _ _ _ _ _ r8 M _ _ _ _ _ c4 ⟨pt_m0, pt_m0, pt_m0⟩ ⟨fun _ => ?_, trivial⟩
      have b8 : r8 46 = s2.1 := (lo8 _ (by omega)).trans q1.1
      refine hret (42, 0, 0) _ (46, 0) r8 M rfl zd_k.2.1.1 (by decide +kernel) (by decide +kernel) ⟨congrArg some ?_, ⟨b8, fun k hk => (lo8 _ (by omega)).trans (q1.2 k hk)⟩, fun t a b => ?_, rfl⟩
      · show r8 46 + 0 = s2.1
        rw [Int.add_zero, b8]
      · rw [lo8 t a, q3 t a b.1 b.2.1, g6 t a b.2.2]
        exact n1 t (by have := b.1.1; omega)
    · obtain ⟨r3, b3, f3, go⟩ := next 0 ho
      refine go (hseg _ _ _ _ _ r3 M _ _ _ _ _ c3 ⟨pt_m0, pt_m1 ⟨by show (0 : Int) ≤ r3 807; omega, by show r3 807 ≤ 0; omega⟩, pt_m0⟩ ⟨fun _ => ?_, trivial⟩)
      obtain ⟨e1, e2⟩ := eLH m m4
      rw [e1, e2] at hc
      rw [ze_em (d := 4) (m := 0) ⟨m, Nat.zero_le m, by omega, hc⟩] at hret
      have g3 : ∀ t, t < 727 → zs_n t → r3 t = r1 t := fun t a b => (f3 t a).trans (f2 t a b)
      have b8 : r3 46 = -1 := by rw [g3 _ (by omega) (by unfold zs_n; omega), v1, if_pos rfl]
      refine hret (42, 0, 0) _ (46, 0) r3 M rfl zd_k.2.1.1 (by decide +kernel) (by decide +kernel) ⟨congrArg some ?_, ⟨b8, fun k hk => ?_⟩, fun t a b => ?_, rfl⟩
      · show r3 46 + 0 = -1
        rw [Int.add_zero, b8]
      · show r3 (550 + k) = u0 k
        rw [g3 _ (by omega) (by unfold zs_n; omega), n1 _ (by omega), hu0]
      · rw [g3 t a b.2.2]
        exact n1 t (by have := b.1.1; omega)
  · have g1 : 0 ≤ r 424 := g.1
    have g2 : r 424 ≤ 0 := g.2.1
    have ev : zd_v lo hi C F T (r 424) (fun _ => 0) u0 = (-1, u0) := if_pos (by omega)
    rw [ev] at hret
    obtain ⟨r1, hr1⟩ : ∃ r1, r1 = pt_up r [(46, gz_k (-1))] := ⟨_, rfl⟩
    show P (42, 0, 0) zd_L [.inl (0, -1)] (pt_up r [(46, gz_k (-1))]) M
    rw [← hr1]
    have v1 : ∀ t, r1 t = if t = 46 then -1 else r t := fun t => by
      rw [hr1]
      rfl
    refine hret (42, 0, 0) _ (0, -1) r1 M rfl zd_k.2.1.1 (by decide +kernel) (by decide +kernel) ⟨congrArg some ?_, ⟨by rw [v1, if_pos rfl], fun k hk => ?_⟩, fun t a b => ?_, rfl⟩
    · show r1 0 + -1 = -1
      rw [v1, if_neg (by omega), h0]
      rfl
    · show r1 (550 + k) = u0 k
      rw [v1, if_neg (by omega), hu0]
    · rw [v1, if_neg (by have := b.1.1; omega)]
