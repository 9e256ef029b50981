/-! THE LEAST (the reference): a mill is told, the rows -/
theorem zt_c1 {m : Nat} (h : m < 4) : zt_g1 m = true := by
  rcases (by omega : m = 0 ∨ m = 1 ∨ m = 2 ∨ m = 3) with rfl | rfl | rfl | rfl
  · exact zt_c1_0
  · exact zt_c1_1
  · exact zt_c1_2
  · exact zt_c1_3
theorem zt_c2 {b m : Nat} (hb : b < 2) (h : m < 4) : zt_g2 b m = true := by
  rcases (by omega : b = 0 ∨ b = 1) with rfl | rfl <;> rcases (by omega : m = 0 ∨ m = 1 ∨ m = 2 ∨ m = 3) with rfl | rfl | rfl | rfl
  · exact zt_c2_0_0
  · exact zt_c2_0_1
  · exact zt_c2_0_2
  · exact zt_c2_0_3
  · exact zt_c2_1_0
  · exact zt_c2_1_1
  · exact zt_c2_1_2
  · exact zt_c2_1_3
noncomputable abbrev zt_s (st : List Nat) (sk : Bool) (pc : Nat) (L S : List ai_V) (cp : List (Nat × Int × Int)) (le : List (ai_X × ai_X)) (C : List Nat) (Es : List pt_E) : Bool := pt_row zyY 219 st sk (pc, 0, 0) L S [] cp le C Es
noncomputable def zt_cS (m q : Nat) : List ai_V := [wa_i 91, wa_k q, wa_i 732, wa_k m, wa_r 264]
noncomputable def zt_cA (m q : Nat) : List ai_V := [wa_r 264, wa_k m, wa_i 732, wa_k q, wa_i 91]
theorem zt_c3 : (List.range 4).all (fun m => (List.range 4).all (fun q => (zt_s [183] false 180 (zt_L m q wa_u wa_u wa_u) [] [] [] [] [((183, 0, 0), (zt_h m q, []), [(732, gz_k 1)], [])] && zt_s [203, 260] true 183 (zt_h m q) [] [] [((704 + m, 1), (732, 0))] [] [((260, 0, 0), (zt_h m q, []), [], [])]) && (zt_s [203, 260] true 183 (zt_h m q) [] [(732, (1, 7)), (704 + m, (0, 7))] [((732, 0), (704 + m, 0))] [] [((203, 0, 0), (zt_h m q, zt_cS m q), [], [])] && zt_s [224, 249] false 206 (zt_h m q) [wa_i 807] [(807, (-1, -1)), (732, (1, 7))] [] [298] [((224, 0, 0), (zt_v m q, []), [(733, gz_p 807), (704 + m, gz_d 732 (-1))], [])]))) = true := by decide +kernel
theorem zt_c4 : (List.range 4).all (fun m => (List.range 4).all (fun q => zt_s [224, 249] false 206 (zt_h m q) [wa_i 807] [(807, (0, 9999)), (732, (1, 7))] [] [] [((249, 0, 0), (zt_v m q, [.inl (732, ((8 * m : Nat) : Int) - 1), wa_r 299, .inl (732, .ofNat (8 * m)), wa_r 299]), [(733, gz_p 807)], [])] && (zt_s [253] false 250 (zt_v m q) [wa_i 809, .inl (732, .ofNat (8 * m)), wa_r 299] [] [] [] [((253, 0, 0), (zt_v m q, [wa_i 807, .inl (732, .ofNat (8 * m)), wa_r 299]), [(807, [(0, 809, 0), (0, 733, 0), (2, 0, 0)])], [])] && zt_s [183] false 254 (zt_v m q) [] [(732, (1, 7))] [] [] [((183, 0, 0), (zt_h m q, []), [(732, gz_d 732 1)], [])]))) = true := by decide +kernel
theorem zt_k : (List.range 4).all (fun m => (List.range 4).all (fun q => (cy_vk 219 203 207 zyY.2.1 (zt_cS m q) (zt_cA m q) [] && pt_cck zyY 219 207 (203, 0, 0) 1 807 (zt_h m q) [] (zt_cA m q) ro_aZ) && pt_lck zyY 219 249 1 299 32 0 809 (zt_v m q) [.inl (732, .ofNat (8 * m)), wa_r 299])) = true ∧ ((pt_sck zyY 219 179 2 299 32 0 = true ∧ pt_sck zyY 219 253 2 299 32 0 = true) ∧ (pt_is 7 219 224 = true ∧ pt_is 7 219 260 = true) ∧ (ct_mt 219).2.2.1 = 8) ∧ lh_plain 219 = true ∧ ct_bud 219 = (0, 0) := by decide +kernel
theorem zt_bd : (List.range 4).all (fun m => (zyE.2.1.any (fun q => decide (q = (137 + m, ((0 : Int), (3 : Int))))) && zyE.2.1.any (fun q => decide (q = (141 + m, ((0 : Int), (2 : Int)))))) && (zyE.2.1.any (fun q => decide (q = (145 + m, ((0 : Int), (7 : Int))))) && zyE.2.1.any (fun q => decide (q = (149 + m, ((0 : Int), (999 : Int))))))) = true := by decide +kernel
noncomputable def zt_lo (r : Nat → Int) (on w : Int) (m : Nat) : Nat := zs_l r (fun m => r (153 + m)) (zs_bt on) w (r 92) m
noncomputable def zt_h0 (r : Nat → Int) (on w : Int) (q m : Nat) : Nat := zs_h r (fun m => r (153 + m)) (zs_bt on) w (r 92) (fun h => (r (716 + h)).toNat) q m
/-- what a mill's telling speaks of -/
noncomputable def zt_P (q m : Nat) (r : Nat → Int) : Prop := ((m : Int) < r 73 ∧ (-1 ≤ r 92 ∧ r 92 ≤ 2)) ∧ (∀ h, h < 3 → 0 ≤ r (716 + h) ∧ r (716 + h) ≤ 2) ∧ (0 ≤ r (153 + m) ∧ r (153 + m) ≤ 7) ∧ 0 ≤ r (185 + 4 * m + q) ∧ r (185 + 4 * m + q) ≤ 7
noncomputable def zt_O (m : Nat) (l : List Int) (r : Nat → Int) (M : Nat → Nat → Int) : Prop := (r (369 + m) = if l = [] then 0 else 1) ∧ go_K m l M
noncomputable def zt_A (r : Nat → Int) (q : Nat) (T : Int) (m : Nat) (l : List Int) : Nat → Int := fun u => av_askZ (aVZ r (q : Int) T m (u : Int)) l
noncomputable def zt_n (m t : Nat) : Prop := t ≠ 700 + m ∧ t ≠ 704 + m ∧ ¬ (419 ≤ t ∧ t < 419 + 5)
noncomputable def zt_Q (q m : Nat) (on w T : Int) (l : List Int) (r : Nat → Int) (M : Nat → Nat → Int) (r2 : Nat → Int) (M2 : Nat → Nat → Int) (o : Option Int) : Prop := o = none ∧ ((r2 (700 + m) = (zt_lo r on w m : Int) ∧ r2 (704 + m) = (am_nZ (zt_A r q T m l) (zt_h0 r on w q m) : Int)) ∧ ∀ u, u ≤ am_nZ (zt_A r q T m l) (zt_h0 r on w q m) → M2 299 (8 * m + u) = am_SZ (zt_A r q T m l) u) ∧ (∀ t, t < 727 → zt_n m t → r2 t = r t) ∧ (∀ z, z ≠ 292 → z ≠ 299 → M2 z = M z) ∧ ∀ j, ¬ (8 * m ≤ j ∧ j < 8 * m + 8) → M2 299 j = M 299 j
section ZTS
variable {n q m : Nat} {on w T : Int} {l : List Int} {Z : (Nat → Int) → (Nat → Nat → Int) → Option Int → Prop} {P : pt_P} {r0 : Nat → Int} {M0 : Nat → Nat → Int} {A : Nat → Int} {H : Nat}
/-- the units' asks -/
theorem zt_loop (h : pt_Cl (n + 1 + 1 + 1) 219 zyY 0 Z P) (hn : 4 ≤ n) (hm : m < 4) (hq : q < 4) (hg : ps_gc l) (hO : zt_O m l r0 M0) (hT : r0 91 = T) (hA : A = zt_A r0 q T m l) (hH : H ≤ 7)
    (hz : ∀ r2 M2, r2 (704 + m) = (am_nZ A H : Int) → (∀ u, u ≤ am_nZ A H → M2 299 (8 * m + u) = am_SZ A u) → (∀ t, t < 727 → t ≠ 704 + m → ¬ (419 ≤ t ∧ t < 419 + 5) → r2 t = r0 t) → (∀ z, z ≠ 292 → z ≠ 299 → M2 z = M0 z) → (∀ j, ¬ (8 * m ≤ j ∧ j < 8 * m + 8) → M2 299 j = M0 299 j) → Z r2 M2 none) :
    ∀ (d u : Nat) (r : Nat → Int) (M : Nat → Nat → Int), u + d = H → am_nZ A u = u → r 732 = ((u + 1 : Nat) : Int) → r (704 + m) = (H : Int) → (∀ j, j ≤ u → M 299 (8 * m + j) = am_SZ A j) → (∀ t, t < 727 → t ≠ 704 + m → ¬ (419 ≤ t ∧ t < 419 + 5) → r t = r0 t) → (∀ z, z ≠ 292 → z ≠ 299 → M z = M0 z) → (∀ j, ¬ (8 * m ≤ j ∧ j < 8 * m + 8) → M 299 j = M0 299 j) → P (183, 0, 0) (zt_h m q) [] r M := by
  obtain ⟨hseg, henv, -, -, hld, -, hst, -, hcall, -, -, -, -, hvret⟩ := h
  have q3 := List.all_eq_true.mp (List.all_eq_true.mp zt_c3 m (List.mem_range.mpr hm)) q (List.mem_range.mpr hq)
  simp only [Bool.and_eq_true] at q3
  obtain ⟨⟨-, c1⟩, c2, c3⟩ := q3
  have q4 := List.all_eq_true.mp (List.all_eq_true.mp zt_c4 m (List.mem_range.mpr hm)) q (List.mem_range.mpr hq)
  simp only [Bool.and_eq_true] at q4
  obtain ⟨c4, c5, c6⟩ := q4
  have ck := List.all_eq_true.mp (List.all_eq_true.mp zt_k.1 m (List.mem_range.mpr hm)) q (List.mem_range.mpr hq)
  rw [Bool.and_eq_true, Bool.and_eq_true] at ck
  obtain ⟨⟨k1, k2⟩, k3⟩ := ck
  intro d
  induction d with
  | zero =>
    intro u r M hu hn' e5 eH eC fr fM fC
    have eu : u = H := by omega
    subst eu
    refine hseg _ _ _ _ _ r M _ _ _ _ _ c1 ⟨pt_m0, pt_m0, pt_m1 (by show r (704 + m) + 1 ≤ r 732 + 0; omega)⟩ ⟨fun _ => ?_, trivial⟩
    refine hvret (260, 0, 0) _ r M rfl zt_k.2.1.2.1.2 (by decide +kernel) (by decide +kernel) (hz r M ?_ ?_ fr fM fC)
    · rw [eH, hn']
    · rw [hn']
      exact eC
  | succ d ih =>
    intro u r M hu hn' e5 eH eC fr fM fC
    have b5 : (1 : Int) ≤ r 732 ∧ r 732 ≤ 7 := by omega
    refine hseg _ _ _ _ _ r M _ _ _ _ _ c2 ⟨pt_m0, pt_m2 b5 ⟨by show (0 : Int) ≤ r (704 + m); omega, by show r (704 + m) ≤ 7; omega⟩, pt_m1 (by show r 732 + 0 ≤ r (704 + m) + 0; omega)⟩ ⟨fun _ => ?_, trivial⟩
    show P (203, 0, 0) (zt_h m q) (zt_cS m q) r M
    refine henv _ _ _ _ _ (fun hE _ => ?_)
    have bd := List.all_eq_true.mp zt_bd m (List.mem_range.mpr hm)
    simp only [Bool.and_eq_true] at bd
    have bK := ze_eb hE bd.2.2
    obtain ⟨r6, hr6⟩ : ∃ r6, r6 = pt_up r (pt_wc (zt_cA m q) ro_aZ) := ⟨_, rfl⟩
    have v6 : ∀ t, r6 t = if t = 727 then (m : Int) else if t = 728 then r 732 else if t = 729 then (q : Int) else if t = 730 then r 91 else r t := fun t => by
      rw [hr6]
      rfl
    have f6 : ∀ t, t < 727 → r6 t = r t := fun t a => by rw [v6, if_neg (by omega), if_neg (by omega), if_neg (by omega), if_neg (by omega)]
    have g0 : ∀ t, t < 727 → t ≠ 704 + m → ¬ (419 ≤ t ∧ t < 419 + 5) → r6 t = r0 t := fun t a b c => (f6 t a).trans (fr t a b c)
    obtain ⟨oh, oK⟩ := hO
    have gK : go_K m l M := go_K_c oK (by rw [fM 286 (by omega) (by omega)]) (fun z hz k _ => by rcases hz with rfl | rfl | rfl <;> rw [fM _ (by omega) (by omega)]) (fun j _ => by rw [fM 290 (by omega) (by omega)]) (gw_lc oK.1)
    refine hcall (203, 0, 0) _ _ _ _ _ r M 207 1 807 _ _ ro_kZ.2.2.1 k1 k2 (ro_MZ (n := n) (v := m) (V := aVZ r0 (q : Int) T m ((u + 1 : Nat) : Int)) (l := l) hn hm hg) (by
      rw [← hr6]
      refine ⟨⟨⟨?_, ?_⟩, ?_, ?_⟩, ⟨?_, ?_⟩, ?_, gK⟩
      · rw [v6, if_pos rfl]
      · rw [v6, if_neg (by omega), if_pos rfl]
        exact e5
      · rw [v6, if_neg (by omega), if_neg (by omega), if_pos rfl]
        rfl
      · rw [v6, if_neg (by omega), if_neg (by omega), if_neg (by omega), if_pos rfl, fr _ (by omega) (by omega) (by omega), hT]
        rfl
      · exact g0 _ (by omega) (by omega) (by omega)
      · exact g0 _ (by omega) (by omega) (by omega)
      · rw [g0 _ (by omega) (by omega) (by omega)]
        exact oh) (fun r7 M7 o hq => ?_)
    rw [← hr6] at hq
    obtain ⟨rc, rs⟩ := wa_rm (n := n + 1 + 1 + 1) ro_kZ.2.2.2
    rw [rc, rs]
    obtain ⟨ho, f7, g7⟩ := hq
    have eA : av_askZ (aVZ r0 (q : Int) T m ((u + 1 : Nat) : Int)) l = A (u + 1) := by
      rw [hA]
      rfl
    rw [eA] at ho
    subst ho
    have bA : A (u + 1) = -1 ∨ (0 ≤ A (u + 1) ∧ A (u + 1) ≤ 9999) := by
      rw [← eA]
      refine av_ask_bZ ?_
      show 0 ≤ r0 (149 + m) ∧ r0 (149 + m) ≤ 999
      rw [← fr (149 + m) (by omega) (by omega) (by omega)]
      exact bK
    obtain ⟨r8, hr8⟩ : ∃ r8, r8 = pt_mrg 727 r r7 807 (some (A (u + 1))) := ⟨_, rfl⟩
    show P (206, 0, 0) (zt_h m q) [wa_i 807] (pt_mrg 727 r r7 807 (some (A (u + 1)))) M7
    rw [← hr8]
    have lo8 : ∀ t, t < 727 → r8 t = r7 t := fun t a => by
      rw [hr8]
      exact wa_mlt a
    have s8 : r8 807 = A (u + 1) := by
      rw [hr8]
      exact wa_mz (by omega)
    have l8 : r8 732 = ((u + 1 : Nat) : Int) := by
      rw [hr8]
      show (if 732 < 727 then _ else if 732 = 807 then _ else r 732) = _
      rw [if_neg (by omega), if_neg (by omega)]
      exact e5
    have g8 : ∀ t, t < 727 → t ≠ 704 + m → ¬ (419 ≤ t ∧ t < 419 + 5) → r8 t = r0 t := fun t a b c => by
      rw [lo8 t a, f7 t a c]
      exact g0 t a b c
    have h8 : r8 (704 + m) = (H : Int) := by
      rw [lo8 _ (by omega), f7 _ (by omega) (by omega), f6 _ (by omega)]
      exact eH
    have M8 : ∀ z, z ≠ 292 → M7 z = M z := fun z a => g7 z a
    have fM8 : ∀ z, z ≠ 292 → z ≠ 299 → M7 z = M0 z := fun z a b => (M8 z a).trans (fM z a b)
    have b8 : (1 : Int) ≤ r8 732 ∧ r8 732 ≤ 7 := by omega
    rcases bA with w | w
    · refine hseg _ _ _ _ _ r8 M7 _ _ _ _ _ c3 ⟨pt_m0, pt_m2 ⟨by show (-1 : Int) ≤ r8 807; omega, by show r8 807 ≤ -1; omega⟩ b8, pt_m0⟩ ⟨fun _ => ?_, trivial⟩
      obtain ⟨r9, hr9⟩ : ∃ r9, r9 = pt_up r8 [(733, gz_p 807), (704 + m, gz_d 732 (-1))] := ⟨_, rfl⟩
      show P (224, 0, 0) (zt_v m q) [] (pt_up r8 [(733, gz_p 807), (704 + m, gz_d 732 (-1))]) M7
      rw [← hr9]
      have v9 : ∀ t, r9 t = if t = 733 then r8 807 else if t = 704 + m then r8 732 + -1 else r8 t := fun t => by
        rw [hr9]
        rfl
      have en : am_nZ A H = u := by
        have := am_n_stZ hn' w d
        rw [show u + 1 + d = H by omega] at this
        exact this
      refine hvret (224, 0, 0) _ r9 M7 rfl zt_k.2.1.2.1.1 (by decide +kernel) (by decide +kernel) (hz r9 M7 ?_ ?_ (fun t a b c => ?_) fM8 (fun j hj => by rw [M8 _ (by omega)]; exact fC j hj))
      · rw [en, v9, if_neg (by omega), if_pos rfl, l8]
        omega
      · rw [en, M8 _ (by omega)]
        exact eC
      · rw [v9, if_neg (by omega), if_neg b]
        exact g8 t a b c
    · refine hseg _ _ _ _ _ r8 M7 _ _ _ _ _ c4 ⟨pt_m0, pt_m2 ⟨by show (0 : Int) ≤ r8 807; omega, by show r8 807 ≤ 9999; omega⟩ b8, pt_m0⟩ ⟨fun _ => ?_, trivial⟩
      obtain ⟨r9, hr9⟩ : ∃ r9, r9 = pt_up r8 [(733, gz_p 807)] := ⟨_, rfl⟩
      show P (249, 0, 0) (zt_v m q) (.inl (732, ((8 * m : Nat) : Int) - 1) :: .inr (.inr (some (some 299))) :: [.inl (732, .ofNat (8 * m)), wa_r 299]) (pt_up r8 [(733, gz_p 807)]) M7
      rw [← hr9]
      have v9 : ∀ t, r9 t = if t = 733 then r8 807 else r8 t := fun t => by
        rw [hr9]
        rfl
      refine hld (249, 0, 0) _ [.inl (732, .ofNat (8 * m)), wa_r 299] r9 M7 299 32 809 (8 * m + u) (732, ((8 * m : Nat) : Int) - 1) k3 (by omega) (by show r9 732 + (((8 * m : Nat) : Int) - 1) = _; rw [v9, if_neg (by omega), l8]; omega) ?_
      rw [M8 _ (by omega), eC u (Nat.le_refl u)]
      obtain ⟨ra, hra⟩ : ∃ ra, ra = pt_set r9 809 (am_SZ A u) := ⟨_, rfl⟩
      show P (250, 0, 0) (zt_v m q) [wa_i 809, .inl (732, .ofNat (8 * m)), wa_r 299] (pt_set r9 809 (am_SZ A u)) M7
      rw [← hra]
      have na : ∀ t, t ≠ 809 → ra t = r9 t := fun t x => by
        rw [hra]
        exact if_neg x
      have sa : ra 809 = am_SZ A u := by
        rw [hra]
        exact gz_sset
      refine hseg _ _ _ _ _ ra M7 _ _ _ _ _ c5 ⟨pt_m0, pt_m0, pt_m0⟩ ⟨fun _ => ?_, trivial⟩
      obtain ⟨rb, hrb⟩ : ∃ rb, rb = pt_up ra [(807, [(0, 809, 0), (0, 733, 0), (2, 0, 0)])] := ⟨_, rfl⟩
      show P (253, 0, 0) (zt_v m q) (.inl (807, 0) :: .inl (732, .ofNat (8 * m)) :: .inr (.inr (some (some 299))) :: []) (pt_up ra [(807, [(0, 809, 0), (0, 733, 0), (2, 0, 0)])]) M7
      rw [← hrb]
      have vb : ∀ t, rb t = if t = 807 then ai_op 0 (ra 809) (ra 733) else ra t := fun t => by
        rw [hrb]
        rfl
      have lb : rb 732 = ((u + 1 : Nat) : Int) := by rw [vb, if_neg (by omega), na _ (by omega), v9, if_neg (by omega), l8]
      refine hst (253, 0, 0) _ [] rb M7 299 32 (8 * m + (u + 1)) (732, .ofNat (8 * m)) (807, 0) zt_k.2.1.1.2 (by omega) (by show rb 732 + ((8 * m : Nat) : Int) = _; omega) ?_
      have ev : ai_vx rb (807, 0) = am_SZ A (u + 1) := by
        show rb 807 + 0 = _
        rw [Int.add_zero, vb, if_pos rfl, sa, na _ (by omega), v9, if_pos rfl, s8]
        rfl
      rw [ev]
      refine hseg _ _ _ _ _ rb _ _ _ _ _ _ c6 ⟨pt_m0, pt_m1 ⟨by show (1 : Int) ≤ rb 732; omega, by show rb 732 ≤ 7; omega⟩, pt_m0⟩ ⟨fun _ => ?_, trivial⟩
      obtain ⟨rd, hrd⟩ : ∃ rd, rd = pt_up rb [(732, gz_d 732 1)] := ⟨_, rfl⟩
      show P (183, 0, 0) (zt_h m q) [] (pt_up rb [(732, gz_d 732 1)]) _
      rw [← hrd]
      have vd : ∀ t, rd t = if t = 732 then rb 732 + 1 else rb t := fun t => by
        rw [hrd]
        rfl
      have fd : ∀ t, t < 727 → rd t = r8 t := fun t a => by rw [vd, if_neg (by omega), vb, if_neg (by omega), na _ (by omega), v9, if_neg (by omega)]
      refine ih (u + 1) rd _ (by omega) (by rw [am_n_sZ, if_pos ⟨hn', by omega⟩]) (by rw [vd, if_pos rfl, lb]; omega) ((fd _ (by omega)).trans h8) (fun j hj => ?_) (fun t a b c => (fd t a).trans (g8 t a b c)) (fun z a b => ?_) (fun j hj => ?_)
      · show (if 299 = 299 ∧ 8 * m + j = 8 * m + (u + 1) then am_SZ A (u + 1) else M7 299 (8 * m + j)) = am_SZ A j
        by_cases e : j = u + 1
        · rw [if_pos ⟨rfl, by omega⟩, e]
        · rw [if_neg (fun x => by omega), M8 _ (by omega)]
          exact eC j (by omega)
      · rw [← fM8 z a b]
        funext x
        exact if_neg (fun y => b y.1)
      · show (if 299 = 299 ∧ j = 8 * m + (u + 1) then am_SZ A (u + 1) else M7 299 j) = _
        rw [if_neg (fun x => by omega), M8 _ (by omega)]
        exact fC j hj
end ZTS
theorem zt_M {n q m : Nat} {on w T : Int} {l : List Int} (hn : 4 ≤ n) (hm : m < 4) (hq : q < 4) (hg : ps_gc l) (hw : 0 ≤ w ∧ w ≤ 7) : pt_Met (n + 1 + 1 + 1 + 1) 219 zyY zt_a (fun r M => ((r 727 = (m : Int) ∧ r 728 = (q : Int)) ∧ r 729 = on ∧ r 730 = w) ∧ (zt_P q m r ∧ r 91 = T) ∧ zt_O m l r M) (zt_Q q m on w T l) 0 := by
  refine pt_intro (L0 := [wa_r 264, wa_i 727, wa_i 728, wa_i 729, wa_i 730, wa_u, wa_u, wa_u]) zt_k.2.2.1 (by omega) zysys (by
    rw [zt_k.2.1.2.2]
    rfl) (fun P r M h hp => ?_)
  have h' := h
  obtain ⟨hseg, henv, hrel, -, -, -, hst, -⟩ := h'
  obtain ⟨⟨⟨p0, p1⟩, p2, p3⟩, ⟨⟨⟨pm, pw⟩, pI, pX, pC⟩, pT⟩, pO⟩ := hp
  refine henv _ _ _ _ _ (fun hE _ => ?_)
  have h0 : r 0 = 0 := hE.1
  have bd := List.all_eq_true.mp zt_bd m (List.mem_range.mpr hm)
  simp only [Bool.and_eq_true] at bd
  have bK := ze_eb hE bd.1.1
  have bH := ze_eb hE bd.1.2
  have bM := ze_eb hE bd.2.1
  refine hrel (0, 0, 0) _ (zt_L m q wa_u wa_u wa_u) [] [] r M ⟨rfl, ⟨by show 0 < 827; omega, by show r 727 + 0 = r 0 + (m : Int); omega⟩, ⟨by show 0 < 827; omega, by show r 728 + 0 = r 0 + (q : Int); omega⟩, ⟨by show 729 < 827; omega, rfl⟩, ⟨by show 730 < 827; omega, rfl⟩, trivial, trivial, trivial, trivial⟩ trivial ?_
  obtain ⟨k, hk⟩ : ∃ k : Nat, r (137 + m) = (k : Int) := ⟨(r (137 + m)).toNat, by omega⟩
  obtain ⟨hh, hhh⟩ : ∃ hh : Nat, r (141 + m) = (hh : Int) := ⟨(r (141 + m)).toNat, by omega⟩
  have h3 : hh < 3 := by omega
  have k4 : k < 4 := by omega
  have eHn : (r (141 + m)).toNat = hh := by omega
  have bI := pI hh h3
  have hcp : ∀ {b : Int × Int}, (b.1 ≤ r 92 ∧ r 92 ≤ b.2) → ∀ x ∈ (92, b) :: zt_B m q, x.2.1 ≤ r x.1 ∧ r x.1 ≤ x.2.2 := fun {b} hb x hx => by
    have i0 := pI 0 (by omega)
    have i1 := pI 1 (by omega)
    have i2 := pI 2 (by omega)
    have i0 : 0 ≤ r 716 ∧ r 716 ≤ 2 := i0
    simp only [zt_B, List.mem_cons, List.not_mem_nil, or_false] at hx
    rcases hx with rfl | rfl | rfl | rfl | rfl | rfl | rfl
    · exact hb
    · exact i0
    · exact i1
    · exact i2
    · exact pX
    · exact pC
    · exact ⟨by show (0 : Int) ≤ r 730; omega, by show r 730 ≤ 7; omega⟩
  -- behind the bounds: the asks
  have fin : ∀ (x y : pt_X) (lo H : Nat), pt_v r x = (lo : Int) → pt_v r y = (H : Int) → H ≤ 7 → lo = zt_lo r on w m → H = zt_h0 r on w q m → P (179, 0, 0) (zt_L m q wa_u wa_u wa_u) (zt_S m) (pt_up r (zt_W m hh k x y)) M := fun x y lo H ex ey hH el eh => by
    obtain ⟨r2, hr2⟩ : ∃ r2, r2 = pt_up r (zt_W m hh k x y) := ⟨_, rfl⟩
    rw [← hr2]
    have v2 : ∀ t, r2 t = if t = 700 + m then (lo : Int) else if t = 704 + m then (H : Int) else r t := fun t => by
      have e : r2 t = if t = 137 + m then (k : Int) else if t = 141 + m then (hh : Int) else if t = 700 + m then pt_v r x else if t = 704 + m then pt_v r y else r t := by
        rw [hr2]
        rfl
      rw [e, ex, ey]
      by_cases a : t = 137 + m
      · rw [if_pos a, if_neg (by omega), if_neg (by omega), a, hk]
      · rw [if_neg a]
        by_cases a2 : t = 141 + m
        · rw [if_pos a2, if_neg (by omega), if_neg (by omega), a2, hhh]
        · rw [if_neg a2]
    have f2 : ∀ t, t ≠ 700 + m → t ≠ 704 + m → r2 t = r t := fun t a b => by rw [v2, if_neg a, if_neg b]
    have z20 : r2 0 = 0 := (f2 0 (by omega) (by omega)).trans h0
    refine hst (179, 0, 0) _ [] r2 M 299 32 (8 * m) (0, .ofNat (8 * m)) (0, .ofNat 0) zt_k.2.1.1.1 (by omega) (by show r2 0 + ((8 * m : Nat) : Int) = _; rw [z20]; omega) ?_
    have ev : ai_vx r2 (0, .ofNat 0) = 0 := by
      show r2 0 + 0 = 0
      rw [z20]
      rfl
    rw [ev]
    have q3 := List.all_eq_true.mp (List.all_eq_true.mp zt_c3 m (List.mem_range.mpr hm)) q (List.mem_range.mpr hq)
    simp only [Bool.and_eq_true] at q3
    refine hseg _ _ _ _ _ r2 _ _ _ _ _ _ q3.1.1 ⟨pt_m0, pt_m0, pt_m0⟩ ⟨fun _ => ?_, trivial⟩
    obtain ⟨r3, hr3⟩ : ∃ r3, r3 = pt_up r2 [(732, gz_k 1)] := ⟨_, rfl⟩
    show P (183, 0, 0) (zt_h m q) [] (pt_up r2 [(732, gz_k 1)]) _
    rw [← hr3]
    have v3 : ∀ t, r3 t = if t = 732 then 1 else r2 t := fun t => by
      rw [hr3]
      rfl
    have f3 : ∀ t, t < 727 → t ≠ 700 + m → t ≠ 704 + m → r3 t = r t := fun t a b c => by
      rw [v3, if_neg (by omega)]
      exact f2 t b c
    have eA : zt_A r3 q T m l = zt_A r q T m l := by
      unfold zt_A
      funext u
      refine congrArg (fun V => av_askZ V l) ?_
      funext j
      unfold aVZ
      rw [f3 (149 + m) (by omega) (by omega) (by omega), f3 (145 + m) (by omega) (by omega) (by omega)]
    have oM : ∀ z, z ≠ 299 → pt_sto M 299 (8 * m) 0 z = M z := fun z hz => by
      funext x
      exact if_neg (fun y => hz y.1)
    have oC : ∀ j, j ≠ 8 * m → pt_sto M 299 (8 * m) 0 299 j = M 299 j := fun j hj => if_neg (fun y => hj y.2)
    have o0 : pt_sto M 299 (8 * m) 0 299 (8 * m) = 0 := if_pos ⟨rfl, rfl⟩
    refine zt_loop (n := n) (r0 := r3) (M0 := pt_sto M 299 (8 * m) 0) (T := T) (l := l) (A := zt_A r q T m l) (H := H) h hn hm hq hg ⟨?_, go_K_c pO.2 (by rw [oM 286 (by omega)]) (fun z hz j _ => by rcases hz with rfl | rfl | rfl <;> rw [oM _ (by omega)]) (fun j _ => by rw [oM 290 (by omega)]) (gw_lc pO.2.1)⟩ ?_ eA.symm hH (fun r4 M4 a1 a2 a3 a4 a5 => ⟨rfl, ⟨⟨?_, ?_⟩, ?_⟩, fun t b c => ?_, fun z b c => (a4 z b c).trans (oM z c), fun j hj => (a5 j hj).trans (oC j (by omega))⟩) H 0 r3 _ (by omega) rfl ?_ ?_ (fun j hj => ?_) (fun _ _ _ _ => rfl) (fun _ _ _ => rfl) (fun _ _ => rfl)
    · rw [f3 _ (by omega) (by omega) (by omega)]
      exact pO.1
    · exact (f3 _ (by omega) (by omega) (by omega)).trans pT
    · rw [a3 _ (by omega) (by omega) (by omega), v3, if_neg (by omega), v2, if_pos rfl, el]
    · rw [a1, eh]
    · rw [← eh]
      exact a2
    · obtain ⟨c1, c2, c3⟩ := c
      rw [a3 t b c2 c3]
      exact f3 t b c1 c2
    · rw [v3, if_pos rfl]
      rfl
    · rw [v3, if_neg (by omega), v2, if_neg (by omega), if_pos rfl]
    · rw [show j = 0 by omega]
      exact o0
  have hid : ai_op 1 (r (145 + m)) (r (716 + hh)) = r (145 + m) - r (716 + hh) := wq_o1 (by omega) (by omega)
  by_cases c1 : r (141 + m) = r 92
  · have cc : ¬ ((m : Int) < r 73 ∧ r (141 + m) ≠ r 92) := fun x => x.2 c1
    have row := List.all_eq_true.mp (List.all_eq_true.mp (List.all_eq_true.mp (zt_c1 hm) q (List.mem_range.mpr hq)) hh (List.mem_range.mpr h3)) k (List.mem_range.mpr k4)
    refine hseg _ _ _ _ _ r M _ _ _ _ _ row ⟨pt_m2 hk hhh, hcp ⟨by show (hh : Int) ≤ r 92; omega, by show r 92 ≤ (hh : Int); omega⟩, pt_m0⟩ ⟨fun _ => ?_, trivial⟩
    refine fin _ _ 0 0 rfl rfl (by omega) ?_ ?_
    · unfold zt_lo zs_l
      rw [if_neg cc]
    · unfold zt_h0 zs_h
      rw [if_neg cc]
  have cc : (m : Int) < r 73 ∧ r (141 + m) ≠ r 92 := ⟨pm, c1⟩
  have rows : ∀ b, b < 2 → zt_r m q hh k (zs_sl hh b) (zt_E m q hh k) = true := fun b hb => List.all_eq_true.mp (List.all_eq_true.mp (List.all_eq_true.mp (zt_c2 hb hm) q (List.mem_range.mpr hq)) hh (List.mem_range.mpr h3)) k (List.mem_range.mpr k4)
  have seg : pt_ks P r M (zt_E m q hh k) → P (0, 0, 0) (zt_L m q wa_u wa_u wa_u) [] r M := fun ks => by
    rcases (by omega : r 92 < (hh : Int) ∨ (hh : Int) < r 92) with e | e
    · exact hseg _ _ _ _ _ r M _ _ _ _ _ (rows 0 (by omega)) ⟨pt_m2 hk hhh, hcp ⟨by show (-1 : Int) ≤ r 92; omega, by show r 92 ≤ (hh : Int) - 1; omega⟩, pt_m0⟩ ks
    · exact hseg _ _ _ _ _ r M _ _ _ _ _ (rows 1 (by omega)) ⟨pt_m2 hk hhh, hcp ⟨by show (hh : Int) + 1 ≤ r 92; omega, by show r 92 ≤ 3; omega⟩, pt_m0⟩ ks
  have bt : pt_v r (zt_bx m) = zs_bt on m := by
    show ai_op 5 (ai_op 9 (r 729) (.ofNat m)) 1 = _
    rw [p2]
    rfl
  have k01 : r (137 + m) ≤ 1 → pt_ks P r M [zt_e m q hh k (gz_k 0) (gz_k 0) (zt_b0 m), zt_e m q hh k (gz_p (153 + m)) (zt_hx m hh) [(0, gz_k 1, zt_bx m)]] := fun c => by
    refine ⟨fun g => ?_, fun g => ?_, trivial⟩
    · have g1 : 0 ≤ pt_v r (zt_bx m) := g.1
      have g2 : pt_v r (zt_bx m) ≤ 0 := g.2.1
      rw [bt] at g1 g2
      refine fin _ _ 0 0 rfl rfl (by omega) ?_ ?_
      · unfold zt_lo zs_l
        rw [if_pos cc, if_pos c, if_pos (by omega)]
      · unfold zt_h0 zs_h
        rw [if_pos cc, if_pos c, if_pos (by omega)]
    · have g1 : 1 ≤ pt_v r (zt_bx m) := g.1
      rw [bt] at g1
      refine fin _ _ (r (153 + m)).toNat (max (r (153 + m)).toNat ((r (145 + m)).toNat - (r (716 + hh)).toNat)) ?_ ?_ (by omega) ?_ ?_
      · show r (153 + m) = _
        omega
      · show ai_max (r (153 + m)) (ai_op 1 (r (145 + m)) (r (716 + hh))) = _
        rw [hid, ze_max]
        split <;> omega
      · unfold zt_lo zs_l
        rw [if_pos cc, if_pos c, if_neg (by omega)]
      · unfold zt_h0 zs_h
        rw [if_pos cc, if_pos c, if_neg (by omega), eHn]
  rcases (by omega : k = 0 ∨ k = 1 ∨ k = 2 ∨ k = 3) with rfl | rfl | rfl | rfl
  · exact seg (k01 (by omega))
  · exact seg (k01 (by omega))
  · refine seg ⟨fun _ => fin _ _ w.toNat w.toNat ?_ ?_ (by omega) ?_ ?_, trivial⟩
    · show r 730 = _
      omega
    · show r 730 = _
      omega
    · unfold zt_lo zs_l
      rw [if_pos cc, if_neg (by omega), if_pos (by omega)]
    · unfold zt_h0 zs_h
      rw [if_pos cc, if_neg (by omega), if_pos (by omega)]
  · refine seg ⟨fun _ => fin _ _ 0 (min (min (r (145 + m)).toNat (r (185 + 4 * m + q)).toNat) ((r (145 + m)).toNat - (r (716 + hh)).toNat)) rfl ?_ (by omega) ?_ ?_, trivial⟩
    · show ai_min (r (185 + 4 * m + q)) (ai_max 0 (ai_op 1 (r (145 + m)) (r (716 + hh)))) = _
      rw [hid, ze_max, ze_min]
      split <;> split <;> omega
    · unfold zt_lo zs_l
      rw [if_pos cc, if_neg (by omega), if_neg (by omega)]
    · unfold zt_h0 zs_h
      rw [if_pos cc, if_neg (by omega), if_neg (by omega), eHn]
