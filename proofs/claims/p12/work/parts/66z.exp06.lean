/-! ASKED (the class): all units of a mill -/
noncomputable def am_nZ (A : Nat → Int) : Nat → Nat
  | 0 => 0
  | k + 1 => if am_nZ A k = k ∧ A (k + 1) ≠ -1 then k + 1 else am_nZ A k
noncomputable def am_SZ (A : Nat → Int) : Nat → Int
  | 0 => 0
  | k + 1 => ai_op 0 (am_SZ A k) (A (k + 1))
theorem am_n_sZ {A : Nat → Int} {k : Nat} : am_nZ A (k + 1) = if am_nZ A k = k ∧ A (k + 1) ≠ -1 then k + 1 else am_nZ A k := rfl
theorem am_n_leZ {A : Nat → Int} : ∀ k, am_nZ A k ≤ k
  | 0 => Nat.le_refl 0
  | k + 1 => by
    rw [am_n_sZ]
    split
    · exact Nat.le_refl _
    · exact Nat.le_succ_of_le (am_n_leZ k)
/-- behind the first unit that isn't asked for nothing more is told -/
theorem am_n_stZ {A : Nat → Int} {k : Nat} (h : am_nZ A k = k) (h2 : A (k + 1) = -1) : ∀ d, am_nZ A (k + 1 + d) = k
  | 0 => by
    show am_nZ A (k + 1) = k
    rw [am_n_sZ, if_neg (fun w => w.2 h2)]
    exact h
  | d + 1 => by
    have ih := am_n_stZ h h2 d
    show am_nZ A (k + 1 + d + 1) = k
    rw [am_n_sZ, if_neg (fun w => by have := w.1; omega)]
    exact ih
noncomputable def aVZ (r : Nat → Int) (q T : Int) (v : Nat) (u : Int) : Nat → Int := fun k => if k = 0 then u else if k = 1 then q else if k = 2 then T else if k = 3 then r (149 + v) else r (145 + v)
noncomputable def am_AZ (r : Nat → Int) (q T : Int) (v : Nat) (l : List Int) : Nat → Int := fun u => av_askZ (aVZ r q T v (u : Int)) l
noncomputable def am_LZ (v : Nat) (a b : ai_V) : List ai_V := [wa_r 87, wa_k v, wa_r (44 + 6 * v), a, b]
noncomputable def am_hZ (v : Nat) : List ai_V := am_LZ v (wa_i 728) wa_u
noncomputable def am_bZ (v : Nat) : List ai_V := am_LZ v (wa_i 728) (wa_i 729)
noncomputable def am_0Z (v : Nat) : List ai_V := [wa_r 87, wa_k v, wa_u, wa_u, wa_u]
noncomputable abbrev am_rZ (st : List Nat) (sk : Bool) (pc : Nat) (L S : List ai_V) (cp : List (Nat × Int × Int)) (le : List (ai_X × ai_X)) (pc2 : Nat) (L2 S2 : List ai_V) (W : List (Nat × pt_X)) : Bool := pt_row zxY 5 st sk (pc, 0, 0) L S [] cp le [48, 54, 60, 66, 95] [((pc2, 0, 0), (L2, S2), W, [])]
noncomputable def am_xZ : pt_X := [(0, 728, 0), (3, 0, -1)]
theorem am_c1Z : (List.range 4).all (fun v => (am_rZ [34] true 0 (am_0Z v) [] [] [] 34 (am_hZ v) [] [(sw_vZ v 1, gz_p 44), (sw_vZ v 2, gz_p 45), (sw_vZ v 3, gz_p (149 + v)), (sw_vZ v 4, gz_p (145 + v)), (728, gz_k 1)] && am_rZ [53, 99] true 34 (am_hZ v) [] [(728, (1, 7))] [((728, 0), (145 + v, 0))] 53 (am_hZ v) [wa_i 728, wa_r (46 + 6 * v)] []) &&
    ((am_rZ [53, 99] true 34 (am_hZ v) [] [(728, (1, 8))] [((145 + v, 1), (728, 0))] 99 (am_hZ v) [] [] && am_rZ [64, 81] false 56 (am_hZ v) [wa_i 807] [(807, (-1, -1)), (728, (1, 7))] [] 64 (am_hZ v) [] []) && (am_rZ [64, 81] false 56 (am_hZ v) [wa_i 807] [(807, (0, 2147483647)), (728, (1, 7))] [] 81 (am_bZ v) [.inl (728, -1), wa_r (91 + v), wa_i 728, wa_r (91 + v)] [(729, gz_p 807)] && am_rZ [64, 81] false 56 (am_hZ v) [wa_i 807] [(807, (-2147483648, -2)), (728, (1, 7))] [] 81 (am_bZ v) [.inl (728, -1), wa_r (91 + v), wa_i 728, wa_r (91 + v)] [(729, gz_p 807)]))) = true := by decide +kernel
theorem am_c2Z : (List.range 4).all (fun v => am_rZ [85] false 82 (am_bZ v) [wa_i 809, wa_i 728, wa_r (91 + v)] [(728, (1, 7))] [] 85 (am_bZ v) [wa_i 807, wa_i 728, wa_r (91 + v)] [(807, [(0, 809, 0), (0, 729, 0), (2, 0, 0)])] && am_rZ [34] false 86 (am_bZ v) [] [(728, (1, 7))] [] 34 (am_hZ v) [] [(415 + v, gz_p 728), (728, gz_d 728 1)]) = true := by decide +kernel
theorem am_kZ : (List.range 4).all (fun v => (cy_vk 5 53 65 zxY.2.1 [wa_i 728, wa_r (46 + 6 * v)] [wa_r (46 + 6 * v), wa_i 728] [] && pt_cck zxY 5 65 (53, 0, 0) 1 807 (am_hZ v) [] [wa_r (46 + 6 * v), wa_i 728] (pu_LZ v)) && (pt_lck zxY 5 81 1 (91 + v) 8 0 809 (am_bZ v) [wa_i 728, wa_r (91 + v)] && pt_sck zxY 5 85 2 (91 + v) 8 0)) = true ∧ ((pt_is 7 5 64 = true ∧ pt_is 7 5 99 = true) ∧ (ct_mt 5).2.2.1 = 5) ∧ lh_plain 5 = true ∧ ct_bud 5 = (0, 0) := by decide +kernel
theorem am_bdZ : (List.range 4).all (fun v => zxE.2.1.any (fun q => decide (q = (145 + v, ((0 : Int), (7 : Int)))))) = true := by decide +kernel
noncomputable def am_PZ (v : Nat) (l : List Int) (r : Nat → Int) (M : Nat → Nat → Int) : Prop := (r 727 = (v : Int) ∧ r (415 + v) = 0 ∧ M (91 + v) 0 = 0) ∧ r (aw_oZ v) = (l.length : Int) ∧ ∀ j, j < l.length → M (47 + 6 * v) j = l.getD j 0
/-- what asking changes -/
noncomputable def am_chZ (v t : Nat) : Prop := t = pu_dZ v ∨ t = 415 + v ∨ (391 + 5 * v ≤ t ∧ t < 391 + 5 * v + 5)
noncomputable def am_QZ (v : Nat) (l : List Int) (r : Nat → Int) (M : Nat → Nat → Int) (r2 : Nat → Int) (M2 : Nat → Nat → Int) (o : Option Int) : Prop := o = none ∧ (r2 (415 + v) = (am_nZ (am_AZ r (r 44) (r 45) v l) (r (145 + v)).toNat : Int) ∧ ∀ j, j ≤ am_nZ (am_AZ r (r 44) (r 45) v l) (r (145 + v)).toNat → M2 (91 + v) j = am_SZ (am_AZ r (r 44) (r 45) v l) j) ∧ (∀ t, t < 727 → ¬ am_chZ v t → r2 t = r t) ∧ ∀ z, z ≠ 49 + 6 * v → z ≠ 91 + v → M2 z = M z
section AMS
variable {n v : Nat} {Z : (Nat → Int) → (Nat → Nat → Int) → Option Int → Prop} {P : pt_P} {l : List Int} {r0 : Nat → Int} {M0 : Nat → Nat → Int} {A : Nat → Int} {mo : Nat}
theorem am_loopZ (h : pt_Cl (n + 1 + 1 + 1) 5 zxY 0 Z P) (hn : 4 ≤ n) (hv : v < 4) (hl : l.length ≤ 200) (ok : av_okZ l 0) (ho : r0 (aw_oZ v) = (l.length : Int)) (hM : ∀ j, j < l.length → M0 (47 + 6 * v) j = l.getD j 0) (hm : r0 (145 + v) = (mo : Int)) (hm7 : mo ≤ 7) (hA : A = am_AZ r0 (r0 44) (r0 45) v l)
    (hz : ∀ r2 M2, (r2 (415 + v) = (am_nZ A mo : Int) ∧ ∀ j, j ≤ am_nZ A mo → M2 (91 + v) j = am_SZ A j) → (∀ t, t < 727 → ¬ am_chZ v t → r2 t = r0 t) → (∀ z, z ≠ 49 + 6 * v → z ≠ 91 + v → M2 z = M0 z) → Z r2 M2 none) :
    ∀ (d u : Nat) (r : Nat → Int) (M : Nat → Nat → Int), u + d = mo → am_nZ A u = u → r 728 = ((u + 1 : Nat) : Int) → (r (415 + v) = (u : Int) ∧ ∀ j, j ≤ u → M (91 + v) j = am_SZ A j) → ((∀ k, 1 ≤ k → k < 5 → r (sw_vZ v k) = aVZ r0 (r0 44) (r0 45) v 0 k) ∧ ∀ t, t < 727 → ¬ am_chZ v t → r t = r0 t) → (∀ z, z ≠ 49 + 6 * v → z ≠ 91 + v → M z = M0 z) → P (34, 0, 0) (am_hZ v) [] r M := by
  have h' := h
  obtain ⟨hseg, henv, -, -, hld, -, hst, -, hcall, -, -, -, -, hvret⟩ := h'
  have q1 := List.all_eq_true.mp am_c1Z v (List.mem_range.mpr hv)
  simp only [Bool.and_eq_true] at q1
  obtain ⟨⟨-, c2⟩, ⟨c3, c4⟩, c5, c6⟩ := q1
  have q2 := List.all_eq_true.mp am_c2Z v (List.mem_range.mpr hv)
  rw [Bool.and_eq_true] at q2
  obtain ⟨d1, d2⟩ := q2
  have qk := List.all_eq_true.mp am_kZ.1 v (List.mem_range.mpr hv)
  simp only [Bool.and_eq_true] at qk
  obtain ⟨⟨k1, k2⟩, k3, k4⟩ := qk
  have nn : (pu_dZ v < 727 ∧ aw_oZ v < 727) ∧ ((¬ am_chZ v (aw_oZ v) ∧ ¬ am_chZ v (145 + v) ∧ ¬ am_chZ v (149 + v)) ∧ (¬ am_chZ v 44 ∧ ¬ am_chZ v 45)) ∧ ∀ k, k < 5 → am_chZ v (sw_vZ v k) ∧ sw_vZ v k < 727 ∧ sw_vZ v k ≠ pu_dZ v ∧ sw_vZ v k ≠ 415 + v := by
    unfold am_chZ pu_dZ aw_oZ
    refine ⟨⟨by omega, by omega⟩, ⟨⟨by omega, by omega, by omega⟩, by omega, by omega⟩, fun k hk => ?_⟩
    unfold sw_vZ
    omega
  obtain ⟨⟨np, no⟩, ⟨⟨n1, n2, n3⟩, n4, n5⟩, nv⟩ := nn
  have npd : pu_dZ v ≠ 415 + v := by
    unfold pu_dZ
    omega
  intro d
  induction d with
  | zero =>
    intro u r M hu hn' e1 e2 e3 fM
    have eu : u = mo := by omega
    subst eu
    have em : r (145 + v) = (u : Int) := (e3.2 _ (by omega) n2).trans hm
    refine hseg _ _ _ _ _ r M _ _ _ _ _ c3 ⟨pt_m0, pt_m1 ⟨by show (1 : Int) ≤ r 728; omega, by show r 728 ≤ 8; omega⟩, pt_m1 (by show r (145 + v) + 1 ≤ r 728 + 0; omega)⟩ ⟨fun _ => ?_, trivial⟩
    refine hvret (99, 0, 0) _ r M rfl am_kZ.2.1.1.2 (by decide +kernel) (by decide +kernel) (hz r M ?_ e3.2 fM)
    rw [hn']
    exact e2
  | succ d ih =>
    intro u r M hu hn' e1 e2 e3 fM
    have em : r (145 + v) = (mo : Int) := (e3.2 _ (by omega) n2).trans hm
    have b1 : ∀ r2 : Nat → Int, r2 728 = ((u + 1 : Nat) : Int) → (1 : Int) ≤ r2 728 ∧ r2 728 ≤ 7 := fun r2 e => by omega
    refine hseg _ _ _ _ _ r M _ _ _ _ _ c2 ⟨pt_m0, pt_m1 (b1 r e1), pt_m1 (by show r 728 + 0 ≤ r (145 + v) + 0; omega)⟩ ⟨fun _ => ?_, trivial⟩
    obtain ⟨r6, hr6⟩ : ∃ r6, r6 = pt_up r (pt_wc [wa_r (46 + 6 * v), wa_i 728] (pu_LZ v)) := ⟨_, rfl⟩
    have v6 : ∀ t, r6 t = if t = 727 then r 728 else r t := fun t => by
      rw [hr6]
      rfl
    refine hcall (53, 0, 0) _ _ _ _ _ r M 65 1 807 _ _ aw_kZ.2.2.1 k1 k2 (aw_MZ (n := n) (v := v) (V := aVZ r0 (r0 44) (r0 45) v ((u + 1 : Nat) : Int)) (l := l) hn hv hl ok) (by
      rw [← hr6]
      refine ⟨⟨?_, fun k ka kb => ?_⟩, ?_, fun j hj => ?_⟩
      · rw [v6, if_pos rfl]
        exact e1
      · obtain ⟨a1, a2, a3, a4⟩ := nv k kb
        rw [v6, if_neg (by omega), e3.1 k ka kb]
        have k0 : ¬ (k = 0) := by omega
        show (if k = 0 then _ else _) = if k = 0 then _ else _
        rw [if_neg k0, if_neg k0]
      · rw [v6, if_neg (by omega), e3.2 _ no n1]
        exact ho
      · rw [fM _ (by omega) (by omega)]
        exact hM j hj) (fun r7 M7 o hq => ?_)
    rw [← hr6] at hq
    obtain ⟨rc, rs⟩ := wa_rm (n := n + 1 + 1 + 1) aw_kZ.2.2.2
    rw [rc, rs]
    obtain ⟨rfl, y2, y3⟩ := hq
    have eA : av_askZ (aVZ r0 (r0 44) (r0 45) v ((u + 1 : Nat) : Int)) l = A (u + 1) := by
      rw [hA]
      rfl
    rw [eA]
    obtain ⟨r8, hr8⟩ : ∃ r8, r8 = pt_mrg 727 r r7 807 (some (A (u + 1))) := ⟨_, rfl⟩
    show P (56, 0, 0) (am_hZ v) [wa_i 807] (pt_mrg 727 r r7 807 (some (A (u + 1)))) _
    rw [← hr8]
    have lo8 : ∀ t, t < 727 → r8 t = r7 t := fun t ht => by
      rw [hr8]
      exact wa_mlt ht
    have s8 : r8 807 = A (u + 1) := by
      rw [hr8]
      exact wa_mz (by omega)
    have l8 : r8 728 = ((u + 1 : Nat) : Int) := by
      rw [hr8]
      show (if 728 < 727 then _ else if 728 = 807 then _ else r 728) = _
      rw [if_neg (by omega), if_neg (by omega)]
      exact e1
    have f8 : ∀ t, t < 727 → t ≠ pu_dZ v → t ≠ sw_vZ v 0 → r8 t = r t := fun t a b c => by rw [lo8 t a, y2 t a b c, v6, if_neg (by omega)]
    have g8 : ∀ t, t < 727 → ¬ am_chZ v t → r8 t = r0 t := fun t a b => by
      rw [f8 t a (fun e => b (Or.inl e)) (fun e => b (by rw [e]; exact (nv 0 (by omega)).1))]
      exact e3.2 t a b
    have k8 : ∀ k, 1 ≤ k → k < 5 → r8 (sw_vZ v k) = aVZ r0 (r0 44) (r0 45) v 0 k := fun k ka kb => by
      obtain ⟨a1, a2, a3, a4⟩ := nv k kb
      rw [f8 _ a2 a3 (by unfold sw_vZ; omega)]
      exact e3.1 k ka kb
    have o8 : r8 (415 + v) = (u : Int) := (f8 _ (by omega) (fun e => npd e.symm) (by unfold sw_vZ; omega)).trans e2.1
    have M8 : M7 (91 + v) = M (91 + v) := y3 _ (by omega)
    have fM8 : ∀ z, z ≠ 49 + 6 * v → z ≠ 91 + v → M7 z = M0 z := fun z a b => (y3 z a).trans (fM z a b)
    refine henv _ _ _ _ _ (fun hE8 _ => ?_)
    have b32 := sw_32Z hE8
    by_cases w : A (u + 1) = -1
    · refine hseg _ _ _ _ _ r8 M7 _ _ _ _ _ c4 ⟨pt_m0, pt_m2 ⟨by show (-1 : Int) ≤ r8 807; omega, by show r8 807 ≤ -1; omega⟩ (b1 r8 l8), pt_m0⟩ ⟨fun _ => ?_, trivial⟩
      have en : am_nZ A mo = u := by
        have := am_n_stZ hn' w d
        rw [show u + 1 + d = mo by omega] at this
        exact this
      refine hvret (64, 0, 0) _ r8 M7 rfl am_kZ.2.1.1.1 (by decide +kernel) (by decide +kernel) (hz r8 M7 ?_ g8 fM8)
      rw [en]
      exact ⟨o8, fun j hj => by rw [M8]; exact e2.2 j hj⟩
    · have next : P (81, 0, 0) (am_bZ v) (.inl (728, -1) :: .inr (.inr (some (some (91 + v)))) :: [wa_i 728, wa_r (91 + v)]) (pt_up r8 [(729, gz_p 807)]) M7 := by
        obtain ⟨r9, hr9⟩ : ∃ r9, r9 = pt_up r8 [(729, gz_p 807)] := ⟨_, rfl⟩
        rw [← hr9]
        have v9 : ∀ t, r9 t = if t = 729 then r8 807 else r8 t := fun t => by
          rw [hr9]
          rfl
        refine hld (81, 0, 0) _ [wa_i 728, wa_r (91 + v)] r9 M7 (91 + v) 8 809 u (728, -1) k3 (by omega) (by show r9 728 + -1 = _; rw [v9, if_neg (by omega), l8]; omega) ?_
        rw [M8, e2.2 u (Nat.le_refl u)]
        obtain ⟨ra, hra⟩ : ∃ ra, ra = pt_set r9 809 (am_SZ A u) := ⟨_, rfl⟩
        rw [← hra]
        have na : ∀ t, t ≠ 809 → ra t = r9 t := fun t x => by
          rw [hra]
          exact if_neg x
        have sa : ra 809 = am_SZ A u := by
          rw [hra]
          exact gz_sset
        have la : ra 728 = ((u + 1 : Nat) : Int) := by rw [na _ (by omega), v9, if_neg (by omega), l8]
        refine hseg _ _ _ _ _ ra M7 _ _ _ _ _ d1 ⟨pt_m0, pt_m1 (b1 ra la), pt_m0⟩ ⟨fun _ => ?_, trivial⟩
        obtain ⟨rb, hrb⟩ : ∃ rb, rb = pt_up ra [(807, [(0, 809, 0), (0, 729, 0), (2, 0, 0)])] := ⟨_, rfl⟩
        show P (85, 0, 0) (am_bZ v) (.inl (807, 0) :: .inl (728, 0) :: .inr (.inr (some (some (91 + v)))) :: []) (pt_up ra [(807, [(0, 809, 0), (0, 729, 0), (2, 0, 0)])]) M7
        rw [← hrb]
        have vb : ∀ t, rb t = if t = 807 then ai_op 0 (ra 809) (ra 729) else ra t := fun t => by
          rw [hrb]
          rfl
        have lb : rb 728 = ((u + 1 : Nat) : Int) := by rw [vb, if_neg (by omega), la]
        refine hst (85, 0, 0) _ [] rb M7 (91 + v) 8 (u + 1) (728, 0) (807, 0) k4 (by omega) (by show rb 728 + 0 = _; omega) ?_
        have ev : ai_vx rb (807, 0) = am_SZ A (u + 1) := by
          show rb 807 + 0 = _
          rw [Int.add_zero, vb, if_pos rfl, sa, na _ (by omega), v9, if_pos rfl, s8]
          rfl
        rw [ev]
        refine hseg _ _ _ _ _ rb _ _ _ _ _ _ d2 ⟨pt_m0, pt_m1 (b1 rb lb), pt_m0⟩ ⟨fun _ => ?_, trivial⟩
        obtain ⟨rd, hrd⟩ : ∃ rd, rd = pt_up rb [(415 + v, gz_p 728), (728, gz_d 728 1)] := ⟨_, rfl⟩
        show P (34, 0, 0) (am_hZ v) [] (pt_up rb [(415 + v, gz_p 728), (728, gz_d 728 1)]) _
        rw [← hrd]
        have vd : ∀ t, rd t = if t = 415 + v then rb 728 else if t = 728 then rb 728 + 1 else rb t := fun t => by
          rw [hrd]
          rfl
        have fd : ∀ t, t < 727 → t ≠ 415 + v → rd t = r8 t := fun t a b => by rw [vd, if_neg b, if_neg (by omega), vb, if_neg (by omega), na t (by omega), v9, if_neg (by omega)]
        refine ih (u + 1) rd _ (by omega) (by rw [am_n_sZ, if_pos ⟨hn', w⟩]) (by rw [vd, if_neg (by omega), if_pos rfl, lb]; omega) ⟨by rw [vd, if_pos rfl, lb], fun j hj => ?_⟩ ⟨fun k ka kb => ?_, fun t a b => ?_⟩ (fun z a b => ?_)
        · show (if 91 + v = 91 + v ∧ j = u + 1 then am_SZ A (u + 1) else M7 (91 + v) j) = am_SZ A j
          by_cases e : j = u + 1
          · rw [if_pos ⟨rfl, e⟩, e]
          · rw [if_neg (fun q => e q.2), M8]
            exact e2.2 j (by omega)
        · obtain ⟨a1, a2, a3, a4⟩ := nv k kb
          rw [fd _ a2 a4]
          exact k8 k ka kb
        · rw [fd t a (fun e => b (Or.inr (Or.inl e)))]
          exact g8 t a b
        · rw [← fM8 z a b]
          funext x
          exact if_neg (fun q => b q.1)
      rcases (by omega : 0 ≤ A (u + 1) ∨ A (u + 1) ≤ -2) with z | z
      · refine hseg _ _ _ _ _ r8 M7 _ _ _ _ _ c5 ⟨pt_m0, pt_m2 ⟨by show (0 : Int) ≤ r8 807; omega, by show r8 807 ≤ 2147483647; omega⟩ (b1 r8 l8), pt_m0⟩ ⟨fun _ => ?_, trivial⟩
        exact next
      · refine hseg _ _ _ _ _ r8 M7 _ _ _ _ _ c6 ⟨pt_m0, pt_m2 ⟨by show (-2147483648 : Int) ≤ r8 807; omega, by show r8 807 ≤ -2; omega⟩ (b1 r8 l8), pt_m0⟩ ⟨fun _ => ?_, trivial⟩
        exact next
end AMS
noncomputable def am_aZ : List ai_V := [wa_r 87, wa_i 727]
theorem am_MZ {n v : Nat} {l : List Int} (hn : 4 ≤ n) (hv : v < 4) (hl : l.length ≤ 200) (ok : av_okZ l 0) : pt_Met (n + 1 + 1 + 1 + 1) 5 zxY am_aZ (am_PZ v l) (am_QZ v l) 0 := by
  refine pt_intro (L0 := [wa_r 87, wa_i 727, wa_u, wa_u, wa_u]) am_kZ.2.2.1 (by omega) zxsys (by
    rw [am_kZ.2.1.2]
    rfl) (fun P r M h hp => ?_)
  have h' := h
  obtain ⟨hseg, henv, hrel, -⟩ := h'
  obtain ⟨⟨p1, p2, p3⟩, p4, p5⟩ := hp
  refine henv _ _ _ _ _ (fun hE _ => ?_)
  have h0 : r 0 = 0 := hE.1
  obtain ⟨y, hy, ey⟩ := List.any_eq_true.mp (List.all_eq_true.mp am_bdZ v (List.mem_range.mpr hv))
  have ey := of_decide_eq_true ey
  subst ey
  have bm : (0 : Int) ≤ r (145 + v) ∧ r (145 + v) ≤ 7 := (hE.2.2.2.1 _ hy).2
  obtain ⟨mo, hmo⟩ : ∃ mo : Nat, r (145 + v) = (mo : Int) := ⟨(r (145 + v)).toNat, by omega⟩
  refine hrel (0, 0, 0) _ (am_0Z v) [] [] r M ⟨rfl, ⟨by show 0 < 827; omega, by show r 727 + 0 = r 0 + (v : Int); omega⟩, trivial, trivial, trivial, trivial⟩ trivial ?_
  have q1 := List.all_eq_true.mp am_c1Z v (List.mem_range.mpr hv)
  simp only [Bool.and_eq_true] at q1
  refine hseg _ _ _ _ _ r M _ _ _ _ _ q1.1.1 ⟨pt_m0, pt_m0, pt_m0⟩ ⟨fun _ => ?_, trivial⟩
  obtain ⟨r2, hr2⟩ : ∃ r2, r2 = pt_up r [(sw_vZ v 1, gz_p 44), (sw_vZ v 2, gz_p 45), (sw_vZ v 3, gz_p (149 + v)), (sw_vZ v 4, gz_p (145 + v)), (728, gz_k 1)] := ⟨_, rfl⟩
  show P (34, 0, 0) (am_hZ v) [] (pt_up r [(sw_vZ v 1, gz_p 44), (sw_vZ v 2, gz_p 45), (sw_vZ v 3, gz_p (149 + v)), (sw_vZ v 4, gz_p (145 + v)), (728, gz_k 1)]) M
  rw [← hr2]
  have v2 : ∀ t, r2 t = if t = sw_vZ v 1 then r 44 else if t = sw_vZ v 2 then r 45 else if t = sw_vZ v 3 then r (149 + v) else if t = sw_vZ v 4 then r (145 + v) else if t = 728 then 1 else r t := fun t => by
    rw [hr2]
    rfl
  have f2 : ∀ t, t < 727 → ¬ (391 + 5 * v ≤ t ∧ t < 391 + 5 * v + 5) → r2 t = r t := fun t a b => by
    rw [v2, if_neg (by unfold sw_vZ; omega), if_neg (by unfold sw_vZ; omega), if_neg (by unfold sw_vZ; omega), if_neg (by unfold sw_vZ; omega), if_neg (by omega)]
  have g2 : ∀ t, t < 727 → ¬ am_chZ v t → r2 t = r t := fun t a b => f2 t a (fun e => b (Or.inr (Or.inr e)))
  have nq : (¬ (391 + 5 * v ≤ 44 ∧ 44 < 391 + 5 * v + 5) ∧ ¬ (391 + 5 * v ≤ 45 ∧ 45 < 391 + 5 * v + 5)) ∧ ¬ (391 + 5 * v ≤ 415 + v ∧ 415 + v < 391 + 5 * v + 5) := ⟨⟨by omega, by omega⟩, by omega⟩
  have eQ : r2 44 = r 44 := f2 _ (by omega) nq.1.1
  have eT : r2 45 = r 45 := f2 _ (by omega) nq.1.2
  have eK : r2 (149 + v) = r (149 + v) := f2 _ (by omega) (by omega)
  have eM : r2 (145 + v) = r (145 + v) := f2 _ (by omega) (by omega)
  have eaV : aVZ r2 (r2 44) (r2 45) v = aVZ r (r 44) (r 45) v := by
    funext u k
    unfold aVZ
    rw [eQ, eT, eK, eM]
  have eA : am_AZ r2 (r2 44) (r2 45) v l = am_AZ r (r 44) (r 45) v l := by
    unfold am_AZ
    rw [eaV]
  refine am_loopZ (r0 := r2) (M0 := M) (mo := mo) (A := am_AZ r (r 44) (r 45) v l) h hn hv hl ok ((f2 _ (by unfold aw_oZ; omega) (by unfold aw_oZ; omega)).trans p4) p5 (eM.trans hmo) (by omega) eA.symm (fun r3 M3 z1 z2 z3 => ⟨rfl, ?_, fun t a b => (z2 t a b).trans (g2 t a b), z3⟩) mo 0 r2 M (by omega) rfl ?_ ⟨?_, fun j hj => ?_⟩ ⟨fun k ka kb => ?_, fun _ _ _ => rfl⟩ (fun _ _ _ => rfl)
  · rw [show (r (145 + v)).toNat = mo by omega]
    exact z1
  · rw [v2, if_neg (by unfold sw_vZ; omega), if_neg (by unfold sw_vZ; omega), if_neg (by unfold sw_vZ; omega), if_neg (by unfold sw_vZ; omega), if_pos rfl]
    rfl
  · exact (f2 _ (by omega) nq.2).trans p2
  · rw [show j = 0 by omega]
    exact p3
  · rw [eaV]
    rcases (by omega : k = 1 ∨ k = 2 ∨ k = 3 ∨ k = 4) with rfl | rfl | rfl | rfl
    · rw [v2, if_pos rfl]
      rfl
    · rw [v2, if_neg (by unfold sw_vZ; omega), if_pos rfl]
      rfl
    · rw [v2, if_neg (by unfold sw_vZ; omega), if_neg (by unfold sw_vZ; omega), if_pos rfl]
      rfl
    · rw [v2, if_neg (by unfold sw_vZ; omega), if_neg (by unfold sw_vZ; omega), if_neg (by unfold sw_vZ; omega), if_pos rfl]
      rfl
