/-! ASKED (the class): all units of a mill -/
noncomputable def am_n (A : Nat → Int) : Nat → Nat
  | 0 => 0
  | k + 1 => if am_n A k = k ∧ A (k + 1) ≠ -1 then k + 1 else am_n A k
noncomputable def am_S (A : Nat → Int) : Nat → Int
  | 0 => 0
  | k + 1 => ai_op 0 (am_S A k) (A (k + 1))
theorem am_n_s {A : Nat → Int} {k : Nat} : am_n A (k + 1) = if am_n A k = k ∧ A (k + 1) ≠ -1 then k + 1 else am_n A k := rfl
theorem am_n_le {A : Nat → Int} : ∀ k, am_n A k ≤ k
  | 0 => Nat.le_refl 0
  | k + 1 => by
    rw [am_n_s]
    split
    · exact Nat.le_refl _
    · exact Nat.le_succ_of_le (am_n_le k)
/-- behind the first unit that isn't asked for nothing more is told -/
theorem am_n_st {A : Nat → Int} {k : Nat} (h : am_n A k = k) (h2 : A (k + 1) = -1) : ∀ d, am_n A (k + 1 + d) = k
  | 0 => by
    show am_n A (k + 1) = k
    rw [am_n_s, if_neg (fun w => w.2 h2)]
    exact h
  | d + 1 => by
    have ih := am_n_st h h2 d
    show am_n A (k + 1 + d + 1) = k
    rw [am_n_s, if_neg (fun w => by have := w.1; omega)]
    exact ih
noncomputable def aV (r : Nat → Int) (q T : Int) (v : Nat) (u : Int) : Nat → Int := fun k => if k = 0 then u else if k = 1 then q else if k = 2 then T else if k = 3 then r (149 + v) else r (145 + v)
noncomputable def am_A (r : Nat → Int) (q T : Int) (v : Nat) (l : List Int) : Nat → Int := fun u => av_ask (aV r q T v (u : Int)) l
noncomputable def am_L (v : Nat) (a b : ai_V) : List ai_V := [wa_r 87, wa_k v, wa_r (44 + 6 * v), a, b]
noncomputable def am_h (v : Nat) : List ai_V := am_L v (wa_i 425) wa_u
noncomputable def am_b (v : Nat) : List ai_V := am_L v (wa_i 425) (wa_i 426)
noncomputable def am_0 (v : Nat) : List ai_V := [wa_r 87, wa_k v, wa_u, wa_u, wa_u]
noncomputable abbrev am_r (st : List Nat) (sk : Bool) (pc : Nat) (L S : List ai_V) (cp : List (Nat × Int × Int)) (le : List (ai_X × ai_X)) (pc2 : Nat) (L2 S2 : List ai_V) (W : List (Nat × pt_X)) : Bool := pt_row gdY 5 st sk (pc, 0, 0) L S [] cp le [48, 54, 60, 66, 95] [((pc2, 0, 0), (L2, S2), W, [])]
noncomputable def am_x : pt_X := [(0, 425, 0), (3, 0, -1)]
theorem am_c1 : (List.range 4).all (fun v => (am_r [34] true 0 (am_0 v) [] [] [] 34 (am_h v) [] [(sw_v v 1, gz_p 44), (sw_v v 2, gz_p 45), (sw_v v 3, gz_p (149 + v)), (sw_v v 4, gz_p (145 + v)), (425, gz_k 1)] && am_r [53, 99] true 34 (am_h v) [] [(425, (1, 7))] [((425, 0), (145 + v, 0))] 53 (am_h v) [wa_i 425, wa_r (46 + 6 * v)] []) &&
    ((am_r [53, 99] true 34 (am_h v) [] [(425, (1, 8))] [((145 + v, 1), (425, 0))] 99 (am_h v) [] [] && am_r [64, 81] false 56 (am_h v) [wa_i 504] [(504, (-1, -1)), (425, (1, 7))] [] 64 (am_h v) [] []) && (am_r [64, 81] false 56 (am_h v) [wa_i 504] [(504, (0, 2147483647)), (425, (1, 7))] [] 81 (am_b v) [.inl (425, -1), wa_r (91 + v), wa_i 425, wa_r (91 + v)] [(426, gz_p 504)] && am_r [64, 81] false 56 (am_h v) [wa_i 504] [(504, (-2147483648, -2)), (425, (1, 7))] [] 81 (am_b v) [.inl (425, -1), wa_r (91 + v), wa_i 425, wa_r (91 + v)] [(426, gz_p 504)]))) = true := by decide +kernel
theorem am_c2 : (List.range 4).all (fun v => am_r [85] false 82 (am_b v) [wa_i 506, wa_i 425, wa_r (91 + v)] [(425, (1, 7))] [] 85 (am_b v) [wa_i 504, wa_i 425, wa_r (91 + v)] [(504, [(0, 506, 0), (0, 426, 0), (2, 0, 0)])] && am_r [34] false 86 (am_b v) [] [(425, (1, 7))] [] 34 (am_h v) [] [(415 + v, gz_p 425), (425, gz_d 425 1)]) = true := by decide +kernel
theorem am_k : (List.range 4).all (fun v => (cy_vk 5 53 65 gdY.2.1 [wa_i 425, wa_r (46 + 6 * v)] [wa_r (46 + 6 * v), wa_i 425] [] && pt_cck gdY 5 65 (53, 0, 0) 1 504 (am_h v) [] [wa_r (46 + 6 * v), wa_i 425] (pu_L v)) && (pt_lck gdY 5 81 1 (91 + v) 8 0 506 (am_b v) [wa_i 425, wa_r (91 + v)] && pt_sck gdY 5 85 2 (91 + v) 8 0)) = true ∧ ((pt_is 7 5 64 = true ∧ pt_is 7 5 99 = true) ∧ (ct_mt 5).2.2.1 = 5) ∧ lh_plain 5 = true ∧ ct_bud 5 = (0, 0) := by decide +kernel
theorem am_bd : (List.range 4).all (fun v => gdE.2.1.any (fun q => decide (q = (145 + v, ((0 : Int), (7 : Int)))))) = true := by decide +kernel
noncomputable def am_P (v : Nat) (l : List Int) (r : Nat → Int) (M : Nat → Nat → Int) : Prop := (r 424 = (v : Int) ∧ r (415 + v) = 0 ∧ M (91 + v) 0 = 0) ∧ r (aw_o v) = (l.length : Int) ∧ ∀ j, j < l.length → M (47 + 6 * v) j = l.getD j 0
/-- what asking changes -/
noncomputable def am_ch (v t : Nat) : Prop := t = pu_d v ∨ t = 415 + v ∨ (391 + 5 * v ≤ t ∧ t < 391 + 5 * v + 5)
noncomputable def am_Q (v : Nat) (l : List Int) (r : Nat → Int) (M : Nat → Nat → Int) (r2 : Nat → Int) (M2 : Nat → Nat → Int) (o : Option Int) : Prop := o = none ∧ (r2 (415 + v) = (am_n (am_A r (r 44) (r 45) v l) (r (145 + v)).toNat : Int) ∧ ∀ j, j ≤ am_n (am_A r (r 44) (r 45) v l) (r (145 + v)).toNat → M2 (91 + v) j = am_S (am_A r (r 44) (r 45) v l) j) ∧ (∀ t, t < 424 → ¬ am_ch v t → r2 t = r t) ∧ ∀ z, z ≠ 49 + 6 * v → z ≠ 91 + v → M2 z = M z
section AMS
variable {n v : Nat} {Z : (Nat → Int) → (Nat → Nat → Int) → Option Int → Prop} {P : pt_P} {l : List Int} {r0 : Nat → Int} {M0 : Nat → Nat → Int} {A : Nat → Int} {mo : Nat}
theorem am_loop (h : pt_Cl (n + 1 + 1 + 1) 5 gdY 0 Z P) (hn : 4 ≤ n) (hv : v < 4) (hl : l.length ≤ 200) (ok : av_ok l 0) (ho : r0 (aw_o v) = (l.length : Int)) (hM : ∀ j, j < l.length → M0 (47 + 6 * v) j = l.getD j 0) (hm : r0 (145 + v) = (mo : Int)) (hm7 : mo ≤ 7) (hA : A = am_A r0 (r0 44) (r0 45) v l)
    (hz : ∀ r2 M2, (r2 (415 + v) = (am_n A mo : Int) ∧ ∀ j, j ≤ am_n A mo → M2 (91 + v) j = am_S A j) → (∀ t, t < 424 → ¬ am_ch v t → r2 t = r0 t) → (∀ z, z ≠ 49 + 6 * v → z ≠ 91 + v → M2 z = M0 z) → Z r2 M2 none) :
    ∀ (d u : Nat) (r : Nat → Int) (M : Nat → Nat → Int), u + d = mo → am_n A u = u → r 425 = ((u + 1 : Nat) : Int) → (r (415 + v) = (u : Int) ∧ ∀ j, j ≤ u → M (91 + v) j = am_S A j) → ((∀ k, 1 ≤ k → k < 5 → r (sw_v v k) = aV r0 (r0 44) (r0 45) v 0 k) ∧ ∀ t, t < 424 → ¬ am_ch v t → r t = r0 t) → (∀ z, z ≠ 49 + 6 * v → z ≠ 91 + v → M z = M0 z) → P (34, 0, 0) (am_h v) [] r M := by
  have h' := h
  obtain ⟨hseg, henv, -, -, hld, -, hst, -, hcall, -, -, -, -, hvret⟩ := h'
  have q1 := List.all_eq_true.mp am_c1 v (List.mem_range.mpr hv)
  simp only [Bool.and_eq_true] at q1
  obtain ⟨⟨-, c2⟩, ⟨c3, c4⟩, c5, c6⟩ := q1
  have q2 := List.all_eq_true.mp am_c2 v (List.mem_range.mpr hv)
  rw [Bool.and_eq_true] at q2
  obtain ⟨d1, d2⟩ := q2
  have qk := List.all_eq_true.mp am_k.1 v (List.mem_range.mpr hv)
  simp only [Bool.and_eq_true] at qk
  obtain ⟨⟨k1, k2⟩, k3, k4⟩ := qk
  have nn : (pu_d v < 424 ∧ aw_o v < 424) ∧ ((¬ am_ch v (aw_o v) ∧ ¬ am_ch v (145 + v) ∧ ¬ am_ch v (149 + v)) ∧ (¬ am_ch v 44 ∧ ¬ am_ch v 45)) ∧ ∀ k, k < 5 → am_ch v (sw_v v k) ∧ sw_v v k < 424 ∧ sw_v v k ≠ pu_d v ∧ sw_v v k ≠ 415 + v := by
    unfold am_ch pu_d aw_o
    refine ⟨⟨by omega, by omega⟩, ⟨⟨by omega, by omega, by omega⟩, by omega, by omega⟩, fun k hk => ?_⟩
    unfold sw_v
    omega
  obtain ⟨⟨np, no⟩, ⟨⟨n1, n2, n3⟩, n4, n5⟩, nv⟩ := nn
  have npd : pu_d v ≠ 415 + v := by
    unfold pu_d
    omega
  intro d
  induction d with
  | zero =>
    intro u r M hu hn' e1 e2 e3 fM
    have eu : u = mo := by omega
    subst eu
    have em : r (145 + v) = (u : Int) := (e3.2 _ (by omega) n2).trans hm
    refine hseg _ _ _ _ _ r M _ _ _ _ _ c3 ⟨pt_m0, pt_m1 ⟨by show (1 : Int) ≤ r 425; omega, by show r 425 ≤ 8; omega⟩, pt_m1 (by show r (145 + v) + 1 ≤ r 425 + 0; omega)⟩ ⟨fun _ => ?_, trivial⟩
    refine hvret (99, 0, 0) _ r M rfl am_k.2.1.1.2 (by decide +kernel) (by decide +kernel) (hz r M ?_ e3.2 fM)
    rw [hn']
    exact e2
  | succ d ih =>
    intro u r M hu hn' e1 e2 e3 fM
    have em : r (145 + v) = (mo : Int) := (e3.2 _ (by omega) n2).trans hm
    have b1 : ∀ r2 : Nat → Int, r2 425 = ((u + 1 : Nat) : Int) → (1 : Int) ≤ r2 425 ∧ r2 425 ≤ 7 := fun r2 e => by omega
    refine hseg _ _ _ _ _ r M _ _ _ _ _ c2 ⟨pt_m0, pt_m1 (b1 r e1), pt_m1 (by show r 425 + 0 ≤ r (145 + v) + 0; omega)⟩ ⟨fun _ => ?_, trivial⟩
    obtain ⟨r6, hr6⟩ : ∃ r6, r6 = pt_up r (pt_wc [wa_r (46 + 6 * v), wa_i 425] (pu_L v)) := ⟨_, rfl⟩
    have v6 : ∀ t, r6 t = if t = 424 then r 425 else r t := fun t => by
      rw [hr6]
      rfl
    refine hcall (53, 0, 0) _ _ _ _ _ r M 65 1 504 _ _ aw_k.2.2.1 k1 k2 (aw_M (n := n) (v := v) (V := aV r0 (r0 44) (r0 45) v ((u + 1 : Nat) : Int)) (l := l) hn hv hl ok) (by
      rw [← hr6]
      refine ⟨⟨?_, fun k ka kb => ?_⟩, ?_, fun j hj => ?_⟩
      · rw [v6, if_pos rfl]
        exact e1
      · obtain ⟨a1, a2, a3, a4⟩ := nv k kb
        rw [v6, if_neg (by omega), e3.1 k ka kb]
        have k0 : ¬ (k = 0) := by omega
        show (if k = 0 then _ else _) = if k = 0 then _ else _
        rw [if_neg k0, if_neg k0]
      · rw [v6, if_neg (by omega), e3.2 _ no n1]
        exact ho
      · rw [fM _ (by omega) (by omega)]
        exact hM j hj) (fun r7 M7 o hq => ?_)
    rw [← hr6] at hq
    obtain ⟨rc, rs⟩ := wa_rm (n := n + 1 + 1 + 1) aw_k.2.2.2
    rw [rc, rs]
    obtain ⟨rfl, y2, y3⟩ := hq
    have eA : av_ask (aV r0 (r0 44) (r0 45) v ((u + 1 : Nat) : Int)) l = A (u + 1) := by
      rw [hA]
      rfl
    rw [eA]
    obtain ⟨r8, hr8⟩ : ∃ r8, r8 = pt_mrg 424 r r7 504 (some (A (u + 1))) := ⟨_, rfl⟩
    show P (56, 0, 0) (am_h v) [wa_i 504] (pt_mrg 424 r r7 504 (some (A (u + 1)))) _
    rw [← hr8]
    have lo8 : ∀ t, t < 424 → r8 t = r7 t := fun t ht => by
      rw [hr8]
      exact wa_mlt ht
    have s8 : r8 504 = A (u + 1) := by
      rw [hr8]
      exact wa_mz (by omega)
    have l8 : r8 425 = ((u + 1 : Nat) : Int) := by
      rw [hr8]
      show (if 425 < 424 then _ else if 425 = 504 then _ else r 425) = _
      rw [if_neg (by omega), if_neg (by omega)]
      exact e1
    have f8 : ∀ t, t < 424 → t ≠ pu_d v → t ≠ sw_v v 0 → r8 t = r t := fun t a b c => by rw [lo8 t a, y2 t a b c, v6, if_neg (by omega)]
    have g8 : ∀ t, t < 424 → ¬ am_ch v t → r8 t = r0 t := fun t a b => by
      rw [f8 t a (fun e => b (Or.inl e)) (fun e => b (by rw [e]; exact (nv 0 (by omega)).1))]
      exact e3.2 t a b
    have k8 : ∀ k, 1 ≤ k → k < 5 → r8 (sw_v v k) = aV r0 (r0 44) (r0 45) v 0 k := fun k ka kb => by
      obtain ⟨a1, a2, a3, a4⟩ := nv k kb
      rw [f8 _ a2 a3 (by unfold sw_v; omega)]
      exact e3.1 k ka kb
    have o8 : r8 (415 + v) = (u : Int) := (f8 _ (by omega) (fun e => npd e.symm) (by unfold sw_v; omega)).trans e2.1
    have M8 : M7 (91 + v) = M (91 + v) := y3 _ (by omega)
    have fM8 : ∀ z, z ≠ 49 + 6 * v → z ≠ 91 + v → M7 z = M0 z := fun z a b => (y3 z a).trans (fM z a b)
    refine henv _ _ _ _ _ (fun hE8 _ => ?_)
    have b32 := sw_32 hE8
    by_cases w : A (u + 1) = -1
    · refine hseg _ _ _ _ _ r8 M7 _ _ _ _ _ c4 ⟨pt_m0, pt_m2 ⟨by show (-1 : Int) ≤ r8 504; omega, by show r8 504 ≤ -1; omega⟩ (b1 r8 l8), pt_m0⟩ ⟨fun _ => ?_, trivial⟩
      have en : am_n A mo = u := by
        have := am_n_st hn' w d
        rw [show u + 1 + d = mo by omega] at this
        exact this
      refine hvret (64, 0, 0) _ r8 M7 rfl am_k.2.1.1.1 (by decide +kernel) (by decide +kernel) (hz r8 M7 ?_ g8 fM8)
      rw [en]
      exact ⟨o8, fun j hj => by rw [M8]; exact e2.2 j hj⟩
    · have next : P (81, 0, 0) (am_b v) (.inl (425, -1) :: .inr (.inr (some (some (91 + v)))) :: [wa_i 425, wa_r (91 + v)]) (pt_up r8 [(426, gz_p 504)]) M7 := by
        obtain ⟨r9, hr9⟩ : ∃ r9, r9 = pt_up r8 [(426, gz_p 504)] := ⟨_, rfl⟩
        rw [← hr9]
        have v9 : ∀ t, r9 t = if t = 426 then r8 504 else r8 t := fun t => by
          rw [hr9]
          rfl
        refine hld (81, 0, 0) _ [wa_i 425, wa_r (91 + v)] r9 M7 (91 + v) 8 506 u (425, -1) k3 (by omega) (by show r9 425 + -1 = _; rw [v9, if_neg (by omega), l8]; omega) ?_
        rw [M8, e2.2 u (Nat.le_refl u)]
        obtain ⟨ra, hra⟩ : ∃ ra, ra = pt_set r9 506 (am_S A u) := ⟨_, rfl⟩
        rw [← hra]
        have na : ∀ t, t ≠ 506 → ra t = r9 t := fun t x => by
          rw [hra]
          exact if_neg x
        have sa : ra 506 = am_S A u := by
          rw [hra]
          exact gz_sset
        have la : ra 425 = ((u + 1 : Nat) : Int) := by rw [na _ (by omega), v9, if_neg (by omega), l8]
        refine hseg _ _ _ _ _ ra M7 _ _ _ _ _ d1 ⟨pt_m0, pt_m1 (b1 ra la), pt_m0⟩ ⟨fun _ => ?_, trivial⟩
        obtain ⟨rb, hrb⟩ : ∃ rb, rb = pt_up ra [(504, [(0, 506, 0), (0, 426, 0), (2, 0, 0)])] := ⟨_, rfl⟩
        show P (85, 0, 0) (am_b v) (.inl (504, 0) :: .inl (425, 0) :: .inr (.inr (some (some (91 + v)))) :: []) (pt_up ra [(504, [(0, 506, 0), (0, 426, 0), (2, 0, 0)])]) M7
        rw [← hrb]
        have vb : ∀ t, rb t = if t = 504 then ai_op 0 (ra 506) (ra 426) else ra t := fun t => by
          rw [hrb]
          rfl
        have lb : rb 425 = ((u + 1 : Nat) : Int) := by rw [vb, if_neg (by omega), la]
        refine hst (85, 0, 0) _ [] rb M7 (91 + v) 8 (u + 1) (425, 0) (504, 0) k4 (by omega) (by show rb 425 + 0 = _; omega) ?_
        have ev : ai_vx rb (504, 0) = am_S A (u + 1) := by
          show rb 504 + 0 = _
          rw [Int.add_zero, vb, if_pos rfl, sa, na _ (by omega), v9, if_pos rfl, s8]
          rfl
        rw [ev]
        refine hseg _ _ _ _ _ rb _ _ _ _ _ _ d2 ⟨pt_m0, pt_m1 (b1 rb lb), pt_m0⟩ ⟨fun _ => ?_, trivial⟩
        obtain ⟨rd, hrd⟩ : ∃ rd, rd = pt_up rb [(415 + v, gz_p 425), (425, gz_d 425 1)] := ⟨_, rfl⟩
        show P (34, 0, 0) (am_h v) [] (pt_up rb [(415 + v, gz_p 425), (425, gz_d 425 1)]) _
        rw [← hrd]
        have vd : ∀ t, rd t = if t = 415 + v then rb 425 else if t = 425 then rb 425 + 1 else rb t := fun t => by
          rw [hrd]
          rfl
        have fd : ∀ t, t < 424 → t ≠ 415 + v → rd t = r8 t := fun t a b => by rw [vd, if_neg b, if_neg (by omega), vb, if_neg (by omega), na t (by omega), v9, if_neg (by omega)]
        refine ih (u + 1) rd _ (by omega) (by rw [am_n_s, if_pos ⟨hn', w⟩]) (by rw [vd, if_neg (by omega), if_pos rfl, lb]; omega) ⟨by rw [vd, if_pos rfl, lb], fun j hj => ?_⟩ ⟨fun k ka kb => ?_, fun t a b => ?_⟩ (fun z a b => ?_)
        · show (if 91 + v = 91 + v ∧ j = u + 1 then am_S A (u + 1) else M7 (91 + v) j) = am_S A j
          by_cases e : j = u + 1
          · rw [if_pos ⟨rfl, e⟩, e]
          · rw [if_neg (fun q => e q.2), M8]
            exact e2.2 j (by omega)
        · obtain ⟨a1, a2, a3, a4⟩ := nv k kb
          rw [fd _ a2 a4]
          exact k8 k ka kb
        · rw [fd t a (fun e => b (Or.inr (Or.inl e)))]
          exact g8 t a b
        · rw [← fM8 z a b]
          funext x
          exact if_neg (fun q => b q.1)
      rcases (by omega : 0 ≤ A (u + 1) ∨ A (u + 1) ≤ -2) with z | z
      · refine hseg _ _ _ _ _ r8 M7 _ _ _ _ _ c5 ⟨pt_m0, pt_m2 ⟨by show (0 : Int) ≤ r8 504; omega, by show r8 504 ≤ 2147483647; omega⟩ (b1 r8 l8), pt_m0⟩ ⟨fun _ => ?_, trivial⟩
        exact next
      · refine hseg _ _ _ _ _ r8 M7 _ _ _ _ _ c6 ⟨pt_m0, pt_m2 ⟨by show (-2147483648 : Int) ≤ r8 504; omega, by show r8 504 ≤ -2; omega⟩ (b1 r8 l8), pt_m0⟩ ⟨fun _ => ?_, trivial⟩
        exact next
end AMS
noncomputable def am_a : List ai_V := [wa_r 87, wa_i 424]
theorem am_M {n v : Nat} {l : List Int} (hn : 4 ≤ n) (hv : v < 4) (hl : l.length ≤ 200) (ok : av_ok l 0) : pt_Met (n + 1 + 1 + 1 + 1) 5 gdY am_a (am_P v l) (am_Q v l) 0 := by
  refine pt_intro (L0 := [wa_r 87, wa_i 424, wa_u, wa_u, wa_u]) am_k.2.2.1 (by omega) gdsys (by
    rw [am_k.2.1.2]
    rfl) (fun P r M h hp => ?_)
  have h' := h
  obtain ⟨hseg, henv, hrel, -⟩ := h'
  obtain ⟨⟨p1, p2, p3⟩, p4, p5⟩ := hp
  refine henv _ _ _ _ _ (fun hE _ => ?_)
  have h0 : r 0 = 0 := hE.1
  obtain ⟨y, hy, ey⟩ := List.any_eq_true.mp (List.all_eq_true.mp am_bd v (List.mem_range.mpr hv))
  have ey := of_decide_eq_true ey
  subst ey
  have bm : (0 : Int) ≤ r (145 + v) ∧ r (145 + v) ≤ 7 := (hE.2.2.2.1 _ hy).2
  obtain ⟨mo, hmo⟩ : ∃ mo : Nat, r (145 + v) = (mo : Int) := ⟨(r (145 + v)).toNat, by omega⟩
  refine hrel (0, 0, 0) _ (am_0 v) [] [] r M ⟨rfl, ⟨by show 0 < 524; omega, by show r 424 + 0 = r 0 + (v : Int); omega⟩, trivial, trivial, trivial, trivial⟩ trivial ?_
  have q1 := List.all_eq_true.mp am_c1 v (List.mem_range.mpr hv)
  simp only [Bool.and_eq_true] at q1
  refine hseg _ _ _ _ _ r M _ _ _ _ _ q1.1.1 ⟨pt_m0, pt_m0, pt_m0⟩ ⟨fun _ => ?_, trivial⟩
  obtain ⟨r2, hr2⟩ : ∃ r2, r2 = pt_up r [(sw_v v 1, gz_p 44), (sw_v v 2, gz_p 45), (sw_v v 3, gz_p (149 + v)), (sw_v v 4, gz_p (145 + v)), (425, gz_k 1)] := ⟨_, rfl⟩
  show P (34, 0, 0) (am_h v) [] (pt_up r [(sw_v v 1, gz_p 44), (sw_v v 2, gz_p 45), (sw_v v 3, gz_p (149 + v)), (sw_v v 4, gz_p (145 + v)), (425, gz_k 1)]) M
  rw [← hr2]
  have v2 : ∀ t, r2 t = if t = sw_v v 1 then r 44 else if t = sw_v v 2 then r 45 else if t = sw_v v 3 then r (149 + v) else if t = sw_v v 4 then r (145 + v) else if t = 425 then 1 else r t := fun t => by
    rw [hr2]
    rfl
  have f2 : ∀ t, t < 424 → ¬ (391 + 5 * v ≤ t ∧ t < 391 + 5 * v + 5) → r2 t = r t := fun t a b => by
    rw [v2, if_neg (by unfold sw_v; omega), if_neg (by unfold sw_v; omega), if_neg (by unfold sw_v; omega), if_neg (by unfold sw_v; omega), if_neg (by omega)]
  have g2 : ∀ t, t < 424 → ¬ am_ch v t → r2 t = r t := fun t a b => f2 t a (fun e => b (Or.inr (Or.inr e)))
  have nq : (¬ (391 + 5 * v ≤ 44 ∧ 44 < 391 + 5 * v + 5) ∧ ¬ (391 + 5 * v ≤ 45 ∧ 45 < 391 + 5 * v + 5)) ∧ ¬ (391 + 5 * v ≤ 415 + v ∧ 415 + v < 391 + 5 * v + 5) := ⟨⟨by omega, by omega⟩, by omega⟩
  have eQ : r2 44 = r 44 := f2 _ (by omega) nq.1.1
  have eT : r2 45 = r 45 := f2 _ (by omega) nq.1.2
  have eK : r2 (149 + v) = r (149 + v) := f2 _ (by omega) (by omega)
  have eM : r2 (145 + v) = r (145 + v) := f2 _ (by omega) (by omega)
  have eaV : aV r2 (r2 44) (r2 45) v = aV r (r 44) (r 45) v := by
    funext u k
    unfold aV
    rw [eQ, eT, eK, eM]
  have eA : am_A r2 (r2 44) (r2 45) v l = am_A r (r 44) (r 45) v l := by
    unfold am_A
    rw [eaV]
  refine am_loop (r0 := r2) (M0 := M) (mo := mo) (A := am_A r (r 44) (r 45) v l) h hn hv hl ok ((f2 _ (by unfold aw_o; omega) (by unfold aw_o; omega)).trans p4) p5 (eM.trans hmo) (by omega) eA.symm (fun r3 M3 z1 z2 z3 => ⟨rfl, ?_, fun t a b => (z2 t a b).trans (g2 t a b), z3⟩) mo 0 r2 M (by omega) rfl ?_ ⟨?_, fun j hj => ?_⟩ ⟨fun k ka kb => ?_, fun _ _ _ => rfl⟩ (fun _ _ _ => rfl)
  · rw [show (r (145 + v)).toNat = mo by omega]
    exact z1
  · rw [v2, if_neg (by unfold sw_v; omega), if_neg (by unfold sw_v; omega), if_neg (by unfold sw_v; omega), if_neg (by unfold sw_v; omega), if_pos rfl]
    rfl
  · exact (f2 _ (by omega) nq.2).trans p2
  · rw [show j = 0 by omega]
    exact p3
  · rw [eaV]
    rcases (by omega : k = 1 ∨ k = 2 ∨ k = 3 ∨ k = 4) with rfl | rfl | rfl | rfl
    · rw [v2, if_pos rfl]
      rfl
    · rw [v2, if_neg (by unfold sw_v; omega), if_pos rfl]
      rfl
    · rw [v2, if_neg (by unfold sw_v; omega), if_neg (by unfold sw_v; omega), if_pos rfl]
      rfl
    · rw [v2, if_neg (by unfold sw_v; omega), if_neg (by unfold sw_v; omega), if_neg (by unfold sw_v; omega), if_pos rfl]
      rfl
