/-! THE LEAST (the reference): leastOf, its mills -/
theorem zl_h7 {r : Nat → Int} {on w : Int} {q m : Nat} (hX : r (153 + m) ≤ 7) (hM : r (145 + m) ≤ 7) (hw : w ≤ 7) : zt_h0 r on w q m ≤ 7 := by
  unfold zt_h0 zs_h
  dsimp only
  (repeat' split) <;> omega
/-- what the mills' telling leaves -/
noncomputable def zl_m (t : Nat) : Prop := ¬ (700 ≤ t ∧ t < 700 + 4) ∧ ¬ (704 ≤ t ∧ t < 704 + 4) ∧ ¬ (419 ≤ t ∧ t < 419 + 5)
noncomputable def zl_X (on w x : Int) (r : Nat → Int) : Prop := (r 728 = on ∧ r 729 = w) ∧ r 730 = x
noncomputable def zl_D (r : Nat → Int) (on w T : Int) (q K : Nat) (l : Nat → List Int) (r1 : Nat → Int) (M1 : Nat → Nat → Int) (m : Nat) : Prop := (r1 (700 + m) = (zl_lo r on w K m : Int) ∧ r1 (704 + m) = (zl_hi r on w T q l K m : Int)) ∧ ∀ u, u ≤ zl_hi r on w T q l K m → M1 299 (8 * m + u) = zl_C r T q l K m u
section ZLS
variable {n q K : Nat} {on w x T : Int} {l : Nat → List Int} {F : (Nat → Int) → Bool} {Z : (Nat → Int) → (Nat → Nat → Int) → Option Int → Prop} {P : pt_P} {r : Nat → Int} {M : Nat → Nat → Int}
theorem zl_tl (h : pt_Cl (n + 1 + 1 + 1 + 1 + 1 + 1) 220 zyY 1 Z P) (hn : 4 ≤ n) (hq : q < 4) (hK : K ≤ 4) (hw : 0 ≤ w ∧ w ≤ 7) (hg : ∀ m, m < 4 → ps_gc (l m)) (hJ : zl_J q K l r M) (hb : ∀ m, m < 4 → r (141 + m) ≤ 2 ∧ r (145 + m) ≤ 7) {r0 : Nat → Int} (h00 : ∀ t, t < 727 → zl_n t → r0 t = r t) (hT : r0 91 = T)
    (go : ∀ (r1 : Nat → Int) (M1 : Nat → Nat → Int), zl_X on w x r1 → (∀ m, m < K → zl_D r on w T q K l r1 M1 m) → (∀ t, t < 727 → zl_m t → r1 t = r0 t) → (∀ z, z ≠ 292 → z ≠ 299 → M1 z = M z) → P (123, 0, 0) (zl_h q K) zl_gS r1 M1) :
    ∀ (d i : Nat) (r1 : Nat → Int) (M1 : Nat → Nat → Int), i + d = K → zl_X on w x r1 → (∀ m, m < i → zl_D r on w T q K l r1 M1 m) → (∀ t, t < 727 → zl_m t → r1 t = r0 t) → (∀ z, z ≠ 292 → z ≠ 299 → M1 z = M z) → P (92, 0, 0) (zl_h q i) [] r1 M1 := by
  obtain ⟨hseg, henv, -, -, -, -, -, -, hcall, -⟩ := h
  obtain ⟨-, ⟨jI, jm⟩, -⟩ := hJ
  have c6 := List.all_eq_true.mp zl_c6 q (List.mem_range.mpr hq)
  have c5 := List.all_eq_true.mp zl_c5 q (List.mem_range.mpr hq)
  have ck := List.all_eq_true.mp zl_k.1 q (List.mem_range.mpr hq)
  rw [Bool.and_eq_true, Bool.and_eq_true, Bool.and_eq_true] at ck
  have eI : ∀ {r1 : Nat → Int}, (∀ t, t < 727 → zl_m t → r1 t = r0 t) → r1 73 = (K : Int) := fun {r1} f => (f _ (by omega) (by unfold zl_m; omega)).trans ((h00 _ (by omega) (by unfold zl_n; omega)).trans jI)
  intro d
  induction d with
  | zero =>
    intro i r1 M1 hd hX hD fr fM
    have e : i = K := by omega
    subst e
    have row := List.all_eq_true.mp c6 i (List.mem_range.mpr (by omega))
    rw [Bool.and_eq_true] at row
    have g := eI fr
    refine hseg _ _ _ _ _ r1 M1 _ _ _ _ _ row.1 ⟨pt_m0, pt_m1 ⟨by show (0 : Int) ≤ r1 73; omega, by show r1 73 ≤ (i : Int); omega⟩, pt_m0⟩ ⟨fun _ => ?_, trivial⟩
    exact go r1 M1 hX hD fr fM
  | succ d ih =>
    intro i r1 M1 hd hX hD fr fM
    have hi : i < 4 := by omega
    have row := List.all_eq_true.mp c5 i (List.mem_range.mpr hi)
    rw [Bool.and_eq_true] at row
    have cki := List.all_eq_true.mp ck.2.1 i (List.mem_range.mpr hi)
    rw [Bool.and_eq_true] at cki
    have gI := eI fr
    refine hseg _ _ _ _ _ r1 M1 _ _ _ _ _ row.1 ⟨pt_m0, pt_m1 ⟨by show ((i + 1 : Nat) : Int) ≤ r1 73; omega, by show r1 73 ≤ 4; omega⟩, pt_m0⟩ ⟨fun _ => ?_, trivial⟩
    show P (107, 0, 0) (zl_h q i) (zl_tS q i) r1 M1
    refine henv _ _ _ _ _ (fun hE1 _ => ?_)
    have xk : ∀ k : Nat, pt_v r1 (pt_xr (0, .ofNat k)) = (k : Int) := fun k => by
      rw [pt_xr_ok hE1.1]
      show r1 0 + (k : Int) = k
      rw [hE1.1, Int.zero_add]
    obtain ⟨r6, hr6⟩ : ∃ r6, r6 = pt_up r1 (pt_wc (zl_tA q i) zt_a) := ⟨_, rfl⟩
    have v6 : ∀ t, r6 t = if t = 727 then (i : Int) else if t = 728 then (q : Int) else if t = 729 then r1 728 else if t = 730 then r1 729 else r1 t := fun t => by
      rw [hr6, ← xk i, ← xk q]
      rfl
    have l6 : ∀ t, t < 727 → r6 t = r1 t := fun t a => by rw [v6, if_neg (by omega), if_neg (by omega), if_neg (by omega), if_neg (by omega)]
    have n6 : ∀ t, t < 727 → zl_n t → r6 t = r t := fun t a b => (l6 t a).trans ((fr t a (by unfold zl_n at b; unfold zl_m; omega)).trans (h00 t a b))
    obtain ⟨⟨⟨z1, z2⟩, z3, z4, z5⟩, z6, z7, z8⟩ := jm i (by omega)
    have bi := hb i hi
    obtain ⟨⟨cl, ch⟩, cA⟩ := zl_cg (r := r) (r1 := r6) (on := on) (w := w) (T := T) (l := l i) hq hi (fun t a b => n6 t a (by unfold zl_d at b; unfold zl_n; omega)) bi.1
    refine hcall (107, 0, 0) _ _ _ _ _ r1 M1 219 0 807 _ _ zt_k.2.2.1 cki.1 cki.2 (zt_M (n := n + 1 + 1) (q := q) (m := i) (on := on) (w := w) (T := T) (l := l i) (by omega) hi hq (hg i hi) hw) (by
      rw [← hr6]
      refine ⟨⟨⟨?_, ?_⟩, ?_, ?_⟩, ⟨⟨⟨?_, ?_⟩, fun hh h3 => ?_, ?_, ?_⟩, ?_⟩, ?_, ?_⟩
      · rw [v6, if_pos rfl]
      · rw [v6, if_neg (by omega), if_pos rfl]
      · rw [v6, if_neg (by omega), if_neg (by omega), if_pos rfl]
        exact hX.1.1
      · rw [v6, if_neg (by omega), if_neg (by omega), if_neg (by omega), if_pos rfl]
        exact hX.1.2
      · rw [n6 _ (by omega) (by unfold zl_n; omega)]
        exact z1
      · rw [n6 _ (by omega) (by unfold zl_n; omega)]
        exact z2
      · rw [n6 _ (by omega) (by unfold zl_n; omega)]
        exact z3 hh h3
      · rw [n6 _ (by omega) (by unfold zl_n; omega)]
        exact z4
      · rw [n6 _ (by omega) (by unfold zl_n; omega)]
        exact z5
      · rw [l6 _ (by omega), fr _ (by omega) (by unfold zl_m; omega)]
        exact hT
      · rw [n6 _ (by omega) (by unfold zl_n; omega)]
        exact z7
      · exact go_K_c z8 (by rw [fM 286 (by omega) (by omega)]) (fun z hz k _ => by rcases hz with rfl | rfl | rfl <;> rw [fM _ (by omega) (by omega)]) (fun j _ => by rw [fM 290 (by omega) (by omega)]) (gw_lc z8.1)) (fun r7 M7 o hq' => ?_)
    rw [← hr6] at hq'
    obtain ⟨rc, rs⟩ := wa_rm (n := n + 1 + 1 + 1 + 1 + 1 + 1) zt_k.2.2.2
    rw [rc, rs]
    obtain ⟨rfl, ⟨⟨q1, q2⟩, q3⟩, q4, q5, q6⟩ := hq'
    rw [cl] at q1
    rw [cA, ch] at q2 q3
    have eL : zl_lo r on w K i = zt_lo r on w i := if_pos (by omega)
    have eH : zl_hi r on w T q l K i = am_nZ (zt_A r q T i (l i)) (zt_h0 r on w q i) := if_pos (by omega)
    obtain ⟨r8, hr8⟩ : ∃ r8, r8 = pt_mrg 727 r1 r7 807 none := ⟨_, rfl⟩
    show P (110, 0, 0) (zl_h q i) [] (pt_mrg 727 r1 r7 807 none) M7
    rw [← hr8]
    have lo8 : ∀ t, t < 727 → r8 t = r7 t := fun t a => by
      rw [hr8]
      exact wa_mlt a
    have l8 : ∀ t, 727 ≤ t → r8 t = r1 t := fun t a => by
      rw [hr8]
      exact if_neg (by omega)
    have f8 : ∀ t, t < 727 → zt_n i t → r8 t = r1 t := fun t a b => (lo8 t a).trans ((q4 t a b).trans (l6 t a))
    refine hseg _ _ _ _ _ r8 M7 _ _ _ _ _ row.2 ⟨pt_m0, pt_m0, pt_m0⟩ ⟨fun _ => ?_, trivial⟩
    refine ih (i + 1) r8 M7 (by omega) ⟨⟨(l8 _ (by omega)).trans hX.1.1, (l8 _ (by omega)).trans hX.1.2⟩, (l8 _ (by omega)).trans hX.2⟩ (fun m hm => ?_) (fun t a b => ?_) (fun z a b => (q5 z a b).trans (fM z a b))
    · by_cases e : m = i
      · rw [e]
        refine ⟨⟨?_, ?_⟩, fun u hu => ?_⟩
        · rw [lo8 _ (by omega), q1, eL]
        · rw [lo8 _ (by omega), q2, eH]
        · have eC : zl_C r T q l K i u = am_SZ (zt_A r q T i (l i)) u := if_pos (by omega)
          rw [eH] at hu
          rw [q3 u hu, eC]
      · obtain ⟨⟨g1, g2⟩, g3⟩ := hD m (by omega)
        refine ⟨⟨?_, ?_⟩, fun u hu => ?_⟩
        · rw [f8 _ (by omega) (by unfold zt_n; omega)]
          exact g1
        · rw [f8 _ (by omega) (by unfold zt_n; omega)]
          exact g2
        · have u7 : u ≤ 7 := by
            have eH' : zl_hi r on w T q l K m = am_nZ (zt_A r q T m (l m)) (zt_h0 r on w q m) := if_pos (by omega)
            have a1 := am_n_leZ (A := zt_A r q T m (l m)) (zt_h0 r on w q m)
            have a2 : zt_h0 r on w q m ≤ 7 := zl_h7 (jm m (by omega)).1.2.2.1.2 (hb m (by omega)).2 hw.2
            omega
          rw [q6 _ (by omega)]
          exact g3 u hu
    · rw [f8 t a (by unfold zl_m at b; unfold zt_n; omega)]
      exact fr t a b
end ZLS
