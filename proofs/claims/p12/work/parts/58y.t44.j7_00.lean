/-! TEXTS (the class): an OFFER is learnt -/
noncomputable def ln_L (v : Nat) (u : ai_V) : List ai_V := [wa_r (46 + 6 * v), wa_r 85, wa_i 392, u]
noncomputable abbrev ln_r (v : Nat) (st : List Nat) (sk : Bool) (pc : Nat) (u : ai_V) (S : List ai_V) (cp : List (Nat × Int × Int)) (le : List (ai_X × ai_X)) (pc2 : Nat) (u2 : ai_V) (S2 : List ai_V) (W : List (Nat × pt_X)) : Bool := pt_row gcY 63 st sk (pc, 0, 0) (ln_L v u) S [] cp le [] [((pc2, 0, 0), (ln_L v u2, S2), W, [])]
noncomputable def ln_i : ai_V := wa_i 394
theorem ln_c : (List.range 4).all (fun v => (ln_r v [7] true 0 wa_u [] [(392, (0, 200))] [] 7 ln_i [] [(11 + 8 * v, gz_k 0), (394, gz_k 0)] && (ln_r v [17, 52] true 7 ln_i [] [(392, (0, 200)), (394, (0, 199))] [((394, 1), (392, 0))] 17 ln_i [wa_r (47 + 6 * v), ln_i] [] && ln_r v [17, 52] true 7 ln_i [] [(392, (0, 200)), (394, (0, 200))] [((392, 0), (394, 0))] 52 ln_i [] [])) &&
    (ln_r v [23, 52] false 18 ln_i [wa_k 200, ln_i] [(394, (0, 199))] [] 23 ln_i [wa_r 85, ln_i] [] && (ln_r v [34, 52] false 24 ln_i [wa_k 200, ln_i] [(394, (0, 199))] [] 34 ln_i [ln_i, wa_r 85, ln_i, wa_r (47 + 6 * v)] [] && ln_r v [7] false 36 ln_i [] [(394, (0, 199)), (11 + 8 * v, (0, 199))] [] 7 ln_i [] [(11 + 8 * v, gz_d (11 + 8 * v) 1), (394, gz_d 394 1)]))) = true := by decide +kernel
theorem ln_k : (List.range 4).all (fun v => pt_nck gcY 63 17 (47 + 6 * v) 200 && (pt_sck gcY 63 35 2 (47 + 6 * v) 200 0 && pt_lck gcY 63 34 1 85 200 0 471 (ln_L v ln_i) [ln_i, wa_r (47 + 6 * v)])) = true ∧ (pt_nck gcY 63 23 85 200 = true ∧ pt_is 7 63 52 = true) ∧ (ct_mt 63).2.2.1 = 4 ∧ ct_bud 63 = (0, 0) ∧ lh_plain 63 = true := by decide +kernel
noncomputable def ln_C (M : Nat → Nat → Int) (q c : Nat) : Nat → Nat → Int := fun z x => if z = q ∧ x < c then M 85 x else M z x
theorem ln_C0 {M : Nat → Nat → Int} {q : Nat} : ln_C M q 0 = M := by
  funext z x
  exact if_neg (by omega)
theorem ln_Cs {M : Nat → Nat → Int} {q i : Nat} : pt_sto (ln_C M q i) q i (M 85 i) = ln_C M q (i + 1) := by
  funext z x
  unfold pt_sto ln_C
  by_cases e : z = q ∧ x = i
  · rw [if_pos e, if_pos (by omega), e.2]
  · rw [if_neg e]
    by_cases e2 : z = q ∧ x < i
    · rw [if_pos e2, if_pos (by omega)]
    · rw [if_neg e2, if_neg (by omega)]
section LNN
variable {n : Nat} {Z : (Nat → Int) → (Nat → Nat → Int) → Option Int → Prop} {P : pt_P} {v c : Nat} {r0 : Nat → Int} {M0 : Nat → Nat → Int}
theorem ln_loop (h : pt_Cl n 63 gcY 0 Z P) (hlen : ∀ (k : Nat × Nat × Nat) (L S : List ai_V) (r : Nat → Int) (M : Nat → Nat → Int) (q nq : Nat), pt_nck gcY 63 k.1 q nq = true → P (k.1 + 1, k.2) L (.inl (0, .ofNat nq) :: S) r M → P k L (.inr (.inr (some (some q))) :: S) r M) (hv : v < 4) (hc : c ≤ 200) (h1 : r0 392 = (c : Int)) (hz : ∀ r2, r2 (11 + 8 * v) = (c : Int) → (∀ t, t < 391 → t ≠ 11 + 8 * v → r2 t = r0 t) → Z r2 (ln_C M0 (47 + 6 * v) c) none) :
    ∀ (d i : Nat) (r : Nat → Int), i + d = c → r 394 = (i : Int) → r (11 + 8 * v) = (i : Int) → (∀ t, t ≠ 394 → t ≠ 471 → t ≠ 11 + 8 * v → r t = r0 t) → P (7, 0, 0) (ln_L v ln_i) [] r (ln_C M0 (47 + 6 * v) i) := by
  obtain ⟨hseg, henv, -, -, hld, -, hst, -, -, -, -, -, -, hvret⟩ := h
  have cc := List.all_eq_true.mp ln_c v (List.mem_range.mpr hv)
  simp only [Bool.and_eq_true] at cc
  obtain ⟨⟨-, c2, c3⟩, c4, c5, c6⟩ := cc
  have ck := List.all_eq_true.mp ln_k.1 v (List.mem_range.mpr hv)
  simp only [Bool.and_eq_true] at ck
  obtain ⟨k1, k2, k3⟩ := ck
  have oc : 11 + 8 * v < 391 := by omega
  intro d
  induction d with
  | zero =>
    intro i r hi e3 eo fr
    have ei : i = c := by omega
    subst ei
    have e1 : r 392 = (i : Int) := (fr _ (by omega) (by omega) (by omega)).trans h1
    refine hseg _ _ _ _ _ r _ _ _ _ _ _ c3 ⟨pt_m0, pt_m2 ⟨by show (0 : Int) ≤ r 392; omega, by show r 392 ≤ 200; omega⟩ ⟨by show (0 : Int) ≤ r 394; omega, by show r 394 ≤ 200; omega⟩, pt_m1 (by show r 392 + 0 ≤ r 394 + 0; omega)⟩ ⟨fun _ => ?_, trivial⟩
    exact hvret (52, 0, 0) _ r _ rfl ln_k.2.1.2 (by decide +kernel) (by decide +kernel) (hz r eo (fun t a b => fr t (by omega) (by omega) b))
  | succ d ih =>
    intro i r hi e3 eo fr
    have e1 : r 392 = (c : Int) := (fr _ (by omega) (by omega) (by omega)).trans h1
    have b3 : ∀ r2 : Nat → Int, r2 394 = (i : Int) → (0 : Int) ≤ r2 394 ∧ r2 394 ≤ 199 := fun r2 e => by omega
    refine hseg _ _ _ _ _ r _ _ _ _ _ _ c2 ⟨pt_m0, pt_m2 ⟨by show (0 : Int) ≤ r 392; omega, by show r 392 ≤ 200; omega⟩ (b3 r e3), pt_m1 (by show r 394 + 1 ≤ r 392 + 0; omega)⟩ ⟨fun _ => ?_, trivial⟩
    refine hlen (17, 0, 0) _ [ln_i] r _ (47 + 6 * v) 200 k1 ?_
    refine hseg _ _ _ _ _ r _ _ _ _ _ _ c4 ⟨pt_m0, pt_m1 (b3 r e3), pt_m0⟩ ⟨fun _ => ?_, trivial⟩
    refine hlen (23, 0, 0) _ [ln_i] r _ 85 200 ln_k.2.1.1 ?_
    refine hseg _ _ _ _ _ r _ _ _ _ _ _ c5 ⟨pt_m0, pt_m1 (b3 r e3), pt_m0⟩ ⟨fun _ => ?_, trivial⟩
    refine hld (34, 0, 0) _ [ln_i, wa_r (47 + 6 * v)] r _ 85 200 471 i (394, 0) k3 (by omega) (by show r 394 + 0 = _; omega) ?_
    have e85 : ln_C M0 (47 + 6 * v) i 85 i = M0 85 i := if_neg (by omega)
    rw [e85]
    obtain ⟨r1, hr1⟩ : ∃ r1, r1 = pt_set r 471 (M0 85 i) := ⟨_, rfl⟩
    rw [← hr1]
    have n1 : ∀ t, t ≠ 471 → r1 t = r t := fun t x => by
      rw [hr1]
      exact if_neg x
    have s1 : r1 471 = M0 85 i := by
      rw [hr1]
      exact gz_sset
    show P (35, 0, 0) (ln_L v ln_i) (.inl (471, 0) :: .inl (394, 0) :: .inr (.inr (some (some (47 + 6 * v)))) :: []) r1 _
    refine hst (35, 0, 0) _ [] r1 _ (47 + 6 * v) 200 i (394, 0) (471, 0) k2 (by omega) (by show r1 394 + 0 = _; rw [n1 _ (by omega)]; omega) ?_
    have ev : ai_vx r1 (471, 0) = M0 85 i := by
      show r1 471 + 0 = _
      rw [s1, Int.add_zero]
    rw [ev, ln_Cs]
    have o1 : r1 (11 + 8 * v) = (i : Int) := (n1 _ (by omega)).trans eo
    refine hseg _ _ _ _ _ r1 _ _ _ _ _ _ c6 ⟨pt_m0, pt_m2 (b3 r1 ((n1 _ (by omega)).trans e3)) ⟨by show (0 : Int) ≤ r1 (11 + 8 * v); omega, by show r1 (11 + 8 * v) ≤ 199; omega⟩, pt_m0⟩ ⟨fun _ => ?_, trivial⟩
    obtain ⟨r2, hr2⟩ : ∃ r2, r2 = pt_up r1 [(11 + 8 * v, gz_d (11 + 8 * v) 1), (394, gz_d 394 1)] := ⟨_, rfl⟩
    show P (7, 0, 0) (ln_L v ln_i) [] (pt_up r1 [(11 + 8 * v, gz_d (11 + 8 * v) 1), (394, gz_d 394 1)]) _
    rw [← hr2]
    have v2 : ∀ t, r2 t = if t = 11 + 8 * v then r1 (11 + 8 * v) + 1 else if t = 394 then r1 394 + 1 else r1 t := fun t => by
      rw [hr2]
      rfl
    refine ih (i + 1) r2 (by omega) ?_ ?_ (fun t a b x => ?_)
    · rw [v2, if_neg (by omega), if_pos rfl, n1 _ (by omega)]
      omega
    · rw [v2, if_pos rfl]
      omega
    · rw [v2, if_neg x, if_neg a, n1 t b]
      exact fr t a b x
end LNN
theorem ln_M {n v c : Nat} (hn : 4 ≤ n) (hv : v < 4) (hc : c ≤ 200) : pt_Met (n + 1) 63 gcY [wa_r (46 + 6 * v), wa_r 85, wa_i 392] (fun r _ => r 392 = (c : Int)) (fun r M r2 M2 o => o = none ∧ r2 (11 + 8 * v) = (c : Int) ∧ (∀ t, t < 391 → t ≠ 11 + 8 * v → r2 t = r t) ∧ M2 = ln_C M (47 + 6 * v) c) 0 := by
  refine pt_introN (L0 := ln_L v wa_u) ln_k.2.2.2.2 hn gcsys (by
    rw [ln_k.2.2.1]
    rfl) (fun P r M h hlen hp => ?_)
  have h' := h
  obtain ⟨hseg, -⟩ := h'
  have cc := List.all_eq_true.mp ln_c v (List.mem_range.mpr hv)
  simp only [Bool.and_eq_true] at cc
  have hp : r 392 = (c : Int) := hp
  refine hseg _ _ _ _ _ r M _ _ _ _ _ cc.1.1 ⟨pt_m0, pt_m1 ⟨by show (0 : Int) ≤ r 392; omega, by show r 392 ≤ 200; omega⟩, pt_m0⟩ ⟨fun _ => ?_, trivial⟩
  obtain ⟨r2, hr2⟩ : ∃ r2, r2 = pt_up r [(11 + 8 * v, gz_k 0), (394, gz_k 0)] := ⟨_, rfl⟩
  show P (7, 0, 0) (ln_L v ln_i) [] (pt_up r [(11 + 8 * v, gz_k 0), (394, gz_k 0)]) M
  rw [← hr2]
  have v2 : ∀ t, r2 t = if t = 11 + 8 * v then 0 else if t = 394 then 0 else r t := fun t => by
    rw [hr2]
    rfl
  have g := ln_loop (r0 := r) (M0 := M) (v := v) (c := c) h hlen hv hc hp (fun r2 g1 g2 => ⟨rfl, g1, g2, rfl⟩) c 0 r2 (by omega) (by rw [v2, if_neg (by omega), if_pos rfl]; rfl) (by rw [v2, if_pos rfl]; rfl) (fun t a b x => by rw [v2, if_neg x, if_neg a])
  rw [ln_C0] at g
  exact g
