/-! TEXTS (the reference): the offer is copied to its mill -/
noncomputable def gb_oT (v : Nat) : List ai_V := [wa_r 264, .inl (0, .ofNat v), wa_u, wa_u]
noncomputable def gb_oK (v : Nat) : List ai_V := [wa_r 264, .inl (0, .ofNat v), wa_u, wa_i 394]
noncomputable abbrev gb_r0 (st : List Nat) (sk : Bool) (pc : Nat) (L S : List ai_V) (cp : List (Nat × Int × Int)) (le : List (ai_X × ai_X)) (pc2 : Nat) (L2 S2 : List ai_V) (W : List (Nat × pt_X)) : Bool := pt_row0 gbY 203 st sk (pc, 0, 0) L S [] cp le [293] [((pc2, 0, 0), (L2, S2), W, [])]
noncomputable def gb_oS (q v : Nat) : List ai_V := [.inl (394, .ofNat (8 * v)), wa_r q]
noncomputable def gb_oQ (v : Nat) : List ai_V := [.inl (394, .ofNat (400 * v)), wa_r 290]
theorem gb_t_c : (List.range 4).all (fun v => (gb_r0 [139] false 129 (gb_oT v) [] [] [] 139 (gb_oT v) [gz_n 4, wa_r 286, .inl (0, .ofNat v), wa_r 286] [] && gb_r0 [150] false 141 (gb_oT v) [] [] [] 150 (gb_oK v) [] [(369 + v, gz_k 1), (394, gz_k 0)]) &&
    ((gb_r0 [174, 224] true 150 (gb_oK v) [] [(394, (0, 7))] [] 174 (gb_oK v) (.inl (394, 32) :: wa_r 287 :: gb_oS 287 v) [] && (gb_r0 [194] false 176 (gb_oK v) [] [(394, (0, 7))] [] 194 (gb_oK v) (.inl (394, 32) :: wa_r 288 :: gb_oS 288 v) [] && gb_r0 [214] false 196 (gb_oK v) [] [(394, (0, 7))] [] 214 (gb_oK v) (.inl (394, 32) :: wa_r 289 :: gb_oS 289 v) [])) &&
    ((gb_r0 [150] false 216 (gb_oK v) [] [(394, (0, 7))] [] 150 (gb_oK v) [] [(394, gz_d 394 1)] && gb_r0 [174, 224] true 150 (gb_oK v) [] [(394, (8, 8))] [] 224 (gb_oK v) [] [(394, gz_k 0)]) &&
    (gb_r0 [252, 261] true 224 (gb_oK v) [] [(394, (0, 399))] [((394, 1), (86, 0))] 252 (gb_oK v) (.inl (394, 1600) :: wa_r 290 :: gb_oQ v) [] && (gb_r0 [252, 261] true 224 (gb_oK v) [] [(394, (0, 400))] [((86, 0), (394, 0))] 261 (gb_oK v) [gz_n 0] [] && gb_r0 [224] false 254 (gb_oK v) [] [(394, (0, 399))] [] 224 (gb_oK v) [] [(394, gz_d 394 1)]))))) = true := by decide +kernel
theorem gb_t_k : (List.range 4).all (fun v => (pt_lck gbY 203 139 1 286 5 0 471 (gb_oT v) [.inl (0, .ofNat v), wa_r 286] && (pt_lck gbY 203 174 1 287 40 0 471 (gb_oK v) (gb_oS 287 v) && (pt_lck gbY 203 194 1 288 40 0 471 (gb_oK v) (gb_oS 288 v) && (pt_lck gbY 203 214 1 289 40 0 471 (gb_oK v) (gb_oS 289 v) && pt_lck gbY 203 252 1 290 2000 0 471 (gb_oK v) (gb_oQ v)))))) = true ∧ pt_tck gbY 203 140 286 5 = true ∧ pt_tck gbY 203 175 287 40 = true ∧ pt_tck gbY 203 195 288 40 = true ∧ pt_tck gbY 203 215 289 40 = true ∧ pt_tck gbY 203 253 290 2000 = true := by decide +kernel
section GBY
variable {P P0 : pt_P} {v c : Nat} {r0 : Nat → Int} {M : Nat → Nat → Int}
theorem gb_tcodes (h0 : ps_T0 203 gbY P P0) (hv : v < 4) (hc : c ≤ 400) (hcd : r0 86 = (c : Int)) (h00 : r0 0 = 0) (k : ∀ r2, (∀ t, t < 391 → r2 t = r0 t) → P0 (261, 0, 0) (gb_oK v) [gz_n 0] r2 (gb_cq v 8 8 8 1 c M)) :
    ∀ (d j : Nat) (r : Nat → Int), j + d = c → r 394 = (j : Int) → (∀ t, t < 391 → r t = r0 t) → P0 (224, 0, 0) (gb_oK v) [] r (gb_cq v 8 8 8 1 j M) := by
  obtain ⟨-, hrow, hld, hst, -, -⟩ := h0
  have rows := List.all_eq_true.mp gb_t_c v (List.mem_range.mpr hv)
  simp only [Bool.and_eq_true] at rows
  obtain ⟨-, -, -, c1, c2, c3⟩ := rows
  have ks := List.all_eq_true.mp gb_t_k.1 v (List.mem_range.mpr hv)
  simp only [Bool.and_eq_true] at ks
  obtain ⟨-, -, -, -, k1⟩ := ks
  have s1 := gb_t_k.2.2.2.2.2
  have ev4 : Int.ofNat (400 * v) = ((400 * v : Nat) : Int) := rfl
  intro d
  induction d with
  | zero =>
    intro j r hj e3 fr
    have ej : j = c := by omega
    subst ej
    have cdr : r 86 = (j : Int) := (fr _ (by omega)).trans hcd
    refine hrow _ _ _ _ _ r _ _ _ _ _ _ c2 ⟨pt_m0, pt_m1 ⟨by show (0 : Int) ≤ r 394; omega, by show r 394 ≤ 400; omega⟩, pt_m1 (by show r 86 + 0 ≤ r 394 + 0; omega)⟩ ⟨fun _ => ?_, trivial⟩
    exact k r fr
  | succ d ih =>
    intro j r hj e3 fr
    have cdr : r 86 = (c : Int) := (fr _ (by omega)).trans hcd
    refine hrow _ _ _ _ _ r _ _ _ _ _ _ c1 ⟨pt_m0, pt_m1 ⟨by show (0 : Int) ≤ r 394; omega, by show r 394 ≤ 399; omega⟩, pt_m1 (by show r 394 + 1 ≤ r 86 + 0; omega)⟩ ⟨fun _ => ?_, trivial⟩
    refine hld (252, 0, 0) _ (gb_oQ v) r _ 290 2000 471 (1600 + j) (394, 1600) k1 (by omega) (by show r 394 + 1600 = _; omega) ?_
    rw [gb_cq_t hv (by omega) (by omega) (Or.inr (Or.inr ⟨rfl, by omega⟩))]
    obtain ⟨r1, hr1⟩ : ∃ r1, r1 = pt_set r 471 (M 290 (1600 + j)) := ⟨_, rfl⟩
    rw [← hr1]
    have n1 : ∀ t, t ≠ 471 → r1 t = r t := fun t x => by
      rw [hr1]
      exact if_neg x
    have t1 : r1 471 = M 290 (1600 + j) := by
      rw [hr1]
      exact gz_sset
    show P0 (253, 0, 0) (gb_oK v) (.inl (471, 0) :: .inl (394, .ofNat (400 * v)) :: .inr (.inr (some (some 290))) :: []) r1 _
    refine hst (253, 0, 0) _ [] r1 _ 290 2000 (400 * v + j) (394, .ofNat (400 * v)) (471, 0) s1 (by omega) (by show r1 394 + Int.ofNat (400 * v) = _; rw [n1 _ (by omega), e3, ev4]; omega) ?_
    have ev : ai_vx r1 (471, 0) = M 290 (1600 + j) := by
      show r1 471 + 0 = _
      rw [t1, Int.add_zero]
    rw [ev, gb_cq_4]
    refine hrow _ _ _ _ _ r1 _ _ _ _ _ _ c3 ⟨pt_m0, pt_m1 ⟨by show (0 : Int) ≤ r1 394; rw [n1 _ (by omega)]; omega, by show r1 394 ≤ 399; rw [n1 _ (by omega)]; omega⟩, pt_m0⟩ ⟨fun _ => ?_, trivial⟩
    obtain ⟨r2, hr2⟩ : ∃ r2, r2 = pt_up r1 [(394, gz_d 394 1)] := ⟨_, rfl⟩
    show P0 (224, 0, 0) (gb_oK v) [] (pt_up r1 [(394, gz_d 394 1)]) _
    rw [← hr2]
    have n2 : ∀ t, t ≠ 394 → r2 t = r1 t := fun t x => by
      rw [hr2]
      exact if_neg x
    exact ih (j + 1) r2 (by omega) (by rw [hr2]; show r1 394 + 1 = _; rw [n1 _ (by omega)]; omega) (fun t ht => by rw [n2 t (by omega), n1 t (by omega), fr t ht])
theorem gb_trow (h0 : ps_T0 203 gbY P P0) (hv : v < 4) {q a pl : Nat} {a1 a2 a3 : Nat} {r : Nat → Int} (hq : q = 287 ∨ q = 288 ∨ q = 289) (ha : a < 8) (hle : a1 ≤ 8 ∧ a2 ≤ 8 ∧ a3 ≤ 8) (e3 : r 394 = (a : Int)) (hl : pt_lck gbY 203 pl 1 q 40 0 471 (gb_oK v) (gb_oS q v) = true) (hs : pt_tck gbY 203 (pl + 1) q 40 = true)
    (k : ∀ r2, (∀ t, t ≠ 471 → r2 t = r t) → P0 (pl + 2, 0, 0) (gb_oK v) [] r2 (pt_sto (gb_cq v a1 a2 a3 1 0 M) q (8 * v + a) (M q (32 + a)))) : P0 (pl, 0, 0) (gb_oK v) (.inl (394, 32) :: wa_r q :: gb_oS q v) r (gb_cq v a1 a2 a3 1 0 M) := by
  obtain ⟨-, -, hld, hst, -, -⟩ := h0
  have ev8 : Int.ofNat (8 * v) = ((8 * v : Nat) : Int) := rfl
  refine hld (pl, 0, 0) _ (gb_oS q v) r _ q 40 471 (32 + a) (394, 32) hl (by omega) (by show r 394 + 32 = _; omega) ?_
  rw [gb_cq_t hv hle (by omega) (Or.inr (Or.inl ⟨hq, by omega⟩))]
  obtain ⟨r1, hr1⟩ : ∃ r1, r1 = pt_set r 471 (M q (32 + a)) := ⟨_, rfl⟩
  rw [← hr1]
  have n1 : ∀ t, t ≠ 471 → r1 t = r t := fun t x => by
    rw [hr1]
    exact if_neg x
  have t1 : r1 471 = M q (32 + a) := by
    rw [hr1]
    exact gz_sset
  show P0 (pl + 1, 0, 0) (gb_oK v) (.inl (471, 0) :: .inl (394, .ofNat (8 * v)) :: .inr (.inr (some (some q))) :: []) r1 _
  refine hst (pl + 1, 0, 0) _ [] r1 _ q 40 (8 * v + a) (394, .ofNat (8 * v)) (471, 0) hs (by omega) (by show r1 394 + Int.ofNat (8 * v) = _; rw [n1 _ (by omega), e3, ev8]; omega) ?_
  have ev : ai_vx r1 (471, 0) = M q (32 + a) := by
    show r1 471 + 0 = _
    rw [t1, Int.add_zero]
  rw [ev]
  exact k r1 n1
theorem gb_trows (h0 : ps_T0 203 gbY P P0) (hv : v < 4) (hc : c ≤ 400) (hcd : r0 86 = (c : Int)) (h00 : r0 0 = 0) (k : ∀ r2, (∀ t, t < 391 → r2 t = r0 t) → P0 (261, 0, 0) (gb_oK v) [gz_n 0] r2 (gb_cq v 8 8 8 1 c M)) :
    ∀ (d a : Nat) (r : Nat → Int), a + d = 8 → r 394 = (a : Int) → (∀ t, t < 391 → r t = r0 t) → P0 (150, 0, 0) (gb_oK v) [] r (gb_cq v a a a 1 0 M) := by
  have h0' := h0
  obtain ⟨-, hrow, hld, hst, -, -⟩ := h0'
  have rows := List.all_eq_true.mp gb_t_c v (List.mem_range.mpr hv)
  simp only [Bool.and_eq_true] at rows
  obtain ⟨-, ⟨c1, c2, c3⟩, ⟨c4, c5⟩, -⟩ := rows
  have ks := List.all_eq_true.mp gb_t_k.1 v (List.mem_range.mpr hv)
  simp only [Bool.and_eq_true] at ks
  obtain ⟨-, k1, k2, k3, -⟩ := ks
  obtain ⟨-, -, s1, s2, s3, -⟩ := gb_t_k
  intro d
  induction d with
  | zero =>
    intro a r ha e3 fr
    have ea : a = 8 := by omega
    subst ea
    refine hrow _ _ _ _ _ r _ _ _ _ _ _ c5 ⟨pt_m0, pt_m1 ⟨by show (8 : Int) ≤ r 394; omega, by show r 394 ≤ 8; omega⟩, pt_m0⟩ ⟨fun _ => ?_, trivial⟩
    obtain ⟨r2, hr2⟩ : ∃ r2, r2 = pt_up r [(394, gz_k 0)] := ⟨_, rfl⟩
    show P0 (224, 0, 0) (gb_oK v) [] (pt_up r [(394, gz_k 0)]) _
    rw [← hr2]
    have n2 : ∀ t, t ≠ 394 → r2 t = r t := fun t x => by
      rw [hr2]
      exact if_neg x
    exact gb_tcodes h0 hv hc hcd h00 k c 0 r2 (by omega) (by rw [hr2]; rfl) (fun t ht => by rw [n2 t (by omega), fr t ht])
  | succ d ih =>
    intro a r ha e3 fr
    have bd : ∀ r2 : Nat → Int, r2 394 = (a : Int) → (0 : Int) ≤ r2 394 ∧ r2 394 ≤ 7 := fun r2 e => by omega
    refine hrow _ _ _ _ _ r _ _ _ _ _ _ c1 ⟨pt_m0, pt_m1 (bd r e3), pt_m0⟩ ⟨fun _ => ?_, trivial⟩
    refine gb_trow (r := r) h0 hv (Or.inl rfl) (by omega) (by omega) e3 k1 s1 (fun r1 f1 => ?_)
    rw [gb_cq_1]
    have e31 : r1 394 = (a : Int) := (f1 _ (by omega)).trans e3
    refine hrow _ _ _ _ _ r1 _ _ _ _ _ _ c2 ⟨pt_m0, pt_m1 (bd r1 e31), pt_m0⟩ ⟨fun _ => ?_, trivial⟩
    refine gb_trow (r := r1) h0 hv (Or.inr (Or.inl rfl)) (by omega) (by omega) e31 k2 s2 (fun r2 f2 => ?_)
    rw [gb_cq_2]
    have e32 : r2 394 = (a : Int) := (f2 _ (by omega)).trans e31
    refine hrow _ _ _ _ _ r2 _ _ _ _ _ _ c3 ⟨pt_m0, pt_m1 (bd r2 e32), pt_m0⟩ ⟨fun _ => ?_, trivial⟩
    refine gb_trow (r := r2) h0 hv (Or.inr (Or.inr rfl)) (by omega) (by omega) e32 k3 s3 (fun r3 f3 => ?_)
    rw [gb_cq_3]
    have e33 : r3 394 = (a : Int) := (f3 _ (by omega)).trans e32
    refine hrow _ _ _ _ _ r3 _ _ _ _ _ _ c4 ⟨pt_m0, pt_m1 (bd r3 e33), pt_m0⟩ ⟨fun _ => ?_, trivial⟩
    obtain ⟨r4, hr4⟩ : ∃ r4, r4 = pt_up r3 [(394, gz_d 394 1)] := ⟨_, rfl⟩
    show P0 (150, 0, 0) (gb_oK v) [] (pt_up r3 [(394, gz_d 394 1)]) _
    rw [← hr4]
    have n4 : ∀ t, t ≠ 394 → r4 t = r3 t := fun t x => by
      rw [hr4]
      exact if_neg x
    exact ih (a + 1) r4 (by omega) (by rw [hr4]; show r3 394 + 1 = _; omega) (fun t ht => by rw [n4 t (by omega), f3 t (by omega), f2 t (by omega), f1 t (by omega), fr t ht])
theorem gb_tail (h0 : ps_T0 203 gbY P P0) (hv : v < 4) (hc : c ≤ 400) (hcd : r0 86 = (c : Int)) (h00 : r0 0 = 0) (k : ∀ r2, (∀ t, t < 391 → t ≠ 369 + v → r2 t = r0 t) → r2 (369 + v) = 1 → P0 (261, 0, 0) (gb_oK v) [gz_n 0] r2 (gb_cq v 8 8 8 1 c M)) : P0 (129, 0, 0) (gb_oT v) [] r0 M := by
  have h0' := h0
  obtain ⟨-, hrow, hld, hst, -, -⟩ := h0'
  have rows := List.all_eq_true.mp gb_t_c v (List.mem_range.mpr hv)
  simp only [Bool.and_eq_true] at rows
  obtain ⟨⟨c1, c2⟩, -⟩ := rows
  have ks := List.all_eq_true.mp gb_t_k.1 v (List.mem_range.mpr hv)
  simp only [Bool.and_eq_true] at ks
  obtain ⟨k1, -⟩ := ks
  have s1 := gb_t_k.2.1
  have evv : Int.ofNat v = (v : Int) := rfl
  refine hrow _ _ _ _ _ r0 _ _ _ _ _ _ c1 ⟨pt_m0, pt_m0, pt_m0⟩ ⟨fun _ => ?_, trivial⟩
  refine hld (139, 0, 0) _ [.inl (0, .ofNat v), wa_r 286] r0 _ 286 5 471 4 (0, 4) k1 (by omega) (by show r0 0 + 4 = _; rw [h00]; rfl) ?_
  obtain ⟨r1, hr1⟩ : ∃ r1, r1 = pt_set r0 471 (M 286 4) := ⟨_, rfl⟩
  rw [← hr1]
  have n1 : ∀ t, t ≠ 471 → r1 t = r0 t := fun t x => by
    rw [hr1]
    exact if_neg x
  have t1 : r1 471 = M 286 4 := by
    rw [hr1]
    exact gz_sset
  show P0 (140, 0, 0) (gb_oT v) (.inl (471, 0) :: .inl (0, .ofNat v) :: .inr (.inr (some (some 286))) :: []) r1 _
  refine hst (140, 0, 0) _ [] r1 _ 286 5 v (0, .ofNat v) (471, 0) s1 (by omega) (by show r1 0 + Int.ofNat v = _; rw [n1 _ (by omega), h00, evv, Int.zero_add]) ?_
  have ev : ai_vx r1 (471, 0) = M 286 4 := by
    show r1 471 + 0 = _
    rw [t1, Int.add_zero]
  have eM : pt_sto M 286 v (M 286 4) = gb_cq v 0 0 0 1 0 M := by
    have := gb_cq_b (M := M) hv
    rw [gb_cq_0] at this
    exact this
  rw [ev, eM]
  refine hrow _ _ _ _ _ r1 _ _ _ _ _ _ c2 ⟨pt_m0, pt_m0, pt_m0⟩ ⟨fun _ => ?_, trivial⟩
  obtain ⟨r2, hr2⟩ : ∃ r2, r2 = pt_up r1 [(369 + v, gz_k 1), (394, gz_k 0)] := ⟨_, rfl⟩
  show P0 (150, 0, 0) (gb_oK v) [] (pt_up r1 [(369 + v, gz_k 1), (394, gz_k 0)]) _
  rw [← hr2]
  have v2 : ∀ t, r2 t = if t = 369 + v then 1 else if t = 394 then 0 else r1 t := fun t => by
    rw [hr2]
    rfl
  have n2 : ∀ t, t ≠ 394 → t ≠ 369 + v → r2 t = r1 t := fun t x y => by rw [v2, if_neg y, if_neg x]
  have s2 : r2 (369 + v) = 1 := by rw [v2, if_pos rfl]
  exact gb_trows (r0 := r2) h0 hv hc ((n2 _ (by omega) (by omega)).trans ((n1 _ (by omega)).trans hcd)) ((n2 _ (by omega) (by omega)).trans ((n1 _ (by omega)).trans h00)) (fun r4 f4 => k r4 (fun t a b => by rw [f4 t a, n2 t (by omega) b, n1 t (by omega)]) ((f4 _ (by omega)).trans s2)) 8 0 r2 (by omega) (by rw [v2, if_neg (by omega), if_pos rfl]; rfl) (fun t ht => rfl)
end GBY
