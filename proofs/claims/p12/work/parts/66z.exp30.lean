/-! ASKED (the reference): the LOADs of a QUARTER -/
noncomputable def lo_LZ (q : Nat) (a b : ai_V) : List ai_V := [wa_r 264, wa_k q, a, b]
noncomputable def lo_hZ (q i : Nat) : List ai_V := lo_LZ q (wa_i 728) (wa_k i)
noncomputable abbrev lo_rZ (st : List Nat) (sk : Bool) (pc : Nat) (L S : List ai_V) (cp : List (Nat × Int × Int)) (pc2 : Nat) (L2 S2 : List ai_V) (W : List (Nat × pt_X)) : Bool := pt_row zyY 208 st sk (pc, 0, 0) L S [] cp [] [] [((pc2, 0, 0), (L2, S2), W, [])]
theorem lo_cZ : (List.range 4).all (fun q => (lo_rZ [4] true 0 (lo_LZ q wa_u wa_u) [] [] 4 (lo_hZ q 0) [] [(728, gz_k 0)] && (List.range 5).all (fun i => lo_rZ [32] false 31 (lo_hZ q i) [] [] 32 (lo_hZ q i) [wa_i 728] [])) &&
    ((List.range 4).all (fun i => lo_rZ [4, 31] true 4 (lo_hZ q i) [] [(71, (.ofNat (i + 1), 4))] 4 (lo_hZ q (i + 1)) [] [(728, [(0, 728, 0), (0, 169 + 4 * i + q, 0), (2, 0, 0)])] && lo_rZ [4, 31] true 4 (lo_hZ q i) [] [(71, (0, .ofNat i))] 31 (lo_hZ q i) [] []) && lo_rZ [4, 31] true 4 (lo_hZ q 4) [] [] 31 (lo_hZ q 4) [] [])) = true := by decide +kernel
theorem lo_kZ : (pt_is 5 208 32 = true ∧ (ct_mt 208).2.2.1 = 4) ∧ lh_plain 208 = true ∧ ct_bud 208 = (0, 0) := by decide +kernel
theorem lo_bdZ : (List.range 16).all (fun j => zyE.2.1.any (fun q => decide (q = (169 + j, ((-2147483648 : Int), (2147483647 : Int)))))) = true ∧ zyE.2.1.any (fun q => decide (q = (71, ((0 : Int), (4 : Int))))) = true := by decide +kernel
noncomputable def lo_SZ (r : Nat → Int) (q : Nat) : Nat → Int
  | 0 => 0
  | i + 1 => ai_op 0 (lo_SZ r q i) (r (169 + 4 * i + q))
theorem lo_o0Z {x : Int} (h1 : -2147483648 ≤ x) (h2 : x ≤ 2147483647) : ai_op 0 0 x = x ∧ ai_op 0 x 0 = x := by
  refine ⟨?_, ?_⟩
  · rw [wq_o0 (by omega) (by omega), Int.zero_add]
  · rw [wq_o0 (by omega) (by omega), Int.add_zero]
theorem lo_TZ {r : Nat → Int} {q : Nat} (b1 : -2147483648 ≤ r (169 + 4 * 0 + q)) (b2 : r (169 + 4 * 0 + q) ≤ 2147483647) : op_TZ r q 0 = lo_SZ r q 4 := by
  have e : ∀ p, op_lZ r q 0 p = r (169 + 4 * p + q) := fun p => if_neg (by omega)
  show ai_op 0 (ai_op 0 (ai_op 0 (op_lZ r q 0 0) (op_lZ r q 0 1)) (op_lZ r q 0 2)) (op_lZ r q 0 3) = ai_op 0 (ai_op 0 (ai_op 0 (ai_op 0 0 (r (169 + 4 * 0 + q))) (r (169 + 4 * 1 + q))) (r (169 + 4 * 2 + q))) (r (169 + 4 * 3 + q))
  rw [e, e, e, e, (lo_o0Z b1 b2).1]
/-- places that aren't there add nothing -/
theorem lo_ZZ {r : Nat → Int} {q i : Nat} (b1 : -2147483648 ≤ lo_SZ r q i) (b2 : lo_SZ r q i ≤ 2147483647) (z : ∀ p, i ≤ p → p < 4 → r (169 + 4 * p + q) = 0) : ∀ d, i + d ≤ 4 → lo_SZ r q (i + d) = lo_SZ r q i
  | 0, _ => rfl
  | d + 1, h => by
    have ih := lo_ZZ b1 b2 z d (by omega)
    show ai_op 0 (lo_SZ r q (i + d)) (r (169 + 4 * (i + d) + q)) = _
    rw [z (i + d) (by omega) (by omega), ih, (lo_o0Z b1 b2).2]
noncomputable def lo_aZ : List ai_V := [wa_r 264, wa_i 727]
noncomputable def lo_zZ (q : Nat) (r : Nat → Int) : Prop := ∀ p : Nat, p < 4 → r 71 ≤ (p : Int) → r (169 + 4 * p + q) = 0
theorem lo_MZ {n q : Nat} (hn : 4 ≤ n) (hq : q < 4) : pt_Met (n + 1) 208 zyY lo_aZ (fun r _ => r 727 = (q : Int) ∧ lo_zZ q r) (fun r M r2 M2 o => o = some (op_TZ r q 0) ∧ (∀ t, t < 727 → r2 t = r t) ∧ M2 = M) 1 := by
  refine pt_intro (L0 := [wa_r 264, wa_i 727, wa_u, wa_u]) lo_kZ.2.1 (by omega) zysys (by
    rw [lo_kZ.1.2]
    rfl) (fun P r M h hp => ?_)
  obtain ⟨hseg, henv, hrel, -, -, -, -, -, -, -, hret, -⟩ := h
  obtain ⟨p0, pz⟩ := hp
  refine henv _ _ _ _ _ (fun hE _ => ?_)
  have h0 : r 0 = 0 := hE.1
  obtain ⟨y, hy, ey⟩ := List.any_eq_true.mp (List.all_eq_true.mp lo_bdZ.1 q (List.mem_range.mpr (by omega)))
  have ey := of_decide_eq_true ey
  subst ey
  have b0 : -2147483648 ≤ r (169 + q) ∧ r (169 + q) ≤ 2147483647 := (hE.2.2.2.1 _ hy).2
  obtain ⟨y, hy, ey⟩ := List.any_eq_true.mp lo_bdZ.2
  have ey := of_decide_eq_true ey
  subst ey
  have bp : (0 : Int) ≤ r 71 ∧ r 71 ≤ 4 := (hE.2.2.2.1 _ hy).2
  have eT : op_TZ r q 0 = lo_SZ r q 4 := lo_TZ (by rw [show 169 + 4 * 0 + q = 169 + q by omega]; exact b0.1) (by rw [show 169 + 4 * 0 + q = 169 + q by omega]; exact b0.2)
  refine hrel (0, 0, 0) _ (lo_LZ q wa_u wa_u) [] [] r M ⟨rfl, ⟨by show 0 < 827; omega, by show r 727 + 0 = r 0 + (q : Int); omega⟩, trivial, trivial, trivial⟩ trivial ?_
  have q1 := List.all_eq_true.mp lo_cZ q (List.mem_range.mpr hq)
  simp only [Bool.and_eq_true] at q1
  obtain ⟨⟨c1, c2⟩, c3, c4⟩ := q1
  have out : ∀ i r1, i ≤ 4 → r1 728 = lo_SZ r q i → (∀ t, t < 727 → r1 t = r t) → (∀ p, i ≤ p → p < 4 → r (169 + 4 * p + q) = 0) → P (31, 0, 0) (lo_hZ q i) [] r1 M := fun i r1 hi e1 f1 z => by
    refine henv _ _ _ _ _ (fun hE1 _ => ?_)
    obtain ⟨⟨b1, -⟩, -⟩ := ge_i32Z hE1
    rw [e1] at b1
    refine hseg _ _ _ _ _ r1 M _ _ _ _ _ (List.all_eq_true.mp c2 i (List.mem_range.mpr (by omega))) ⟨pt_m0, pt_m0, pt_m0⟩ ⟨fun _ => ?_, trivial⟩
    refine hret (32, 0, 0) _ (728, 0) r1 M rfl lo_kZ.1.1 (by decide +kernel) (by decide +kernel) ⟨congrArg some ?_, f1, rfl⟩
    show r1 728 + 0 = op_TZ r q 0
    have e4 := lo_ZZ b1.1 b1.2 z (4 - i) (by omega)
    rw [show i + (4 - i) = 4 by omega] at e4
    rw [Int.add_zero, e1, eT, e4]
  have key : ∀ d i r1, i + d = 4 → r1 728 = lo_SZ r q i → (∀ t, t < 727 → r1 t = r t) → P (4, 0, 0) (lo_hZ q i) [] r1 M := fun d => by
    induction d with
    | zero =>
      intro i r1 hi e1 f1
      have ei : i = 4 := by omega
      subst ei
      refine hseg _ _ _ _ _ r1 M _ _ _ _ _ c4 ⟨pt_m0, pt_m0, pt_m0⟩ ⟨fun _ => ?_, trivial⟩
      exact out 4 r1 (Nat.le_refl 4) e1 f1 (fun p a b => by omega)
    | succ d ih =>
      intro i r1 hi e1 f1
      have row := List.all_eq_true.mp c3 i (List.mem_range.mpr (by omega))
      rw [Bool.and_eq_true] at row
      have ep : r1 71 = r 71 := f1 _ (by omega)
      by_cases c : r 71 ≤ (i : Int)
      · refine hseg _ _ _ _ _ r1 M _ _ _ _ _ row.2 ⟨pt_m0, pt_m1 ⟨by show (0 : Int) ≤ r1 71; omega, by show r1 71 ≤ (i : Int); omega⟩, pt_m0⟩ ⟨fun _ => ?_, trivial⟩
        exact out i r1 (by omega) e1 f1 (fun p a b => pz p b (by omega))
      · refine hseg _ _ _ _ _ r1 M _ _ _ _ _ row.1 ⟨pt_m0, pt_m1 ⟨by show ((i + 1 : Nat) : Int) ≤ r1 71; omega, by show r1 71 ≤ 4; omega⟩, pt_m0⟩ ⟨fun _ => ?_, trivial⟩
        obtain ⟨r2, hr2⟩ : ∃ r2, r2 = pt_up r1 [(728, [(0, 728, 0), (0, 169 + 4 * i + q, 0), (2, 0, 0)])] := ⟨_, rfl⟩
        show P (4, 0, 0) (lo_hZ q (i + 1)) [] (pt_up r1 [(728, [(0, 728, 0), (0, 169 + 4 * i + q, 0), (2, 0, 0)])]) M
        rw [← hr2]
        have v2 : ∀ t, r2 t = if t = 728 then ai_op 0 (r1 728) (r1 (169 + 4 * i + q)) else r1 t := fun t => by
          rw [hr2]
          rfl
        refine ih (i + 1) r2 (by omega) ?_ (fun t a => ?_)
        · rw [v2, if_pos rfl, e1, f1 _ (by omega)]
          rfl
        · rw [v2, if_neg (by omega)]
          exact f1 t a
  refine hseg _ _ _ _ _ r M _ _ _ _ _ c1 ⟨pt_m0, pt_m0, pt_m0⟩ ⟨fun _ => ?_, trivial⟩
  obtain ⟨r2, hr2⟩ : ∃ r2, r2 = pt_up r [(728, gz_k 0)] := ⟨_, rfl⟩
  show P (4, 0, 0) (lo_hZ q 0) [] (pt_up r [(728, gz_k 0)]) M
  rw [← hr2]
  have v2 : ∀ t, r2 t = if t = 728 then 0 else r t := fun t => by
    rw [hr2]
    rfl
  exact key 4 0 r2 rfl (by rw [v2, if_pos rfl]; rfl) (fun t a => by rw [v2, if_neg (by omega)])
