/-! ASKED (the class): LM.asked, the law's helper -/
noncomputable def as_L (v : Nat) : List ai_V := [wa_r 16, wa_k v, wa_i 425, wa_i 426]
noncomputable def as_a : List ai_V := [wa_r 16, wa_i 424, wa_i 425, wa_i 426]
noncomputable def as_o : List ai_V := [wa_r 87, wa_i 426, .inl (0, -1)]
noncomputable def as_u (v : Nat) : List ai_V := [wa_r 87, wa_k v, wa_i 425]
theorem as_c : (List.range 4).all (fun v => pt_row gdY 143 [56] true (0, 0, 0) (as_L v) [] [] [(425, (1, 7)), (426, (0, 3)), (73, (.ofNat (v + 1), 4))] [((425, 0), (145 + v, 0))] [] [((56, 0, 0), (as_L v, [.inl (0, -1), wa_i 426, wa_r 87]), [], [])] && pt_row gdY 143 [65] false (59, 0, 0) (as_L v) [] [] [] [] [] [((65, 0, 0), (as_L v, [wa_i 425, wa_k v, wa_r 87]), [], [])]) = true := by decide +kernel
theorem as_k : (List.range 4).all (fun v => (cy_vk 143 56 4 gdY.2.1 [.inl (0, -1), wa_i 426, wa_r 87] as_o [] && pt_cck gdY 143 4 (56, 0, 0) 0 504 (as_L v) [] as_o op_a) && (cy_vk 143 65 6 gdY.2.1 [wa_i 425, wa_k v, wa_r 87] (as_u v) [] && pt_cck gdY 143 6 (65, 0, 0) 1 504 (as_L v) [] (as_u v) ao_a)) = true ∧ (pt_is 5 143 68 = true ∧ (ct_mt 143).2.2.1 = 4) ∧ lh_plain 143 = true ∧ ct_bud 143 = (1, 6) := by decide +kernel
/-- what is asked of a unit, told by how many units are asked for -/
noncomputable def as_v (A : Nat → Int) (u N : Nat) : Int := if u ≤ N then ai_op 1 (am_S A u) (am_S A (u - 1)) else -1
noncomputable def as_P (v u q : Nat) (l : Nat → List Int) (r : Nat → Int) (M : Nat → Nat → Int) : Prop := ((r 424 = (v : Int) ∧ (v : Int) + 1 ≤ r 73) ∧ (r 425 = (u : Int) ∧ r 425 ≤ r (145 + v)) ∧ r 426 = (q : Int)) ∧ op_O l r M
noncomputable def as_Q (v u q : Nat) (l : Nat → List Int) (r : Nat → Int) (M : Nat → Nat → Int) (r2 : Nat → Int) (M2 : Nat → Nat → Int) (o : Option Int) : Prop := o = some (as_v (am_A r (q : Int) (op_T r q 0) v (l v)) u (am_n (am_A r (q : Int) (op_T r q 0) v (l v)) (r (145 + v)).toNat)) ∧ (∀ t, t < 424 → ¬ op_ch t → r2 t = r t) ∧ ∀ z, (∀ v, v < 4 → z ≠ 49 + 6 * v ∧ z ≠ 91 + v) → M2 z = M z
theorem as_M {n v u q : Nat} {l : Nat → List Int} (hn : 4 ≤ n) (hv : v < 4) (hu : 1 ≤ u ∧ u ≤ 7) (hq : q < 4) (hw : op_wf l) : pt_Met (n + 1 + 1 + 1 + 1 + 1 + 1) 143 gdY as_a (as_P v u q l) (as_Q v u q l) 1 := by
  refine pt_intro (L0 := as_a) as_k.2.2.1 (by omega) gdsys (by
    rw [as_k.2.1.2]
    rfl) (fun P r M h hp => ?_)
  have h' := h
  obtain ⟨hseg, henv, hrel, -, -, -, -, -, hcall, -, hret, -⟩ := h'
  obtain ⟨⟨⟨p1, p2⟩, ⟨p3, p4⟩, p5⟩, p6⟩ := hp
  refine henv _ _ _ _ _ (fun hE _ => ?_)
  have h0 : r 0 = 0 := hE.1
  have bMI : (0 : Int) ≤ r 73 ∧ r 73 ≤ 4 := (hE.2.2.2.1 _ op_bd).2
  refine hrel (0, 0, 0) _ (as_L v) [] [] r M ⟨rfl, ⟨by show 0 < 524; omega, by show r 424 + 0 = r 0 + (v : Int); omega⟩, ⟨by show 425 < 524; omega, rfl⟩, ⟨by show 426 < 524; omega, rfl⟩, trivial⟩ trivial ?_
  have rows := List.all_eq_true.mp as_c v (List.mem_range.mpr hv)
  rw [Bool.and_eq_true] at rows
  have ck := List.all_eq_true.mp as_k.1 v (List.mem_range.mpr hv)
  simp only [Bool.and_eq_true] at ck
  obtain ⟨⟨k1, k2⟩, k3, k4⟩ := ck
  refine hseg _ _ _ _ _ r M _ _ _ _ _ rows.1 ⟨pt_m0, pt_m3 ⟨by show (1 : Int) ≤ r 425; omega, by show r 425 ≤ 7; omega⟩ ⟨by show (0 : Int) ≤ r 426; omega, by show r 426 ≤ 3; omega⟩ ⟨by show ((v + 1 : Nat) : Int) ≤ r 73; omega, by show r 73 ≤ 4; omega⟩, pt_m1 (by show r 425 + 0 ≤ r (145 + v) + 0; omega)⟩ ⟨fun _ => ?_, trivial⟩
  show P (56, 0, 0) (as_L v) [.inl (0, -1), wa_i 426, wa_r 87] r M
  obtain ⟨r6, hr6⟩ : ∃ r6, r6 = pt_up r (pt_wc as_o op_a) := ⟨_, rfl⟩
  have v6 : ∀ t, r6 t = if t = 424 then r 426 else if t = 425 then -1 else r t := fun t => by
    rw [hr6]
    rfl
  have f6 : ∀ t, t < 424 → r6 t = r t := fun t ht => by rw [v6, if_neg (by omega), if_neg (by omega)]
  have eT : op_T r6 q 0 = op_T r q 0 := by
    have e : ∀ p, p < 4 → op_l r6 q 0 p = op_l r q 0 p := fun p hp => by
      unfold op_l
      rw [f6 _ (by omega)]
    unfold op_T
    rw [e 0 (by omega), e 1 (by omega), e 2 (by omega), e 3 (by omega)]
  have eA : am_A r6 (q : Int) (op_T r6 q 0) v (l v) = am_A r (q : Int) (op_T r q 0) v (l v) := by
    rw [eT]
    unfold am_A
    funext x
    refine congrArg (fun V => av_ask V (l v)) ?_
    funext j
    unfold aV
    rw [f6 _ (by omega), f6 _ (by omega)]
  refine hcall (56, 0, 0) _ _ _ _ _ r M 4 0 504 _ _ op_k.2.2.1 k1 k2 (op_M (n := n) (q := q) (k := 0) (l := l) hn hq (by omega) hw) (by
    rw [← hr6]
    refine ⟨⟨?_, ?_⟩, fun w hw4 => ?_⟩
    · rw [v6, if_pos rfl]
      exact p5
    · rw [v6, if_neg (by omega), if_pos rfl]
      rfl
    · obtain ⟨o1, o2⟩ := p6 w hw4
      exact ⟨(f6 _ (by unfold aw_o; omega)).trans o1, o2⟩) (fun r7 M7 o hq7 => ?_)
  rw [← hr6] at hq7
  obtain ⟨rc, rs⟩ := wa_rm (n := n + 1 + 1 + 1 + 1 + 1) op_k.2.2.2
  rw [rc, rs]
  obtain ⟨rfl, -, y2, y3, y4⟩ := hq7
  obtain ⟨d1, d2⟩ := y2 v hv
  have en : op_n r6 (q : Int) (op_T r6 q 0) l v = am_n (am_A r (q : Int) (op_T r q 0) v (l v)) (r (145 + v)).toNat := by
    unfold op_n
    rw [if_pos (by rw [f6 _ (by omega)]; omega), eA, f6 _ (by omega)]
  rw [en] at d1 d2
  rw [eA] at d2
  obtain ⟨r8, hr8⟩ : ∃ r8, r8 = pt_mrg 424 r r7 504 none := ⟨_, rfl⟩
  show P (59, 0, 0) (as_L v) [] (pt_mrg 424 r r7 504 none) _
  rw [← hr8]
  have lo8 : ∀ t, t < 424 → r8 t = r7 t := fun t ht => by
    rw [hr8]
    exact wa_mlt ht
  have l8 : r8 425 = r 425 := by
    rw [hr8]
    exact if_neg (by omega)
  refine hseg _ _ _ _ _ r8 M7 _ _ _ _ _ rows.2 ⟨pt_m0, pt_m0, pt_m0⟩ ⟨fun _ => ?_, trivial⟩
  show P (65, 0, 0) (as_L v) [wa_i 425, wa_k v, wa_r 87] r8 M7
  refine henv _ _ _ _ _ (fun hE8 _ => ?_)
  obtain ⟨r9, hr9⟩ : ∃ r9, r9 = pt_up r8 (pt_wc (as_u v) ao_a) := ⟨_, rfl⟩
  have v9 : ∀ t, r9 t = if t = 424 then (v : Int) else if t = 425 then r8 425 else r8 t := fun t => by
    have e : pt_v r8 (pt_xr (0, .ofNat v)) = (v : Int) := by
      rw [pt_xr_ok hE8.1]
      show r8 0 + (v : Int) = v
      rw [hE8.1, Int.zero_add]
    rw [hr9, ← e]
    rfl
  refine hcall (65, 0, 0) _ _ _ _ _ r8 M7 6 1 504 _ _ ao_k.2.2.1 k3 k4 (ao_M (n := n + 1 + 1 + 1 + 1) (v := v) (u := u) (N := am_n (am_A r (q : Int) (op_T r q 0) v (l v)) (r (145 + v)).toNat) (S := am_S (am_A r (q : Int) (op_T r q 0) v (l v))) (by omega) hv hu) (by
    rw [← hr9]
    refine ⟨⟨?_, ?_⟩, ?_, d2⟩
    · rw [v9, if_pos rfl]
    · rw [v9, if_neg (by omega), if_pos rfl, l8]
      exact p3
    · rw [v9, if_neg (by omega), if_neg (by omega), lo8 _ (by omega)]
      exact d1) (fun ra Ma o hqa => ?_)
  rw [← hr9] at hqa
  obtain ⟨rc2, rs2⟩ := wa_rm (n := n + 1 + 1 + 1 + 1 + 1) ao_k.2.2.2
  rw [rc2, rs2]
  obtain ⟨rfl, z2, rfl⟩ := hqa
  obtain ⟨rb, hrb⟩ : ∃ rb, rb = pt_mrg 424 r8 ra 504 (some (as_v (am_A r (q : Int) (op_T r q 0) v (l v)) u (am_n (am_A r (q : Int) (op_T r q 0) v (l v)) (r (145 + v)).toNat))) := ⟨_, rfl⟩
  show P (68, 0, 0) (as_L v) [.inl (504, 0)] (pt_mrg 424 r8 ra 504 (some (as_v (am_A r (q : Int) (op_T r q 0) v (l v)) u (am_n (am_A r (q : Int) (op_T r q 0) v (l v)) (r (145 + v)).toNat)))) _
  rw [← hrb]
  refine hret (68, 0, 0) _ (504, 0) rb _ rfl as_k.2.1.1 (by decide +kernel) (by decide +kernel) ⟨congrArg some ?_, fun t a b => ?_, y4⟩
  · show rb 504 + 0 = _
    rw [Int.add_zero, hrb]
    exact wa_mz (by omega)
  · rw [hrb, wa_mlt a, z2 t a, v9, if_neg (by omega), if_neg (by omega), lo8 t a, y3 t a b]
    exact f6 t a
noncomputable def ah_L : List ai_V := [wa_r 16, wa_i 424, wa_i 425, wa_i 426, wa_r 335, wa_u]
noncomputable def ah_S : List ai_V := [wa_i 426, wa_i 425, wa_i 424, wa_r 16, .inl (0, 0), wa_r 335]
noncomputable def ah_T : List ai_V := [.inl (0, 0), wa_r 335]
theorem ah_c : pt_row gdY 264 [7] true (0, 0, 0) ah_L [] [] [] [] [] [((7, 0, 0), (ah_L, ah_S), [], [])] = true ∧ pt_row gdY 264 [20] false (10, 1, 6) ah_L (wa_i 504 :: ah_T) [] [] [] [] [((20, 1, 6), (ah_L, [.inl (0, 0)]), [(390, gz_p 504)], [])] = true := by decide +kernel
theorem ah_k : ((cy_vk 264 7 143 gdY.2.1 ah_S as_a ah_T && pt_cck gdY 264 143 (7, 0, 0) 1 504 ah_L ah_T as_a as_a) = true ∧ pt_is 5 264 20 = true ∧ (ct_mt 264).2.2.1 = 6) ∧ lh_plain 264 = true ∧ ct_bud 264 = (1, 6) := by decide +kernel
theorem ah_self {r : Nat → Int} (h0 : r 0 = 0) : pt_up r (pt_wc as_a as_a) = r := wa_up_self h0 (fun q hq => by
  have hq : q ∈ [(424, pt_xr (424, 0)), (425, pt_xr (425, 0)), (426, pt_xr (426, 0))] := hq
  simp only [List.mem_cons, List.not_mem_nil, or_false] at hq
  rcases hq with rfl | rfl | rfl <;> rfl)
noncomputable def ah_Q (v u q : Nat) (l : Nat → List Int) (r : Nat → Int) (M : Nat → Nat → Int) (r2 : Nat → Int) (M2 : Nat → Nat → Int) (o : Option Int) : Prop := o = some 0 ∧ r2 390 = as_v (am_A r (q : Int) (op_T r q 0) v (l v)) u (am_n (am_A r (q : Int) (op_T r q 0) v (l v)) (r (145 + v)).toNat) ∧ (∀ t, t < 424 → ¬ op_ch t → t ≠ 390 → r2 t = r t) ∧ ∀ z, (∀ v, v < 4 → z ≠ 49 + 6 * v ∧ z ≠ 91 + v) → M2 z = M z
theorem ah_M {n v u q : Nat} {l : Nat → List Int} (hn : 4 ≤ n) (hv : v < 4) (hu : 1 ≤ u ∧ u ≤ 7) (hq : q < 4) (hw : op_wf l) : pt_Met (n + 1 + 1 + 1 + 1 + 1 + 1 + 1) 264 gdY (as_a ++ [wa_r 335]) (as_P v u q l) (ah_Q v u q l) 1 := by
  refine pt_intro (L0 := ah_L) ah_k.2.1 (by omega) gdsys (by
    rw [ah_k.1.2.2]
    rfl) (fun P r M h hp => ?_)
  obtain ⟨hseg, henv, -, -, -, -, -, -, hcall, -, hret, -, -, -⟩ := h
  refine henv _ _ _ _ _ (fun hE _ => ?_)
  have h0 : r 0 = 0 := hE.1
  obtain ⟨c1, c2⟩ := ah_c
  refine hseg _ _ _ _ _ r M _ _ _ _ _ c1 ⟨pt_m0, pt_m0, pt_m0⟩ ⟨fun _ => ?_, trivial⟩
  show P (7, 0, 0) ah_L ah_S r M
  have ck := ah_k.1.1
  rw [Bool.and_eq_true] at ck
  refine hcall (7, 0, 0) _ _ _ _ _ r M 143 1 504 _ _ as_k.2.2.1 ck.1 ck.2 (as_M (n := n) (v := v) (u := u) (q := q) (l := l) hn hv hu hq hw) (by
    rw [ah_self h0]
    exact hp) (fun r1 M1 o hQ => ?_)
  rw [ah_self h0] at hQ
  obtain ⟨rc, rs⟩ := wa_rm (n := n + 1 + 1 + 1 + 1 + 1 + 1) as_k.2.2.2
  rw [rc, rs]
  obtain ⟨rfl, f2, g2⟩ := hQ
  obtain ⟨x, hx⟩ : ∃ x, x = as_v (am_A r (q : Int) (op_T r q 0) v (l v)) u (am_n (am_A r (q : Int) (op_T r q 0) v (l v)) (r (145 + v)).toNat) := ⟨_, rfl⟩
  rw [← hx]
  obtain ⟨r4, hr4⟩ : ∃ r4, r4 = pt_mrg 424 r r1 504 (some x) := ⟨_, rfl⟩
  show P (10, 1, 6) ah_L (wa_i 504 :: ah_T) (pt_mrg 424 r r1 504 (some x)) M1
  rw [← hr4]
  have lo4 : ∀ t, t < 424 → r4 t = r1 t := fun t ht => by
    rw [hr4]
    exact wa_mlt ht
  have z4 : r4 504 = x := by
    rw [hr4]
    exact wa_mz (by omega)
  refine henv _ _ _ _ _ (fun hE1 _ => ?_)
  refine hseg _ _ _ _ _ r4 M1 _ _ _ _ _ c2 ⟨pt_m0, pt_m0, pt_m0⟩ ⟨fun _ => ?_, trivial⟩
  obtain ⟨r5, hr5⟩ : ∃ r5, r5 = pt_up r4 [(390, gz_p 504)] := ⟨_, rfl⟩
  show P (20, 1, 6) ah_L [.inl (0, 0)] (pt_up r4 [(390, gz_p 504)]) M1
  rw [← hr5]
  have n5 : ∀ t, t ≠ 390 → r5 t = r4 t := fun t a => by
    rw [hr5]
    exact if_neg a
  have a5 : r5 390 = x := by
    rw [hr5]
    exact z4
  refine hret (20, 1, 6) _ (0, 0) r5 M1 rfl ah_k.1.2.1 (by decide +kernel) (by decide +kernel) ⟨congrArg some ?_, a5.trans hx, fun t a b c => (n5 t c).trans ((lo4 t a).trans (f2 t a b)), g2⟩
  show r5 0 + 0 = 0
  rw [n5 0 (by omega), hE1.1]
  rfl
