/-! THE NETS (the reference): the pushes, put in -/
theorem zn_p3 {v : Nat} (h : v < 6) : zn_p3_g v = true := by
  rcases (by omega : v = 0 ∨ v = 1 ∨ v = 2 ∨ v = 3 ∨ v = 4 ∨ v = 5) with rfl | rfl | rfl | rfl | rfl | rfl
  · exact zn_p3_0
  · exact zn_p3_1
  · exact zn_p3_2
  · exact zn_p3_3
  · exact zn_p3_4
  · exact zn_p3_5
theorem zn_p5 {v : Nat} (h : v < 6) : zn_p5_g v = true := by
  rcases (by omega : v = 0 ∨ v = 1 ∨ v = 2 ∨ v = 3 ∨ v = 4 ∨ v = 5) with rfl | rfl | rfl | rfl | rfl | rfl
  · exact zn_p5_0
  · exact zn_p5_1
  · exact zn_p5_2
  · exact zn_p5_3
  · exact zn_p5_4
  · exact zn_p5_5
theorem zn_p6 {v : Nat} (h : v < 6) : zn_p6_g v = true := by
  rcases (by omega : v = 0 ∨ v = 1 ∨ v = 2 ∨ v = 3 ∨ v = 4 ∨ v = 5) with rfl | rfl | rfl | rfl | rfl | rfl
  · exact zn_p6_0
  · exact zn_p6_1
  · exact zn_p6_2
  · exact zn_p6_3
  · exact zn_p6_4
  · exact zn_p6_5
theorem zn_p7 {v : Nat} (h : v < 6) : zn_p7_g v = true := by
  rcases (by omega : v = 0 ∨ v = 1 ∨ v = 2 ∨ v = 3 ∨ v = 4 ∨ v = 5) with rfl | rfl | rfl | rfl | rfl | rfl
  · exact zn_p7_0
  · exact zn_p7_1
  · exact zn_p7_2
  · exact zn_p7_3
  · exact zn_p7_4
  · exact zn_p7_5
theorem zn_pk {v : Nat} (h : v < 6) : zn_pk_g v = true := by
  rcases (by omega : v = 0 ∨ v = 1 ∨ v = 2 ∨ v = 3 ∨ v = 4 ∨ v = 5) with rfl | rfl | rfl | rfl | rfl | rfl
  · exact zn_pk_0
  · exact zn_pk_1
  · exact zn_pk_2
  · exact zn_pk_3
  · exact zn_pk_4
  · exact zn_pk_5
/-- a push of a view: what a line's flow is for a unit put in at a place -/
noncomputable def zn_P (r : Nat → Int) (v i j : Nat) : Int := rb_pv (rb_fin (zn_r r v)) i j
noncomputable def zn_D (r : Nat → Int) (v : Nat) : Int := rb_D (zn_r r v)
noncomputable def zn_sm (v : Nat) (r1 r' : Nat → Int) : Prop := ∀ t, t < 727 → ¬ (580 + 20 * v ≤ t ∧ t < 580 + 20 * v + 20) → r' t = r1 t
noncomputable def zn_dn (v : Nat) (r r1 r' : Nat → Int) (i j : Nat) : Prop := ∀ i' j' : Nat, (i' : Int) + 1 ≤ r1 72 → (j' : Int) + 1 ≤ r1 71 → (i' < i ∨ (i' = i ∧ j' < j)) → r' (580 + zn_x v i' j') = zn_P r v i' j'
/-- behind the matrix: its numbers, the rest as it was -/
noncomputable def zn_bm (v : Nat) (r r1 : Nat → Int) : Prop := (∀ q, q < 16 → r1 (390 + q) = rb_mx (zn_r r v) 5 q) ∧ ∀ t, t < 727 → ¬ (390 ≤ t ∧ t < 390 + 16) → t ≠ 574 + v → r1 t = r t
theorem zn_hxv {v : Nat} {r r1 s : Nat → Int} (h : zn_bm v r r1) (hs : ∀ t, 390 ≤ t → t < 390 + 16 → s t = r1 t) {p i j : Nat} (hp : p < 4) (hi : i < p + 1) (hj : j < p + 1) : pt_v s (rb_hx (p + 1) i j) = pt_v (rb_fin (zn_r r v)) (rb_hx (p + 1) i j) := rb_in_c (rb_in_hx hp hi hj) (fun t t1 t2 => by
  rw [hs t t1 (by omega)]
  have g := h.1 (t - 390) (by omega)
  rw [show 390 + (t - 390) = t by omega] at g
  rw [g]
  exact (if_pos ⟨t1, t2⟩).symm)
section ZNP
variable {n v : Nat} {P : pt_P} {r r1 : Nat → Int} {M : Nat → Nat → Int} {Z : (Nat → Int) → (Nat → Nat → Int) → Option Int → Prop}
theorem zn_push (hn : 4 ≤ n) (h : pt_Cl (n + 1) 213 zyY 0 Z P) (hv : v < 6) (hH : zn_H r) (hb : zn_bm v r r1) {i j : Nat} {r' : Nat → Int} (hi : (i : Int) + 1 ≤ r1 72) (hj : (j : Int) + 1 ≤ r1 71) (hs : zn_sm v r1 r') (hd : zn_dn v r r1 r' i j) (kk : ∀ r2, zn_sm v r1 r2 → zn_dn v r r1 r2 i (j + 1) → P (214, 0, 0) (zn_pL v i (wa_k (j + 1))) [] r2 M) : P (214, 0, 0) (zn_pL v i (wa_k j)) [] r' M := by
  obtain ⟨hseg, henv, hrel, hval, -, -, -, -, hcall, -⟩ := h
  refine henv _ _ _ _ _ (fun hE _ => ?_)
  have h0 : r' 0 = 0 := hE.1
  obtain ⟨hok, hbd, bL, bP⟩ := hH
  have kp : ∀ t, t < 727 → ¬ (390 ≤ t ∧ t < 390 + 16) → ¬ (574 ≤ t ∧ t < 574 + 6) → ¬ (580 ≤ t ∧ t < 580 + 120) → r' t = r t ∧ r1 t = r t := fun t a b c e => by
    have e2 := hb.2 t a b (by omega)
    exact ⟨(hs t a (by omega)).trans e2, e2⟩
  have eL := kp 72 (by omega) (by omega) (by omega) (by omega)
  have eP := kp 71 (by omega) (by omega) (by omega) (by omega)
  have i5 : i < 5 := by omega
  have j4 : j < 4 := by omega
  obtain ⟨b4, b5, b6⟩ := hbd i i5
  have e4 := (kp (113 + i) (by omega) (by omega) (by omega) (by omega)).1
  have e5 := (kp (118 + i) (by omega) (by omega) (by omega) (by omega)).1
  have e6 := (kp (123 + i) (by omega) (by omega) (by omega) (by omega)).1
  obtain ⟨p, hp⟩ : ∃ p : Nat, r 71 = ((p + 1 : Nat) : Int) := ⟨(r 71).toNat - 1, by omega⟩
  have p4 : p < 4 := by omega
  have bj : ((j + 1 : Nat) : Int) ≤ r' 71 ∧ r' 71 ≤ 4 := by omega
  have z0 : ∀ t, t < 123 ∨ 123 + 5 ≤ t → zn_r r v t = r t := fun t ht => by
    unfold zn_r
    rw [if_neg (by omega)]
  have fo : ∀ t, ¬ (390 ≤ t ∧ t < 406) → rb_fin (zn_r r v) t = zn_r r v t := fun t ht => if_neg ht
  have ePv : zn_P r v i j = ai_op 22 (zn_r r v (123 + i)) (ai_op 21 (pt_v (rb_fin (zn_r r v)) (rb_hx (p + 1) (r (113 + i)).toNat j)) (pt_v (rb_fin (zn_r r v)) (rb_hx (p + 1) (r (118 + i)).toNat j))) := by
    unfold zn_P rb_pv
    rw [fo (123 + i) (by omega), fo 71 (by omega), fo (113 + i) (by omega), fo (118 + i) (by omega), z0 71 (by omega), z0 (113 + i) (by omega), z0 (118 + i) (by omega), hp]
    rfl
  by_cases cv : v = i + 1
  · have row := List.all_eq_true.mp (List.all_eq_true.mp zn_p4 i (List.mem_range.mpr i5)) j (List.mem_range.mpr j4)
    rw [← cv] at row
    refine hseg _ _ _ _ _ _ _ _ _ _ _ _ row ⟨pt_m0, pt_m1 bj, pt_m0⟩ ⟨fun _ => ?_, trivial⟩
    have up : ∀ t, pt_up r' [(580 + zn_x v i j, ra_c 0)] t = if t = 580 + zn_x v i j then 0 else r' t := fun t => rfl
    refine kk _ (fun t ht hn => ?_) (fun i' j' hi' hj' hlt => ?_)
    · refine (up t).trans ?_
      rw [if_neg (by unfold zn_x; omega)]
      exact hs t ht hn
    · refine (up _).trans ?_
      by_cases e : i' = i ∧ j' = j
      · obtain ⟨rfl, rfl⟩ := e
        rw [if_pos rfl, ePv, show zn_r r v (123 + i') = 0 from if_pos ⟨by omega, by omega⟩]
        show (0 : Int) = (0 * _ : Int).bmod 18446744073709551616
        rw [Int.zero_mul]
        rfl
      · rw [if_neg (by unfold zn_x; omega)]
        exact hd i' j' hi' hj' (by omega)
  have zst : zn_r r v (123 + i) = r (123 + i) := if_neg (by omega)
  obtain ⟨a, ha⟩ : ∃ a : Nat, r' (113 + i) = (a : Int) := ⟨(r' (113 + i)).toNat, by omega⟩
  obtain ⟨c, hc⟩ : ∃ c : Nat, r' (118 + i) = (c : Int) := ⟨(r' (118 + i)).toNat, by omega⟩
  obtain ⟨-, o2, o3⟩ := hok i i5 (by omega)
  have a4 : a < p + 1 := by omega
  have c4 : c < p + 1 := by omega
  rw [← e4, ← e5, ha, hc, zst, ← e6] at ePv
  have ePv : zn_P r v i j = ai_op 22 (r' (123 + i)) (ai_op 21 (pt_v (rb_fin (zn_r r v)) (rb_hx (p + 1) a j)) (pt_v (rb_fin (zn_r r v)) (rb_hx (p + 1) c j))) := ePv
  have row5 := List.all_eq_true.mp (zn_p5 hv) i (List.mem_range.mpr i5)
  rw [Bool.or_eq_true] at row5
  rcases row5 with row5 | row5
  · exact absurd (Nat.eq_of_beq_eq_true row5) cv
  have row5 := List.all_eq_true.mp (List.all_eq_true.mp row5 a (List.mem_range.mpr (by omega))) j (List.mem_range.mpr j4)
  have row6 := List.all_eq_true.mp (List.all_eq_true.mp (List.all_eq_true.mp (zn_p6 hv) i (List.mem_range.mpr i5)) c (List.mem_range.mpr (by omega))) j (List.mem_range.mpr j4)
  have row7 := List.all_eq_true.mp (List.all_eq_true.mp (zn_p7 hv) i (List.mem_range.mpr i5)) j (List.mem_range.mpr j4)
  have ka := List.all_eq_true.mp (List.all_eq_true.mp (List.all_eq_true.mp (zn_pk hv) i (List.mem_range.mpr i5)) a (List.mem_range.mpr (by omega))) j (List.mem_range.mpr j4)
  have kc := List.all_eq_true.mp (List.all_eq_true.mp (List.all_eq_true.mp (zn_pk hv) i (List.mem_range.mpr i5)) c (List.mem_range.mpr (by omega))) j (List.mem_range.mpr j4)
  simp only [Bool.and_eq_true] at ka kc
  obtain ⟨⟨ka1, ka2⟩, -⟩ := ka
  obtain ⟨-, kc1, kc2⟩ := kc
  obtain ⟨rc, rs⟩ := wa_rm (n := n + 1) zn_pl.1.2.1
  have wv : ∀ (s : Nat → Int) (x t : Nat), t < 727 → pt_up s (pt_wc [wa_r 264, wa_k x, wa_k j] [wa_r 264, wa_i 727, wa_i 728]) t = s t := fun s x t ht => by
    show (if t = 727 then _ else if t = 728 then _ else s t) = s t
    rw [if_neg (by omega), if_neg (by omega)]
  have w1 : ∀ (s : Nat → Int) (x : Nat), pt_up s (pt_wc [wa_r 264, wa_k x, wa_k j] [wa_r 264, wa_i 727, wa_i 728]) 727 = (x : Int) := fun s x => rfl
  have w2 : ∀ (s : Nat → Int) (x : Nat), pt_up s (pt_wc [wa_r 264, wa_k x, wa_k j] [wa_r 264, wa_i 727, wa_i 728]) 728 = (j : Int) := fun s x => rfl
  have mx' : ∀ t, 390 ≤ t → t < 390 + 16 → r' t = r1 t := fun t t1 t2 => hs t (by omega) (by omega)
  -- the number of a height
  have hvl : ∀ (s : Nat → Int) (x : Nat), (∀ t, t < 727 → s t = r' t) → x < p + 1 → pt_v (pt_up s (pt_wc [wa_r 264, wa_k x, wa_k j] [wa_r 264, wa_i 727, wa_i 728])) (rb_hx (pt_up s (pt_wc [wa_r 264, wa_k x, wa_k j] [wa_r 264, wa_i 727, wa_i 728]) 71).toNat (pt_up s (pt_wc [wa_r 264, wa_k x, wa_k j] [wa_r 264, wa_i 727, wa_i 728]) 727).toNat (pt_up s (pt_wc [wa_r 264, wa_k x, wa_k j] [wa_r 264, wa_i 727, wa_i 728]) 728).toNat) = pt_v (rb_fin (zn_r r v)) (rb_hx (p + 1) x j) := fun s x hs2 hx => by
    rw [w1, w2, wv s x _ (by omega), hs2 _ (by omega), eP.1, hp]
    show pt_v _ (rb_hx (p + 1) x j) = _
    exact zn_hxv hb (fun t t1 t2 => by rw [wv s x t (by omega), hs2 t (by omega)]; exact mx' t t1 t2) p4 hx (by omega)
  refine hseg _ _ _ _ _ _ _ _ _ _ _ _ row5 ⟨pt_m1 ha, pt_m1 bj, pt_m0⟩ ⟨fun _ => ?_, trivial⟩
  obtain ⟨s1, hs1⟩ : ∃ s1, s1 = pt_up r' [(113 + i, ra_c a), (727 + 91, ra_s (123 + i))] := ⟨_, rfl⟩
  show P (264, 0, 0) (zn_pL v i (wa_k j)) (wa_k j :: wa_k a :: wa_r 264 :: zn_S0 v i j) (pt_up r' [(113 + i, ra_c a), (727 + 91, ra_s (123 + i))]) M
  have u1 : ∀ t, s1 t = if t = 727 + 91 then r' (123 + i) else r' t := fun t => by
    have e : s1 t = if t = 113 + i then (a : Int) else if t = 727 + 91 then r' (123 + i) else r' t := by
      rw [hs1]
      rfl
    rw [e]
    by_cases q : t = 113 + i
    · rw [if_pos q, if_neg (by omega), q, ha]
    · rw [if_neg q]
  have g1 : ∀ t, t < 727 → s1 t = r' t := fun t ht => by rw [u1, if_neg (by omega)]
  rw [← hs1]
  refine hcall (264, 0, 0) _ _ _ _ _ s1 M 212 2 (727 + 90) _ _ zn_pl.1.1.1 ka1 ka2 (zn_height hn) ⟨by rw [w1, wv _ _ _ (by omega), g1 _ (by omega)]; omega, by rw [w2, wv _ _ _ (by omega), g1 _ (by omega)]; omega⟩ (fun r2 M1 o hq => ?_)
  obtain ⟨o1, x2, x3⟩ := hq
  rw [hvl s1 a g1 a4] at o1
  subst o1
  rw [rc, rs, x2]
  obtain ⟨s2, hs2⟩ : ∃ s2, s2 = pt_mrg 727 s1 r2 (727 + 90) (some (pt_v (rb_fin (zn_r r v)) (rb_hx (p + 1) a j))) := ⟨_, rfl⟩
  show P (267, 0, 0) (zn_pL v i (wa_k j)) (zn_Q0 :: zn_S0 v i j) (pt_mrg 727 s1 r2 (727 + 90) (some (pt_v (rb_fin (zn_r r v)) (rb_hx (p + 1) a j)))) M
  rw [← hs2]
  have g2 : ∀ t, t < 727 → s2 t = r' t := fun t ht => by rw [hs2, wa_mlt ht, x3 t ht, wv _ _ t ht, g1 t ht]
  have q2 : s2 (727 + 90) = pt_v (rb_fin (zn_r r v)) (rb_hx (p + 1) a j) := by rw [hs2]; exact wa_mz (by omega)
  have q3 : s2 (727 + 91) = r' (123 + i) := by
    rw [hs2]
    show (if 727 + 91 < 727 then _ else if 727 + 91 = 727 + 90 then _ else s1 (727 + 91)) = _
    rw [if_neg (by omega), if_neg (by omega), u1, if_pos rfl]
  refine hseg _ _ _ _ _ _ _ _ _ _ _ _ row6 ⟨pt_m1 ((g2 _ (by omega)).trans hc), pt_m0, pt_m0⟩ ⟨fun _ => ?_, trivial⟩
  have up6 : pt_up s2 [(118 + i, ra_c c)] = s2 := by
    funext t
    show (if t = 118 + i then (c : Int) else s2 t) = s2 t
    by_cases e : t = 118 + i
    · rw [if_pos e, e, g2 _ (by omega), hc]
    · rw [if_neg e]
  show P (276, 0, 0) (zn_pL v i (wa_k j)) (wa_k j :: wa_k c :: wa_r 264 :: zn_Q0 :: zn_S0 v i j) (pt_up s2 [(118 + i, ra_c c)]) M
  rw [up6]
  refine hcall (276, 0, 0) _ _ _ _ _ s2 M 212 2 (727 + 92) _ _ zn_pl.1.1.1 kc1 kc2 (zn_height hn) ⟨by rw [w1, wv _ _ _ (by omega), g2 _ (by omega)]; omega, by rw [w2, wv _ _ _ (by omega), g2 _ (by omega)]; omega⟩ (fun r4 M2 o hq => ?_)
  obtain ⟨o1, x4, x5⟩ := hq
  rw [hvl s2 c g2 c4] at o1
  subst o1
  rw [rc, rs, x4]
  obtain ⟨s4, hs4⟩ : ∃ s4, s4 = pt_mrg 727 s2 r4 (727 + 92) (some (pt_v (rb_fin (zn_r r v)) (rb_hx (p + 1) c j))) := ⟨_, rfl⟩
  show P (279, 0, 0) (zn_pL v i (wa_k j)) (zn_Q2 :: zn_Q0 :: zn_S0 v i j) (pt_mrg 727 s2 r4 (727 + 92) (some (pt_v (rb_fin (zn_r r v)) (rb_hx (p + 1) c j)))) M
  rw [← hs4]
  have g4 : ∀ t, t < 727 → s4 t = r' t := fun t ht => by rw [hs4, wa_mlt ht, x5 t ht, wv _ _ t ht, g2 t ht]
  have ne : ∀ t, 727 ≤ t → t ≠ 727 + 92 → s4 t = s2 t := fun t a b => by
    rw [hs4]
    show (if t < 727 then _ else if t = 727 + 92 then _ else s2 t) = _
    rw [if_neg (by omega), if_neg b]
  have q4 : s4 (727 + 92) = pt_v (rb_fin (zn_r r v)) (rb_hx (p + 1) c j) := by rw [hs4]; exact wa_mz (by omega)
  have q5 : s4 (727 + 90) = pt_v (rb_fin (zn_r r v)) (rb_hx (p + 1) a j) := (ne _ (by omega) (by omega)).trans q2
  have q6 : s4 (727 + 91) = r' (123 + i) := (ne _ (by omega) (by omega)).trans q3
  refine hseg _ _ _ _ _ _ _ _ _ _ _ _ row7 ⟨pt_m0, pt_m0, pt_m0⟩ ⟨fun _ => ?_, trivial⟩
  have up : ∀ t, pt_up s4 [(580 + zn_x v i j, zn_fx)] t = if t = 580 + zn_x v i j then ai_op 22 (s4 (727 + 91)) (ai_op 21 (s4 (727 + 90)) (s4 (727 + 92))) else s4 t := fun t => rfl
  refine kk _ (fun t ht hn => ?_) (fun i' j' hi' hj' hlt => ?_)
  · refine (up t).trans ?_
    rw [if_neg (by unfold zn_x; omega), g4 t ht]
    exact hs t ht hn
  · refine (up _).trans ?_
    by_cases e : i' = i ∧ j' = j
    · obtain ⟨rfl, rfl⟩ := e
      rw [if_pos rfl, q4, q5, q6, ePv]
    · rw [if_neg (by unfold zn_x; omega), g4 _ (by unfold zn_x; omega)]
      exact hd i' j' hi' hj' (by omega)
theorem zn_jloop (hn : 4 ≤ n) (h : pt_Cl (n + 1) 213 zyY 0 Z P) (hv : v < 6) (hH : zn_H r) (hb : zn_bm v r r1) {i : Nat} (hi : (i : Int) + 1 ≤ r1 72) (i5 : i < 5) (kk : ∀ r2, zn_sm v r1 r2 → zn_dn v r r1 r2 (i + 1) 0 → P (203, 0, 0) (zn_pL v (i + 1) wa_u) [] r2 M) : ∀ (d j : Nat) (r' : Nat → Int), j + d = 4 → zn_sm v r1 r' → zn_dn v r r1 r' i j → P (214, 0, 0) (zn_pL v i (wa_k j)) [] r' M := by
  have eP1 : r1 71 = r 71 := hb.2 _ (by omega) (by omega) (by omega)
  have bP := hH.2.2.2
  have fin : ∀ (j : Nat) (r' : Nat → Int), j ≤ 4 → r1 71 ≤ (j : Int) → zn_sm v r1 r' → zn_dn v r r1 r' i j → P (214, 0, 0) (zn_pL v i (wa_k j)) [] r' M := fun j r' hj hp hs hd => by
    have eP : r' 71 = r1 71 := hs _ (by omega) (by omega)
    refine h.1 _ _ _ _ _ _ _ _ _ _ _ _ (List.all_eq_true.mp (List.all_eq_true.mp (zn_p3 hv) i (List.mem_range.mpr i5)) j (List.mem_range.mpr (by omega))) ⟨pt_m0, pt_m1 ⟨by show 0 ≤ r' 71; omega, by show r' 71 ≤ (j : Int); omega⟩, pt_m0⟩ ⟨fun _ => ?_, trivial⟩
    exact kk _ hs (fun i' j' h1 h2 h3 => hd i' j' h1 h2 (by omega))
  intro d
  induction d with
  | zero => exact fun j r' hd hs hdn => fin j r' (by omega) (by omega) hs hdn
  | succ d ih =>
    intro j r' hd hs hdn
    by_cases hp : r1 71 ≤ (j : Int)
    · exact fin j r' (by omega) hp hs hdn
    · exact zn_push hn h hv hH hb hi (by omega) hs hdn (fun r2 a b => ih (j + 1) r2 (by omega) a b)
theorem zn_iloop (hn : 4 ≤ n) (h : pt_Cl (n + 1) 213 zyY 0 Z P) (hv : v < 6) (hH : zn_H r) (hb : zn_bm v r r1) (hZ : ∀ r2, zn_sm v r1 r2 → zn_dn v r r1 r2 5 0 → Z r2 M none) : ∀ (d i : Nat) (r' : Nat → Int), i + d = 5 → zn_sm v r1 r' → zn_dn v r r1 r' i 0 → P (203, 0, 0) (zn_pL v i wa_u) [] r' M := by
  have eL1 : r1 72 = r 72 := hb.2 _ (by omega) (by omega) (by omega)
  have bL := hH.2.2.1
  have fin : ∀ (i : Nat) (r' : Nat → Int), i ≤ 5 → r1 72 ≤ (i : Int) → zn_sm v r1 r' → zn_dn v r r1 r' i 0 → P (203, 0, 0) (zn_pL v i wa_u) [] r' M := fun i r' hi hp hs hd => by
    have eL : r' 72 = r1 72 := hs _ (by omega) (by omega)
    refine h.1 _ _ _ _ _ _ _ _ _ _ _ _ (List.all_eq_true.mp (List.all_eq_true.mp zn_p2 v (List.mem_range.mpr hv)) i (List.mem_range.mpr (by omega))) ⟨pt_m0, pt_m1 ⟨by show 0 ≤ r' 72; omega, by show r' 72 ≤ (i : Int); omega⟩, pt_m0⟩ ⟨fun _ => ?_, trivial⟩
    exact h.2.2.2.2.2.2.2.2.2.2.2.2.2 (294, 0, 0) _ _ M rfl zn_pl.2.1.2.1 (by decide +kernel) (by decide +kernel) (hZ _ hs (fun i' j' h1 h2 h3 => hd i' j' h1 h2 (by omega)))
  intro d
  induction d with
  | zero => exact fun i r' hd hs hdn => fin i r' (by omega) (by omega) hs hdn
  | succ d ih =>
    intro i r' hd hs hdn
    by_cases hp : r1 72 ≤ (i : Int)
    · exact fin i r' (by omega) hp hs hdn
    · have eL : r' 72 = r1 72 := hs _ (by omega) (by omega)
      refine h.1 _ _ _ _ _ _ _ _ _ _ _ _ (List.all_eq_true.mp (List.all_eq_true.mp zn_p1 v (List.mem_range.mpr hv)) i (List.mem_range.mpr (by omega))) ⟨pt_m0, pt_m1 ⟨by show ((i + 1 : Nat) : Int) ≤ r' 72; omega, by show r' 72 ≤ 5; omega⟩, pt_m0⟩ ⟨fun _ => ?_, trivial⟩
      exact zn_jloop hn h hv hH hb (by omega) (by omega) (fun r2 a b => ih (i + 1) r2 (by omega) a b) 4 0 _ rfl hs hdn
end ZNP
