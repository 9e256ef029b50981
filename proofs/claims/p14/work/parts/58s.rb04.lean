/-! the pushes -/
theorem rb_s1_c {r r2 : Nat → Int} {st : List Int} {q : Nat × Nat × Int} (h : q.1 = 0 → r q.2.1 = r2 q.2.1) : pt_s1 r st q = pt_s1 r2 st q := by
  obtain ⟨k, t, c⟩ := q
  match k, h with
  | 0, h =>
    have h := h rfl
    show r t :: st = r2 t :: st
    rw [show r t = r2 t from h]
  | 1, _ => rfl
  | 2, _ => rfl
  | k + 3, _ => rfl
theorem rb_fold_c {r r2 : Nat → Int} : ∀ {l : pt_X} {st : List Int}, (∀ q ∈ l, q.1 = 0 → r q.2.1 = r2 q.2.1) → l.foldl (pt_s1 r) st = l.foldl (pt_s1 r2) st
  | [], _, _ => rfl
  | q :: l, st, h => by
    show l.foldl (pt_s1 r) (pt_s1 r st q) = l.foldl (pt_s1 r2) (pt_s1 r2 st q)
    rw [rb_s1_c (h q List.mem_cons_self)]
    exact rb_fold_c (fun z hz => h z (List.mem_cons_of_mem _ hz))
theorem rb_v_c {r r2 : Nat → Int} {l : pt_X} (h : ∀ q ∈ l, q.1 = 0 → r q.2.1 = r2 q.2.1) : pt_v r l = pt_v r2 l := by
  unfold pt_v
  rw [rb_fold_c h]
noncomputable def rb_inM (l : pt_X) : Bool := l.all (fun q => !(Nat.beq q.1 0) || (Nat.ble 196 q.2.1 && Nat.blt q.2.1 212))
theorem rb_in_c {r r2 : Nat → Int} {l : pt_X} (hl : rb_inM l = true) (h : ∀ t, 196 ≤ t → t < 212 → r t = r2 t) : pt_v r l = pt_v r2 l := rb_v_c (fun q hq e => by
  have g := List.all_eq_true.mp hl q hq
  rw [e] at g
  have g : (Nat.ble 196 q.2.1 && Nat.blt q.2.1 212) = true := g
  rw [Bool.and_eq_true] at g
  exact h _ (Nat.le_of_ble_eq_true g.1) (Nat.le_of_ble_eq_true g.2))
theorem rb_in_h : (List.range 4).all (fun p => rb_inM (rb_dx (p + 1)) && (List.range (p + 1)).all (fun i => (List.range (p + 1)).all (fun j => rb_inM (rb_hx (p + 1) i j)))) = true := by decide +kernel
theorem rb_in_hx {p i j : Nat} (hp : p < 4) (hi : i < p + 1) (hj : j < p + 1) : rb_inM (rb_hx (p + 1) i j) = true := by
  have h := List.all_eq_true.mp rb_in_h p (List.mem_range.mpr hp)
  rw [Bool.and_eq_true] at h
  exact List.all_eq_true.mp (List.all_eq_true.mp h.2 i (List.mem_range.mpr hi)) j (List.mem_range.mpr hj)
theorem rb_in_dx {p : Nat} (hp : p < 4) : rb_inM (rb_dx (p + 1)) = true := by
  have h := List.all_eq_true.mp rb_in_h p (List.mem_range.mpr hp)
  rw [Bool.and_eq_true] at h
  exact h.1
noncomputable def rb_295 : ai_V := .inr (.inr (some (some 295)))
noncomputable def rb_pL (i : Nat) (v : ai_V) : List ai_V := [rb_264, rb_k 0, ra_u, rb_k i, v]
noncomputable def rb_S0 (i j : Nat) : List ai_V := [rb_q 429, rb_k (4 * i + j), rb_295]
theorem rb_p_a : (List.range 5).all (fun i => pt_row rbY 213 [214, 294] true (203, 0, 0) (rb_pL i ra_u) [] [] [(123, (.ofNat (i + 1), 5))] [] [] [((214, 0, 0), (rb_pL i (rb_k 0), []), [], [])]) = true := by decide +kernel
theorem rb_p_x : (List.range 6).all (fun i => pt_row rbY 213 [214, 294] true (203, 0, 0) (rb_pL i ra_u) [] [] [(123, (0, .ofNat i))] [] [] [((294, 0, 0), (rb_pL i ra_u, []), [], [])]) = true := by decide +kernel
theorem rb_p_j : (List.range 5).all (fun i => (List.range 5).all (fun j => pt_row rbY 213 [203, 264] true (214, 0, 0) (rb_pL i (rb_k j)) [] [] [(122, (0, .ofNat j))] [] [] [((203, 0, 0), (rb_pL (i + 1) (rb_k j), []), [], [])])) = true := by decide +kernel
theorem rb_p_b : (List.range 5).all (fun i => (List.range 4).all (fun a => (List.range 4).all (fun j => pt_row rbY 213 [203, 264] true (214, 0, 0) (rb_pL i (rb_k j)) [] [(164 + i, .ofNat a)] [(122, (.ofNat (j + 1), 4))] [] [] [((264, 0, 0), (rb_pL i (rb_k j), rb_k j :: rb_k a :: rb_264 :: rb_S0 i j), [(164 + i, ra_c a), (429, ra_s (174 + i))], [])]))) = true := by decide +kernel
theorem rb_p_d : (List.range 5).all (fun i => (List.range 4).all (fun a => (List.range 4).all (fun j => pt_row rbY 213 [276] true (267, 0, 0) (rb_pL i (rb_k j)) (rb_q 428 :: rb_S0 i j) [(169 + i, .ofNat a)] [] [] [] [((276, 0, 0), (rb_pL i (rb_k j), rb_k j :: rb_k a :: rb_264 :: rb_q 428 :: rb_S0 i j), [(169 + i, ra_c a)], [])]))) = true := by decide +kernel
noncomputable def rb_fx : pt_X := [(0, 429, 0), (0, 428, 0), (0, 430, 0), (2, 21, 0), (2, 22, 0)]
theorem rb_p_f : (List.range 5).all (fun i => (List.range 4).all (fun j => pt_row rbY 213 [214] true (279, 0, 0) (rb_pL i (rb_k j)) (rb_q 430 :: rb_q 428 :: rb_S0 i j) [] [] [] [295] [((214, 0, 0), (rb_pL i (rb_k (j + 1)), []), [(213 + (4 * i + j), rb_fx)], [])])) = true := by decide +kernel
theorem rb_p_k : (List.range 5).all (fun i => (List.range 4).all (fun a => (List.range 4).all (fun j => (cy_vk 213 264 212 rbY.2.1 (rb_k j :: rb_k a :: rb_264 :: rb_S0 i j) [rb_264, rb_k a, rb_k j] (rb_S0 i j) && pt_cck rbY 213 212 (264, 0, 0) 2 428 (rb_pL i (rb_k j)) (rb_S0 i j) [rb_264, rb_k a, rb_k j] [rb_264, ra_i 339, ra_i 340]) && (cy_vk 213 276 212 rbY.2.1 (rb_k j :: rb_k a :: rb_264 :: rb_q 428 :: rb_S0 i j) [rb_264, rb_k a, rb_k j] (rb_q 428 :: rb_S0 i j) && pt_cck rbY 213 212 (276, 0, 0) 2 430 (rb_pL i (rb_k j)) (rb_q 428 :: rb_S0 i j) [rb_264, rb_k a, rb_k j] [rb_264, ra_i 339, ra_i 340])))) = true := by decide +kernel
theorem rb_mlt {r r2 : Nat → Int} {z t : Nat} {v : Option Int} (h : t < 338) : pt_mrg 338 r r2 z v t = r2 t := if_pos h
theorem rb_mz {r r2 : Nat → Int} {z : Nat} {v : Int} (h : 338 ≤ z) : pt_mrg 338 r r2 z (some v) z = v := by
  show (if z < 338 then r2 z else if z = z then v else r z) = v
  rw [if_neg (by omega), if_pos rfl]
theorem rb_mne {r r2 : Nat → Int} {z t : Nat} {v : Int} (h : 338 ≤ t) (hz : t ≠ z) : pt_mrg 338 r r2 z (some v) t = r t := by
  show (if t < 338 then r2 t else if t = z then v else r t) = r t
  rw [if_neg (by omega), if_neg hz]
noncomputable def rb_pv (r : Nat → Int) (i j : Nat) : Int := ai_op 22 (r (174 + i)) (ai_op 21 (pt_v r (rb_hx (r 122).toNat (r (164 + i)).toNat j)) (pt_v r (rb_hx (r 122).toNat (r (169 + i)).toNat j)))
noncomputable def rb_sm (r1 r' : Nat → Int) : Prop := ∀ t, t < 338 → ¬(213 ≤ t ∧ t < 233) → r' t = r1 t
noncomputable def rb_dn (r1 r' : Nat → Int) (i j : Nat) : Prop := ∀ i' j' : Nat, (i' : Int) + 1 ≤ r1 123 → (j' : Int) + 1 ≤ r1 122 → (i' < i ∨ (i' = i ∧ j' < j)) → r' (213 + (4 * i' + j')) = rb_pv r1 i' j'
section RBP
variable {n : Nat} {P : pt_P} {r1 : Nat → Int} {M : Nat → Nat → Int} {Z : (Nat → Int) → (Nat → Nat → Int) → Option Int → Prop}
/-- one push -/
theorem rb_push (hn : 5 ≤ n) (h : pt_Cl n 213 rbY 0 Z P) (hok : rb_ok r1) {i j : Nat} {r' : Nat → Int} (hi : (i : Int) + 1 ≤ r1 123) (hj : (j : Int) + 1 ≤ r1 122) (hs : rb_sm r1 r') (hd : rb_dn r1 r' i j) (kk : ∀ r2, rb_sm r1 r2 → rb_dn r1 r2 i (j + 1) → P (214, 0, 0) (rb_pL i (rb_k (j + 1))) [] r2 M) : P (214, 0, 0) (rb_pL i (rb_k j)) [] r' M := by
  obtain ⟨n, rfl⟩ : ∃ m, n = m + 1 := ⟨n - 1, by omega⟩
  obtain ⟨hseg, henv, hrel, hval, -, -, -, -, hcall, -⟩ := h
  refine henv _ _ _ _ _ (fun hE _ => ?_)
  have h0 : r' 0 = 0 := hE.1
  have bL := rb_eb hE rb_bnd.1
  have bP := rb_eb hE rb_bnd.2.1
  have eL : r' 123 = r1 123 := hs _ (by omega) (by omega)
  have eP : r' 122 = r1 122 := hs _ (by omega) (by omega)
  have i5 : i < 5 := by omega
  have j4 : j < 4 := by omega
  obtain ⟨m4, m5, m6⟩ := rb_bnd.2.2 i i5
  have b4 := rb_eb hE m4
  have b5 := rb_eb hE m5
  have e4 : r' (164 + i) = r1 (164 + i) := hs _ (by omega) (by omega)
  have e5 : r' (169 + i) = r1 (169 + i) := hs _ (by omega) (by omega)
  have e6 : r' (174 + i) = r1 (174 + i) := hs _ (by omega) (by omega)
  obtain ⟨a, ha⟩ : ∃ a : Nat, r' (164 + i) = (a : Int) := ⟨(r' (164 + i)).toNat, by omega⟩
  obtain ⟨c, hc⟩ : ∃ c : Nat, r' (169 + i) = (c : Int) := ⟨(r' (169 + i)).toNat, by omega⟩
  obtain ⟨-, o2, o3⟩ := hok i i5 hi
  obtain ⟨p, hp⟩ : ∃ p : Nat, r1 122 = ((p + 1 : Nat) : Int) := ⟨(r1 122).toNat - 1, by omega⟩
  have ka := List.all_eq_true.mp (List.all_eq_true.mp (List.all_eq_true.mp rb_p_k i (List.mem_range.mpr i5)) a (List.mem_range.mpr (by omega))) j (List.mem_range.mpr j4)
  have kc := List.all_eq_true.mp (List.all_eq_true.mp (List.all_eq_true.mp rb_p_k i (List.mem_range.mpr i5)) c (List.mem_range.mpr (by omega))) j (List.mem_range.mpr j4)
  simp only [Bool.and_eq_true] at ka kc
  obtain ⟨⟨ka1, ka2⟩, -⟩ := ka
  obtain ⟨-, kc1, kc2⟩ := kc
  obtain ⟨rc, rs⟩ := ra_rm0 (n := n + 1) rb_bud.1
  have wv : ∀ (s : Nat → Int) (x t : Nat), t < 338 → pt_up s (pt_wc [rb_264, rb_k x, rb_k j] [rb_264, ra_i 339, ra_i 340]) t = s t := fun s x t ht => by
    show (if t = 339 then _ else if t = 340 then _ else s t) = s t
    rw [if_neg (by omega), if_neg (by omega)]
  have w1 : ∀ (s : Nat → Int) (x : Nat), pt_up s (pt_wc [rb_264, rb_k x, rb_k j] [rb_264, ra_i 339, ra_i 340]) 339 = (x : Int) := fun s x => rfl
  have w2 : ∀ (s : Nat → Int) (x : Nat), pt_up s (pt_wc [rb_264, rb_k x, rb_k j] [rb_264, ra_i 339, ra_i 340]) 340 = (j : Int) := fun s x => rfl
  -- the number of a height
  have hv : ∀ (s : Nat → Int) (x : Nat), (∀ t, t < 338 → s t = r' t) → x < p + 1 → pt_v (pt_up s (pt_wc [rb_264, rb_k x, rb_k j] [rb_264, ra_i 339, ra_i 340])) (rb_hx (pt_up s (pt_wc [rb_264, rb_k x, rb_k j] [rb_264, ra_i 339, ra_i 340]) 122).toNat (pt_up s (pt_wc [rb_264, rb_k x, rb_k j] [rb_264, ra_i 339, ra_i 340]) 339).toNat (pt_up s (pt_wc [rb_264, rb_k x, rb_k j] [rb_264, ra_i 339, ra_i 340]) 340).toNat) = pt_v r1 (rb_hx (p + 1) x j) := fun s x hs2 hx => by
    rw [w1, w2, wv s x _ (by omega), hs2 _ (by omega), eP, hp]
    show pt_v _ (rb_hx (p + 1) x j) = _
    refine rb_in_c (rb_in_hx (by omega) hx (by omega)) (fun t t1 t2 => ?_)
    rw [wv s x t (by omega), hs2 t (by omega)]
    exact hs t (by omega) (by omega)
  refine hseg _ _ _ _ _ _ _ _ _ _ _ _ (List.all_eq_true.mp (List.all_eq_true.mp (List.all_eq_true.mp rb_p_b i (List.mem_range.mpr i5)) a (List.mem_range.mpr (by omega))) j (List.mem_range.mpr j4)) ⟨pt_m1 ha, pt_m1 ⟨by show ((j + 1 : Nat) : Int) ≤ r' 122; omega, bP.2⟩, pt_m0⟩ ⟨fun _ => ?_, trivial⟩
  obtain ⟨s1, hs1⟩ : ∃ s1, s1 = pt_up r' [(164 + i, ra_c a), (429, ra_s (174 + i))] := ⟨_, rfl⟩
  show P (264, 0, 0) (rb_pL i (rb_k j)) (rb_k j :: rb_k a :: rb_264 :: rb_S0 i j) (pt_up r' [(164 + i, ra_c a), (429, ra_s (174 + i))]) M
  have q1 : s1 429 = r' (174 + i) := by
    rw [hs1]
    show (if 429 = 164 + i then _ else if 429 = 429 then r' (174 + i) else _) = _
    rw [if_neg (by omega), if_pos rfl]
  have g1 : ∀ t, t < 338 → s1 t = r' t := fun t ht => by
    rw [hs1]
    show (if t = 164 + i then pt_v r' (ra_c a) else if t = 429 then _ else r' t) = r' t
    by_cases e : t = 164 + i
    · rw [if_pos e, e, ha]
      rfl
    · rw [if_neg e, if_neg (by omega)]
  rw [← hs1]
  refine hcall (264, 0, 0) _ _ _ _ _ s1 M 212 2 428 _ _ rb_plx.1 ka1 ka2 (rb_height (by omega)) ⟨by rw [w1, wv _ _ _ (by omega), g1 _ (by omega)]; omega, by rw [w2, wv _ _ _ (by omega), g1 _ (by omega)]; omega⟩ (fun r2 M1 o hq => ?_)
  obtain ⟨o1, x2, x3⟩ := hq
  rw [hv s1 a g1 (by omega)] at o1
  subst o1 x2
  rw [rc, rs]
  obtain ⟨s2, hs2⟩ : ∃ s2, s2 = pt_mrg 338 s1 r2 428 (some (pt_v r1 (rb_hx (p + 1) a j))) := ⟨_, rfl⟩
  show P (267, 0, 0) (rb_pL i (rb_k j)) (rb_q 428 :: rb_S0 i j) (pt_mrg 338 s1 r2 428 (some (pt_v r1 (rb_hx (p + 1) a j)))) M1
  rw [← hs2]
  have g2 : ∀ t, t < 338 → s2 t = r' t := fun t ht => by rw [hs2, rb_mlt ht, x3 t ht, wv _ _ t ht, g1 t ht]
  have q2 : s2 428 = pt_v r1 (rb_hx (p + 1) a j) := by rw [hs2]; exact rb_mz (by omega)
  have q3 : s2 429 = r' (174 + i) := by rw [hs2, rb_mne (by omega) (by omega), q1]
  refine hseg _ _ _ _ _ _ _ _ _ _ _ _ (List.all_eq_true.mp (List.all_eq_true.mp (List.all_eq_true.mp rb_p_d i (List.mem_range.mpr i5)) c (List.mem_range.mpr (by omega))) j (List.mem_range.mpr j4)) ⟨pt_m1 ((g2 _ (by omega)).trans hc), pt_m0, pt_m0⟩ ⟨fun _ => ?_, trivial⟩
  obtain ⟨s3, hs3⟩ : ∃ s3, s3 = pt_up s2 [(169 + i, ra_c c)] := ⟨_, rfl⟩
  show P (276, 0, 0) (rb_pL i (rb_k j)) (rb_k j :: rb_k c :: rb_264 :: rb_q 428 :: rb_S0 i j) (pt_up s2 [(169 + i, ra_c c)]) M1
  have g3 : ∀ t, s3 t = s2 t := fun t => by
    rw [hs3]
    show (if t = 169 + i then pt_v s2 (ra_c c) else s2 t) = s2 t
    by_cases e : t = 169 + i
    · rw [if_pos e, e, g2 _ (by omega), hc]
      rfl
    · rw [if_neg e]
  rw [← hs3]
  have g3' : ∀ t, t < 338 → s3 t = r' t := fun t ht => (g3 t).trans (g2 t ht)
  refine hcall (276, 0, 0) _ _ _ _ _ s3 M1 212 2 430 _ _ rb_plx.1 kc1 kc2 (rb_height (by omega)) ⟨by rw [w1, wv _ _ _ (by omega), g3' _ (by omega)]; omega, by rw [w2, wv _ _ _ (by omega), g3' _ (by omega)]; omega⟩ (fun r4 M2 o hq => ?_)
  obtain ⟨o1, x4, x5⟩ := hq
  rw [hv s3 c g3' (by omega)] at o1
  subst o1 x4
  rw [rc, rs]
  obtain ⟨s4, hs4⟩ : ∃ s4, s4 = pt_mrg 338 s3 r4 430 (some (pt_v r1 (rb_hx (p + 1) c j))) := ⟨_, rfl⟩
  show P (279, 0, 0) (rb_pL i (rb_k j)) (rb_q 430 :: rb_q 428 :: rb_S0 i j) (pt_mrg 338 s3 r4 430 (some (pt_v r1 (rb_hx (p + 1) c j)))) M2
  rw [← hs4]
  have g4 : ∀ t, t < 338 → s4 t = r' t := fun t ht => by rw [hs4, rb_mlt ht, x5 t ht, wv _ _ t ht, g3' t ht]
  have q4 : s4 430 = pt_v r1 (rb_hx (p + 1) c j) := by rw [hs4]; exact rb_mz (by omega)
  have q5 : s4 428 = pt_v r1 (rb_hx (p + 1) a j) := by rw [hs4, rb_mne (by omega) (by omega), g3, q2]
  have q6 : s4 429 = r' (174 + i) := by rw [hs4, rb_mne (by omega) (by omega), g3, q3]
  refine hseg _ _ _ _ _ _ _ _ _ _ _ _ (List.all_eq_true.mp (List.all_eq_true.mp rb_p_f i (List.mem_range.mpr i5)) j (List.mem_range.mpr j4)) ⟨pt_m0, pt_m0, pt_m0⟩ ⟨fun _ => ?_, trivial⟩
  have up : ∀ t, pt_up s4 [(213 + (4 * i + j), rb_fx)] t = if t = 213 + (4 * i + j) then ai_op 22 (s4 429) (ai_op 21 (s4 428) (s4 430)) else s4 t := fun t => rfl
  refine kk _ (fun t ht hn => ?_) (fun i' j' hi' hj' hlt => ?_)
  · refine (up t).trans ?_
    rw [if_neg (by omega), g4 t ht]
    exact hs t ht hn
  · refine (up _).trans ?_
    by_cases e : i' = i ∧ j' = j
    · obtain ⟨rfl, rfl⟩ := e
      rw [if_pos rfl, q4, q5, q6, e6]
      unfold rb_pv
      rw [← e4, ← e5, ha, hc, hp]
      rfl
    · rw [if_neg (by omega), g4 _ (by omega)]
      exact hd i' j' hi' hj' (by omega)
theorem rb_jloop (hn : 5 ≤ n) (h : pt_Cl n 213 rbY 0 Z P) (hok : rb_ok r1) (hP : 0 ≤ r1 122 ∧ r1 122 ≤ 4) {i : Nat} (hi : (i : Int) + 1 ≤ r1 123) (i5 : i < 5) (kk : ∀ r2, rb_sm r1 r2 → rb_dn r1 r2 (i + 1) 0 → P (203, 0, 0) (rb_pL (i + 1) ra_u) [] r2 M) : ∀ (d j : Nat) (r' : Nat → Int), 4 - j = d → j ≤ 4 → rb_sm r1 r' → rb_dn r1 r' i j → P (214, 0, 0) (rb_pL i (rb_k j)) [] r' M := by
  have fin : ∀ (j : Nat) (r' : Nat → Int), j ≤ 4 → r1 122 ≤ (j : Int) → rb_sm r1 r' → rb_dn r1 r' i j → P (214, 0, 0) (rb_pL i (rb_k j)) [] r' M := fun j r' hj hp hs hd => by
    have eP : r' 122 = r1 122 := hs _ (by omega) (by omega)
    refine h.1 _ _ _ _ _ _ _ _ _ _ _ _ (List.all_eq_true.mp (List.all_eq_true.mp rb_p_j i (List.mem_range.mpr i5)) j (List.mem_range.mpr (by omega))) ⟨pt_m0, pt_m1 ⟨by show 0 ≤ r' 122; omega, by show r' 122 ≤ (j : Int); omega⟩, pt_m0⟩ ⟨fun _ => ?_, trivial⟩
    refine h.2.2.1 _ _ (rb_pL (i + 1) ra_u) _ [] _ _ ⟨rfl, ⟨rb_N0, rfl⟩, trivial, ⟨rb_N0, rfl⟩, trivial, trivial⟩ trivial (kk _ hs (fun i' j' h1 h2 h3 => hd i' j' h1 h2 (by omega)))
  intro d
  induction d with
  | zero => exact fun j r' hd hj hs hdn => fin j r' hj (by omega) hs hdn
  | succ d ih =>
    intro j r' hd hj hs hdn
    by_cases hp : r1 122 ≤ (j : Int)
    · exact fin j r' hj hp hs hdn
    · exact rb_push hn h hok hi (by omega) hs hdn (fun r2 a b => ih (j + 1) r2 (by omega) (by omega) a b)
theorem rb_iloop (hn : 5 ≤ n) (h : pt_Cl n 213 rbY 0 Z P) (hok : rb_ok r1) (hP : 0 ≤ r1 122 ∧ r1 122 ≤ 4) (hL : 0 ≤ r1 123 ∧ r1 123 ≤ 5) (hZ : ∀ r2, rb_sm r1 r2 → rb_dn r1 r2 5 0 → Z r2 M none) : ∀ (d i : Nat) (r' : Nat → Int), 5 - i = d → i ≤ 5 → rb_sm r1 r' → rb_dn r1 r' i 0 → P (203, 0, 0) (rb_pL i ra_u) [] r' M := by
  have fin : ∀ (i : Nat) (r' : Nat → Int), i ≤ 5 → r1 123 ≤ (i : Int) → rb_sm r1 r' → rb_dn r1 r' i 0 → P (203, 0, 0) (rb_pL i ra_u) [] r' M := fun i r' hi hp hs hd => by
    have eL : r' 123 = r1 123 := hs _ (by omega) (by omega)
    refine h.1 _ _ _ _ _ _ _ _ _ _ _ _ (List.all_eq_true.mp rb_p_x i (List.mem_range.mpr (by omega))) ⟨pt_m0, pt_m1 ⟨by show 0 ≤ r' 123; omega, by show r' 123 ≤ (i : Int); omega⟩, pt_m0⟩ ⟨fun _ => ?_, trivial⟩
    exact h.2.2.2.2.2.2.2.2.2.2.2.2.2 (294, 0, 0) _ _ M rfl (by decide +kernel) (by decide +kernel) (by decide +kernel) (hZ _ hs (fun i' j' h1 h2 h3 => hd i' j' h1 h2 (by omega)))
  intro d
  induction d with
  | zero => exact fun i r' hd hi hs hdn => fin i r' hi (by omega) hs hdn
  | succ d ih =>
    intro i r' hd hi hs hdn
    by_cases hp : r1 123 ≤ (i : Int)
    · exact fin i r' hi hp hs hdn
    · have eL : r' 123 = r1 123 := hs _ (by omega) (by omega)
      refine h.1 _ _ _ _ _ _ _ _ _ _ _ _ (List.all_eq_true.mp rb_p_a i (List.mem_range.mpr (by omega))) ⟨pt_m0, pt_m1 ⟨by show ((i + 1 : Nat) : Int) ≤ r' 123; omega, by show r' 123 ≤ 5; omega⟩, pt_m0⟩ ⟨fun _ => ?_, trivial⟩
      exact rb_jloop hn h hok hP (by omega) (by omega) (fun r2 a b => ih (i + 1) r2 (by omega) (by omega) a b) 4 0 _ rfl (by omega) hs hdn
end RBP
