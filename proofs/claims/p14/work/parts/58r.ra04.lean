/-! rework -/
noncomputable def ra_p (q : Nat) : pt_X := [(0, 301 + q, 0)]
noncomputable def ra_cof (a b c d : Nat) : pt_X := [(0, 301 + a, 0), (0, 301 + b, 0), (2, 2, 0), (0, 301 + c, 0), (0, 301 + d, 0), (2, 2, 0), (2, 1, 0)]
noncomputable def ra_tx : Nat → pt_X
  | 0 => ra_cof 4 8 5 7
  | 1 => ra_cof 5 6 3 8
  | 2 => ra_cof 3 7 4 6
  | 3 => ra_cof 7 2 8 1
  | 4 => ra_cof 8 0 6 2
  | 5 => ra_cof 6 1 7 0
  | 6 => ra_cof 1 5 2 4
  | 7 => ra_cof 2 3 0 5
  | _ => ra_cof 0 4 1 3
noncomputable def ra_wx : pt_X := ra_p 0 ++ ra_tx 0 ++ [(2, 2, 0)] ++ (ra_p 1 ++ ra_tx 1 ++ [(2, 2, 0)]) ++ [(2, 0, 0)] ++ (ra_p 2 ++ ra_tx 2 ++ [(2, 2, 0)]) ++ [(2, 0, 0)]
noncomputable def ra_tW (v : Nat) : List (Nat × pt_X) := (ra_wn v, ra_wx) :: (List.range 9).map (fun q => (310 + q, ra_tx q))
noncomputable def ra_rL (v : Nat) : List ai_V := [ra_17, .inl (0, .ofNat v), ra_u]
theorem ra_r_0 : pt_row raY 38 [2, 18, 21, 73, 76, 82] true (0, 0, 0) [ra_17, ra_u, ra_u] [] [] [] [] [] [((2, 0, 0), (ra_rL 0, []), [], [])] = true := by decide +kernel
theorem ra_r_h : (List.range 7).all (fun v => pt_row raY 38 [2, 18, 21, 73, 76, 82] true (2, 0, 0) (ra_rL v) [] [] [] [] [] [((82, 0, 0), (ra_rL v, []), [], [(0, [(0, 123, 0), (3, 0, 1)], ra_c v)]), ((18, 0, 0), (ra_rL v, [.inl (0, .ofNat v), ra_17]), [], [(0, ra_c v, ra_s 123)])]) = true := by decide +kernel
theorem ra_r_t : (List.range 6).all (fun v => pt_row raY 38 [2, 18, 21, 73, 76, 82] true (21, 0, 0) (ra_rL v) [] [] [] [] [28, 41, 42, 43] [((73, 0, 0), (ra_rL v, [.inl (0, .ofNat v), ra_17]), ra_tW v, [])]) = true := by decide +kernel
theorem ra_r_i : (List.range 6).all (fun v => pt_row raY 38 [2, 18, 21, 73, 76, 82] true (76, 0, 0) (ra_rL v) [] [] [] [] [] [((2, 0, 0), (ra_rL (v + 1), []), [], [])]) = true := by decide +kernel
theorem ra_r_c : (List.range 6).all (fun v => (cy_vk 38 18 39 raY.2.1 [.inl (0, .ofNat v), ra_17] [ra_17, .inl (0, .ofNat v)] [] && pt_cck raY 38 39 (18, 0, 0) 0 326 (ra_rL v) [] [ra_17, .inl (0, .ofNat v)] [ra_17, .inl (326, 0)]) && (cy_vk 38 73 42 raY.2.1 [.inl (0, .ofNat v), ra_17] [ra_17, .inl (0, .ofNat v)] [] && pt_cck raY 38 42 (73, 0, 0) 0 326 (ra_rL v) [] [ra_17, .inl (0, .ofNat v)] [ra_17, .inl (326, 0)])) = true := by decide +kernel
theorem ra_r_b : ct_bud 39 = (0, 0) ∧ ct_bud 42 = (0, 0) ∧ ct_bud 38 = (0, 0) := by decide +kernel
theorem ra_rpl : lh_plain 38 = true := by decide +kernel
/-- the sum of trees, what is turned, by what goes off -/
noncomputable def ra_cofv (p : Nat → Int) (a b c d : Nat) : Int := ai_op 1 (ai_op 2 (p a) (p b)) (ai_op 2 (p c) (p d))
noncomputable def ra_tv (p : Nat → Int) : Nat → Int
  | 0 => ra_cofv p 4 8 5 7
  | 1 => ra_cofv p 5 6 3 8
  | 2 => ra_cofv p 3 7 4 6
  | 3 => ra_cofv p 7 2 8 1
  | 4 => ra_cofv p 8 0 6 2
  | 5 => ra_cofv p 6 1 7 0
  | 6 => ra_cofv p 1 5 2 4
  | 7 => ra_cofv p 2 3 0 5
  | _ => ra_cofv p 0 4 1 3
noncomputable def ra_wv (p : Nat → Int) : Int := ai_op 0 (ai_op 0 (ai_op 2 (p 0) (ra_tv p 0)) (ai_op 2 (p 1) (ra_tv p 1))) (ai_op 2 (p 2) (ra_tv p 2))
noncomputable def ra_shv (v l a b p : Nat) (st : Int) (t : Nat → Int) : Int := match Nat.beq v (l + 1) with
  | true => 0
  | false => match p with
    | 0 => 0
    | p + 1 => match a, b with
      | 0, 0 => 0
      | a + 1, 0 => ai_op 2 st (t (3 * a + p))
      | 0, b + 1 => ai_op 2 st (ai_op 1 0 (t (3 * b + p)))
      | a + 1, b + 1 => ai_op 2 st (ai_op 1 (t (3 * a + p)) (t (3 * b + p)))
theorem ra_shv_ok {r : Nat → Int} {v l a b p : Nat} {t : Nat → Int} (ht : ∀ q, q < 9 → r (310 + q) = t q) (ha : a < 4) (hb : b < 4) (hp : p < 4) : pt_v r (ra_sx v l a b p) = ra_shv v l a b p (r (174 + l)) t := by
  unfold ra_sx ra_shv
  cases Nat.beq v (l + 1) with
  | true => rfl
  | false =>
    match p with
    | 0 => rfl
    | p + 1 =>
      match a, b with
      | 0, 0 => rfl
      | a + 1, 0 =>
        show ai_op 2 (r (174 + l)) (r (310 + (3 * a + p))) = ai_op 2 (r (174 + l)) (t (3 * a + p))
        rw [ht _ (by omega)]
      | 0, b + 1 =>
        show ai_op 2 (r (174 + l)) (ai_op 1 0 (r (310 + (3 * b + p)))) = ai_op 2 (r (174 + l)) (ai_op 1 0 (t (3 * b + p)))
        rw [ht _ (by omega)]
      | a + 1, b + 1 =>
        show ai_op 2 (r (174 + l)) (ai_op 1 (r (310 + (3 * a + p))) (r (310 + (3 * b + p)))) = ai_op 2 (r (174 + l)) (ai_op 1 (t (3 * a + p)) (t (3 * b + p)))
        rw [ht _ (by omega), ht _ (by omega)]
theorem ra_tv_c {p p' : Nat → Int} (h : ∀ x, x < 9 → p x = p' x) (q : Nat) : ra_tv p q = ra_tv p' q := by
  unfold ra_tv ra_cofv
  split <;> rw [h _ (by omega), h _ (by omega), h _ (by omega), h _ (by omega)]
theorem ra_wv_c {p p' : Nat → Int} (h : ∀ x, x < 9 → p x = p' x) : ra_wv p = ra_wv p' := by
  unfold ra_wv
  rw [h 0 (by omega), h 1 (by omega), h 2 (by omega), ra_tv_c h 0, ra_tv_c h 1, ra_tv_c h 2]
theorem ra_tW_w {r : Nat → Int} {v : Nat} : pt_up r (ra_tW v) (ra_wn v) = ra_wv (fun x => r (301 + x)) := by
  unfold ra_tW pt_up
  rw [if_pos rfl]
  rfl
theorem ra_wh0 : ra_wn 0 = 8 ∧ ra_hn 0 = 9 := ⟨rfl, rfl⟩
theorem ra_whs (v : Nat) : ra_wn (v + 1) = 196 + v ∧ ra_hn (v + 1) = 201 + 20 * v := ⟨rfl, rfl⟩
theorem ra_wnb {v : Nat} (h : v < 6) : ra_wn v = 8 ∨ (196 ≤ ra_wn v ∧ ra_wn v < 196 + 5) := by
  match v with
  | 0 => exact Or.inl rfl
  | v + 1 => exact Or.inr ⟨by show 196 ≤ 196 + v; omega, by show 196 + v < 196 + 5; omega⟩
theorem ra_tW_t {r : Nat → Int} {v q : Nat} (hv : v < 6) (hq : q < 9) : pt_up r (ra_tW v) (310 + q) = ra_tv (fun x => r (301 + x)) q := by
  have b := ra_wnb hv
  unfold ra_tW pt_up
  rw [if_neg (by show ¬(310 + q = ra_wn v); omega)]
  match q, hq with
  | 0, _ => rfl
  | 1, _ => rfl
  | 2, _ => rfl
  | 3, _ => rfl
  | 4, _ => rfl
  | 5, _ => rfl
  | 6, _ => rfl
  | 7, _ => rfl
  | 8, _ => rfl
  | n + 9, h => exact absurd h (by omega)
theorem ra_tW_ne {r : Nat → Int} {v t : Nat} (h1 : t ≠ ra_wn v) (h2 : ¬(310 ≤ t ∧ t < 310 + 9)) : pt_up r (ra_tW v) t = r t := ra_up_ne (fun q hq => by
  rcases List.mem_cons.mp hq with rfl | hq
  · exact h1
  · obtain ⟨x, x1, rfl⟩ := List.mem_map.mp hq
    have := List.mem_range.mp x1
    show t ≠ 310 + x
    omega)
/-- what the class keeps of a view -/
noncomputable def ra_view (r r' : Nat → Int) (v : Nat) : Prop := r' (ra_wn v) = ra_wv (ra_pl r (v : Int) 5) ∧ ∀ l : Nat, l < 5 → (l : Int) + 1 ≤ r 123 → ∀ p, p < 4 → r' (ra_hn v + 4 * l + p) = ra_shv v l (r (164 + l)).toNat (r (169 + l)).toNat p (r (174 + l)) (ra_tv (ra_pl r (v : Int) 5))
/-- numbers that rework leaves alone -/
noncomputable def ra_keep (t : Nat) : Prop := t < 325 ∧ ¬(301 ≤ t ∧ t < 310) ∧ ¬(310 ≤ t ∧ t < 310 + 9) ∧ t ≠ 8 ∧ ¬(9 ≤ t ∧ t < 9 + 20) ∧ ¬(196 ≤ t ∧ t < 196 + 5) ∧ ¬(201 ≤ t ∧ t < 201 + 100)
theorem ra_pl_c {r r' : Nat → Int} {v : Int} (h : ∀ t, ra_keep t → r' t = r t) (hb : ∀ l, l < 5 → (0 ≤ r (164 + l) ∧ r (164 + l) ≤ 3) ∧ (0 ≤ r (169 + l) ∧ r (169 + l) ≤ 3)) : ∀ l, l ≤ 5 → ∀ q, q < 9 → ra_pl r' v l q = ra_pl r v l q
  | 0, _, q, _ => by
    show ra_b0 r' q = ra_b0 r q
    unfold ra_b0
    rw [h 122 (by unfold ra_keep; omega)]
  | l + 1, hl, q, hq => by
    have ih := ra_pl_c (v := v) h hb l (by omega)
    obtain ⟨b1, b2⟩ := hb l (by omega)
    show (if ((l : Int) + 1 ≤ r' 123) ∧ v ≠ (l : Int) + 1 then ra_add (r' (164 + l)).toNat (r' (169 + l)).toNat (r' (174 + l)) (ra_pl r' v l) else ra_pl r' v l) q = (if ((l : Int) + 1 ≤ r 123) ∧ v ≠ (l : Int) + 1 then ra_add (r (164 + l)).toNat (r (169 + l)).toNat (r (174 + l)) (ra_pl r v l) else ra_pl r v l) q
    rw [h 123 (by unfold ra_keep; omega), h (164 + l) (by unfold ra_keep; omega), h (169 + l) (by unfold ra_keep; omega), h (174 + l) (by unfold ra_keep; omega)]
    by_cases w : ((l : Int) + 1 ≤ r 123) ∧ v ≠ (l : Int) + 1
    · rw [if_pos w, if_pos w]
      exact ra_add_c rfl (by omega) (by omega) ih q hq
    · rw [if_neg w, if_neg w]
      exact ih q hq
noncomputable def ra_rQ (r : Nat → Int) (M : Nat → Nat → Int) (r2 : Nat → Int) (M2 : Nat → Nat → Int) (o : Option Int) : Prop := o = none ∧ M2 = M ∧ (∀ v : Nat, v < 6 → (v : Int) ≤ r 123 → ra_view r r2 v) ∧ ∀ t, ra_keep t → r2 t = r t
section RAR
variable {n : Nat} {P : pt_P} {r : Nat → Int} {M : Nat → Nat → Int}
set_option maxHeartbeats 1000000 in
theorem ra_rloop (hn : 5 ≤ n) (h : pt_Cl n 38 raY 0 (ra_rQ r M) P) (hok : ra_ok r) (hbd : ∀ l, l < 5 → (0 ≤ r (164 + l) ∧ r (164 + l) ≤ 3) ∧ (0 ≤ r (169 + l) ∧ r (169 + l) ≤ 3)) (hln : 0 ≤ r 123 ∧ r 123 ≤ 5) : ∀ (d v : Nat) (r' : Nat → Int), 6 - v = d → v ≤ 6 → (∀ u, u < v → ra_view r r' u) → (∀ t, ra_keep t → r' t = r t) → P (2, 0, 0) (ra_rL v) [] r' M := by
  obtain ⟨n, rfl⟩ : ∃ m, n = m + 1 := ⟨n - 1, by omega⟩
  obtain ⟨hseg, henv, hrel, hval, -, -, -, -, hcall, -, -, -, -, hret⟩ := h
  obtain ⟨bu1, bu2, bu3⟩ := ra_r_b
  have rc1 : (lt_rm (n + 1) 39).cells = 0 := by
    show (ct_bud 39).1 = 0
    rw [bu1]
  have rs1 : (lt_rm (n + 1) 39).slots = 0 := by
    show (ct_bud 39).2 = 0
    rw [bu1]
  have rc2 : (lt_rm (n + 1) 42).cells = 0 := by
    show (ct_bud 42).1 = 0
    rw [bu2]
  have rs2 : (lt_rm (n + 1) 42).slots = 0 := by
    show (ct_bud 42).2 = 0
    rw [bu2]
  have fin : ∀ (v : Nat) (r' : Nat → Int), r 123 + 1 ≤ (v : Int) → (∀ u, u < v → ra_view r r' u) → (∀ t, ra_keep t → r' t = r t) → P (82, 0, 0) (ra_rL v) [] r' M := fun v r' hv hu hk =>
    hret (82, 0, 0) _ r' M rfl (by decide +kernel) (by decide +kernel) (by decide +kernel) ⟨rfl, rfl, fun u _ hu2 => hu u (by omega), hk⟩
  intro d
  induction d with
  | zero =>
    intro v r' hd hv hu hk
    have e : r' 123 = r 123 := hk _ (by unfold ra_keep; omega)
    refine hseg _ _ _ _ _ _ _ _ _ _ _ _ (List.all_eq_true.mp ra_r_h v (List.mem_range.mpr (by omega))) ⟨pt_m0, pt_m0, pt_m0⟩ ⟨fun _ => fin v r' (by omega) hu hk, fun g => ?_, trivial⟩
    have g1 : (v : Int) ≤ r' 123 := g.1
    omega
  | succ d ih =>
    intro v r' hd hv hu hk
    have e : r' 123 = r 123 := hk _ (by unfold ra_keep; omega)
    refine hseg _ _ _ _ _ _ _ _ _ _ _ _ (List.all_eq_true.mp ra_r_h v (List.mem_range.mpr (by omega))) ⟨pt_m0, pt_m0, pt_m0⟩ ⟨fun g => ?_, fun _ => ?_, trivial⟩
    · have g1 : r' 123 + 1 ≤ (v : Int) := g.1
      exact fin v r' (by omega) hu hk
    have ck := List.all_eq_true.mp ra_r_c v (List.mem_range.mpr (by omega))
    simp only [Bool.and_eq_true] at ck
    obtain ⟨⟨c1, c2⟩, c3, c4⟩ := ck
    have okc : ∀ r1 : Nat → Int, (∀ t, ra_keep t → r1 t = r t) → ra_ok r1 := fun r1 h1 l hl w => by
      rw [h1 _ (by unfold ra_keep; omega)] at w
      rw [h1 (164 + l) (by unfold ra_keep; omega), h1 (169 + l) (by unfold ra_keep; omega)]
      exact hok l hl w
    have arg : ∀ (r1 : Nat → Int) (t : Nat), t ≠ 326 → pt_up r1 (pt_wc [ra_17, .inl (0, .ofNat v)] [ra_17, .inl (326, 0)]) t = r1 t := fun r1 t ht => by
      show (if t = 326 then _ else r1 t) = r1 t
      rw [if_neg ht]
    have arg1 : ∀ (r1 : Nat → Int), pt_up r1 (pt_wc [ra_17, .inl (0, .ofNat v)] [ra_17, .inl (326, 0)]) 326 = (v : Int) := fun r1 => rfl
    -- what goes off
    refine hcall (18, 0, 0) _ _ _ _ _ r' M 39 0 326 _ _ ra_fpl c1 c2 (ra_fill (by omega)) (okc _ (fun t ht => (arg r' t (by unfold ra_keep at ht; omega)).trans (hk t ht))) (fun r1 M1 o hq => ?_)
    obtain ⟨o1, o2, o3, o4⟩ := hq
    subst o1 o2
    rw [rc1, rs1]
    -- turned
    refine hseg _ _ _ _ _ _ _ _ _ _ _ _ (List.all_eq_true.mp ra_r_t v (List.mem_range.mpr (by omega))) ⟨pt_m0, pt_m0, pt_m0⟩ ⟨fun _ => ?_, trivial⟩
    obtain ⟨s1, hs1⟩ : ∃ s1, s1 = pt_mrg 325 r' r1 326 none := ⟨_, rfl⟩
    have m1 : ∀ t, t < 325 → s1 t = r1 t := fun t ht => by
      rw [hs1]
      exact if_pos ht
    have p1 : ∀ q, q < 9 → s1 (301 + q) = ra_pl r (v : Int) 5 q := fun q hq => by
      rw [m1 _ (by omega), o3 q hq, arg1]
      exact ra_pl_c (fun t ht => (arg r' t (by unfold ra_keep at ht; omega)).trans (hk t ht)) hbd 5 (by omega) q hq
    have k1 : ∀ t, t < 325 → ¬(301 ≤ t ∧ t < 310) → s1 t = r' t := fun t ht hn => by
      rw [m1 t ht, o4 t ht hn]
      exact arg r' t (by omega)
    show P (73, 0, 0) _ _ (pt_up (pt_mrg 325 r' r1 326 none) (ra_tW v)) M1
    rw [← hs1]
    obtain ⟨s2, hs2⟩ : ∃ s2, s2 = pt_up s1 (ra_tW v) := ⟨_, rfl⟩
    rw [← hs2]
    have wb := ra_wnb (v := v) (by omega)
    have k2 : ∀ t, t < 325 → ¬(301 ≤ t ∧ t < 310) → ¬(310 ≤ t ∧ t < 310 + 9) → t ≠ ra_wn v → s2 t = r' t := fun t ht h1 h2 h3 => by
      rw [hs2, ra_tW_ne h3 h2]
      exact k1 t ht h1
    have w2 : s2 (ra_wn v) = ra_wv (ra_pl r (v : Int) 5) := by
      rw [hs2, ra_tW_w]
      exact ra_wv_c p1
    have t2 : ∀ q, q < 9 → s2 (310 + q) = ra_tv (ra_pl r (v : Int) 5) q := fun q hq => by
      rw [hs2, ra_tW_t (by omega) hq]
      exact ra_tv_c p1 q
    have kk2 : ∀ t, ra_keep t → s2 t = r t := fun t ht => by
      have ht' := ht
      unfold ra_keep at ht'
      rw [k2 t ht'.1 ht'.2.1 ht'.2.2.1 (by omega)]
      exact hk t ht
    -- shares
    refine hcall (73, 0, 0) _ _ _ _ _ s2 M1 42 0 326 _ _ ra_spl c3 c4 (ra_shares (v := v) (by omega) (by omega)) ⟨okc _ (fun t ht => (arg s2 t (by unfold ra_keep at ht; omega)).trans (kk2 t ht)), arg1 s2⟩ (fun r3 M3 o hq => ?_)
    obtain ⟨o5, o6, o7, o8⟩ := hq
    subst o5 o6
    rw [rc2, rs2]
    refine hseg _ _ _ _ _ _ _ _ _ _ _ _ (List.all_eq_true.mp ra_r_i v (List.mem_range.mpr (by omega))) ⟨pt_m0, pt_m0, pt_m0⟩ ⟨fun _ => ?_, trivial⟩
    obtain ⟨s3, hs3⟩ : ∃ s3, s3 = pt_mrg 325 s2 r3 326 none := ⟨_, rfl⟩
    have hb := ra_hnb (v := v) (by omega)
    have m3 : ∀ t, t < 325 → ¬(ra_hn v ≤ t ∧ t < ra_hn v + 20) → s3 t = s2 t := fun t ht hn => by
      rw [hs3]
      show (if t < 325 then r3 t else _) = s2 t
      rw [if_pos ht, o8 t ht hn]
      exact arg s2 t (by omega)
    show P (2, 0, 0) (ra_rL (v + 1)) [] (pt_mrg 325 s2 r3 326 none) M3
    rw [← hs3]
    refine ih (v + 1) s3 (by omega) (by omega) (fun u hu' => ?_) (fun t ht => ?_)
    · by_cases q : u = v
      · subst q
        refine ⟨?_, fun l hl hll p hp => ?_⟩
        · rw [m3 _ (by omega) (by omega)]
          exact w2
        · have e1 : s2 123 = r 123 := kk2 _ (by unfold ra_keep; omega)
          have e2 : s2 (164 + l) = r (164 + l) := kk2 _ (by unfold ra_keep; omega)
          have e3 : s2 (169 + l) = r (169 + l) := kk2 _ (by unfold ra_keep; omega)
          have e4 : s2 (174 + l) = r (174 + l) := kk2 _ (by unfold ra_keep; omega)
          have g := o7 l hl (by rw [arg s2 _ (by omega), e1]; exact hll) p hp
          rw [hs3]
          show (if ra_hn u + 4 * l + p < 325 then r3 (ra_hn u + 4 * l + p) else _) = _
          rw [if_pos (by omega), g]
          unfold ra_sv
          obtain ⟨b1, b2⟩ := hbd l hl
          rw [arg s2 _ (by omega), arg s2 _ (by omega), e2, e3, ra_sx_c (r := s2) (arg s2 _ (by omega)) (fun q _ => arg s2 _ (by omega)) (by omega) (by omega) hp, ra_shv_ok t2 (by omega) (by omega) hp, e4]
      · have hu6 : u < 6 := by omega
        have bu := ra_hnb hu6
        have wu := ra_wnb hu6
        have dis : ra_wn u ≠ ra_wn v ∧ (ra_hn u + 20 ≤ ra_hn v ∨ ra_hn v + 20 ≤ ra_hn u) := by
          have hu0 := ra_wh0
          have hus := ra_whs
          rcases Nat.eq_zero_or_pos u with z | z
          · rcases Nat.eq_zero_or_pos v with y | y
            · exact absurd (z.trans y.symm) q
            · obtain ⟨v1, rfl⟩ : ∃ v1, v = v1 + 1 := ⟨v - 1, by omega⟩
              rw [z, hu0.1, hu0.2, (hus v1).1, (hus v1).2]
              omega
          · obtain ⟨u1, rfl⟩ : ∃ u1, u = u1 + 1 := ⟨u - 1, by omega⟩
            rcases Nat.eq_zero_or_pos v with y | y
            · rw [y, hu0.1, hu0.2, (hus u1).1, (hus u1).2]
              omega
            · obtain ⟨v1, rfl⟩ : ∃ v1, v = v1 + 1 := ⟨v - 1, by omega⟩
              rw [(hus u1).1, (hus u1).2, (hus v1).1, (hus v1).2]
              omega
        have same : ∀ t, t < 325 → ¬(301 ≤ t ∧ t < 310) → ¬(310 ≤ t ∧ t < 310 + 9) → t ≠ ra_wn v → ¬(ra_hn v ≤ t ∧ t < ra_hn v + 20) → s3 t = r' t := fun t h1 h2 h3 h4 h5 => (m3 t h1 h5).trans (k2 t h1 h2 h3 h4)
        obtain ⟨a1, a2⟩ := hu u (by omega)
        refine ⟨?_, fun l hl hll p hp => ?_⟩
        · rw [same _ (by omega) (by omega) (by omega) dis.1 (by omega)]
          exact a1
        · rw [same _ (by omega) (by omega) (by omega) (by omega) (by omega)]
          exact a2 l hl hll p hp
    · have ht' := ht
      unfold ra_keep at ht'
      rw [m3 t ht'.1 (by omega)]
      exact kk2 t ht
theorem ra_rework (hn : 5 ≤ n) : pt_Met (n + 1) 38 raY [ra_17] (fun r _ => ra_ok r) ra_rQ 0 := by
  refine pt_intro (L0 := [ra_17, ra_u, ra_u]) ra_rpl (by omega) rasys (by
    have e : (ct_mt 38).2.2.1 = 3 := by decide +kernel
    rw [e]
    rfl) (fun P r M h hok => ?_)
  obtain ⟨m1, m2, m3⟩ := ra_bnd
  refine h.2.1 _ _ _ _ _ (fun hE _ => ?_)
  have loop := ra_rloop hn h hok (fun l hl => ⟨ra_eb hE (m3 l hl).1, ra_eb hE (m3 l hl).2.1⟩) (ra_eb hE m1)
  refine h.1 _ _ _ _ _ _ _ _ _ _ _ _ ra_r_0 ⟨pt_m0, pt_m0, pt_m0⟩ ⟨fun _ => ?_, trivial⟩
  exact loop 6 0 _ rfl (by omega) (fun u hu => absurd hu (by omega)) (fun t _ => rfl)
end RAR
