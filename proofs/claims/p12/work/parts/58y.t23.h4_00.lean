/-! TEXTS (the reference): step, whole -/
noncomputable def gb_km (t : Nat) : Int := if t = 1 then 2 else if t = 2 then 1 else (t : Int)
/-- what a token looks like -/
noncomputable def gb_tok (A : Nat → Int) (N p : Nat) (r : Nat → Int) : Prop := (r 81 = (ps_st A N p : Int) ∧ r 78 = gb_km (ps_tk A N p) ∧ r 76 = (ps_en A N p : Int) ∧ r 82 = (ps_en A N p : Int)) ∧ (ps_tk A N p = 3 → r 79 = ps_vl A N p) ∧ (ps_tk A N p = 1 → 0 ≤ ps_vl A N p → r 80 = ps_vl A N p)
theorem gb_tok_c {A : Nat → Int} {N p : Nat} {r r2 : Nat → Int} (e : ∀ t, 76 ≤ t → t ≤ 82 → r2 t = r t) (h : gb_tok A N p r) : gb_tok A N p r2 := by
  obtain ⟨⟨a1, a2, a3, a4⟩, a5, a6⟩ := h
  exact ⟨⟨(e _ (by omega) (by omega)).trans a1, (e _ (by omega) (by omega)).trans a2, (e _ (by omega) (by omega)).trans a3, (e _ (by omega) (by omega)).trans a4⟩, fun w => (e _ (by omega) (by omega)).trans (a5 w), fun w z => (e _ (by omega) (by omega)).trans (a6 w z)⟩
noncomputable def gb_sch (t : Nat) : Bool := [76, 78, 79, 80, 81, 82].elem t
noncomputable def gb_sQ (A : Nat → Int) (N p : Nat) (r : Nat → Int) (M : Nat → Nat → Int) (r2 : Nat → Int) (M2 : Nat → Nat → Int) (o : Option Int) : Prop := (o = none ∧ M2 = M) ∧ gb_tok A N p r2 ∧ ∀ t, t < 391 → gb_sch t = false → r2 t = r t
theorem gb_sch_n {t : Nat} (h : gb_sch t = false) : t ≠ 76 ∧ t ≠ 78 ∧ t ≠ 79 ∧ t ≠ 80 ∧ t ≠ 81 ∧ t ≠ 82 := by
  have key : ∀ u ∈ [76, 78, 79, 80, 81, 82], t ≠ u := fun u hu e => by
    subst e
    have := List.elem_eq_true_of_mem hu
    unfold gb_sch at h
    rw [this] at h
    cases h
  exact ⟨key _ (by simp), key _ (by simp), key _ (by simp), key _ (by simp), key _ (by simp), key _ (by simp)⟩
/-- a number: its value is as its digits say, where it isn't too long -/
theorem ps_nvd {A : Nat → Int} {N : Nat} {p : Nat} (hA : ps_A A N) (hp : p ≤ N) (t : ps_tk A N p = 1) : (ps_en A N p - ps_st A N p ≤ 5 → ps_vl A N p = ps_dec A (ps_st A N p) (ps_en A N p - ps_st A N p) ∧ 0 ≤ ps_vl A N p ∧ ps_vl A N p ≤ 99999) ∧ (5 < ps_en A N p - ps_st A N p → ps_vl A N p = -1) := by
  have v : ps_vl A N p = ps_nv A (ps_st A N p) (ps_en A N p) := if_pos t
  have c0 : ps_c A N p ≠ -1 := fun e => by
    have := ps_tk_end.mpr e
    omega
  have ca : ¬ ps_al (ps_c A N p) = true := fun e => by
    have : ps_tk A N p = 2 := (if_neg c0).trans (if_pos e)
    omega
  have cd : ps_dg (ps_c A N p) = true := by
    by_cases e : ps_dg (ps_c A N p) = true
    · exact e
    · exfalso
      have h : ps_tk A N p = (if ps_sg (ps_c A N p) = true then 3 else 4) := (if_neg c0).trans ((if_neg ca).trans (if_neg e))
      split at h <;> omega
  have e1 : ps_en A N p = ps_wh ps_dg A N N (ps_st A N p) := (if_neg c0).trans ((if_neg ca).trans (if_pos cd))
  have w := ps_wh_ok (A := A) (n := N) ps_f1.2.2.1 N (ps_st A N p) (by omega)
  rw [← e1] at w
  have s1 := ps_st_le (A := A) hp
  have en := ps_en_le hA hp (by omega : ps_tk A N p ≠ 0)
  refine ⟨fun h => ?_, fun h => ?_⟩
  · have e2 : ps_vl A N p = ps_dec A (ps_st A N p) (ps_en A N p - ps_st A N p) := v.trans (if_pos h)
    have db := ps_dec_b (A := A) (s := ps_st A N p) (ps_en A N p - ps_st A N p) (fun j hj => by
      have := ps_dg_iff.mp (w.2.1 (ps_st A N p + j) (by omega) (by omega))
      rw [ps_b_lt (by omega)] at this
      exact this)
    have p10 : 10 ^ (ps_en A N p - ps_st A N p) ≤ 10 ^ 5 := Nat.pow_le_pow_right (by omega) h
    exact ⟨e2, by rw [e2]; exact db.1, by rw [e2]; omega⟩
  · exact v.trans (if_neg (by omega))
theorem gb_sM {A : Nat → Int} {N p n : Nat} (hn : 5 ≤ n) : pt_Met (n + 1) 188 gbY [wa_r 264] (fun r M => gb_T A N r M ∧ r 76 = (p : Int) ∧ p ≤ N) (gb_sQ A N p) 0 := by
  obtain ⟨n, rfl⟩ : ∃ m, n = m + 1 := ⟨n - 1, by omega⟩
  refine pt_intro (L0 := gb_L) (gb_b0 188 (by decide)).2 (by omega) gbsys (by
    rw [gb_s_k.2.2]
    rfl) (fun P r M h hp => ?_)
  have h' := h
  obtain ⟨hseg, henv, -, -, -, -, -, -, -, -, -, -, -, hvret⟩ := h'
  obtain ⟨hT, p1, p2⟩ := hp
  have hA := hT.2.1
  have N2 := hA.1
  have fin : ∀ r5, gb_tok A N p r5 → (∀ t, t < 391 → gb_sch t = false → r5 t = r t) → P (288, 0, 0) gb_L [] r5 M := fun r5 a b => hvret (288, 0, 0) _ r5 M rfl gb_s_k.2.1 (Nat.ble_eq_true_of_le (Nat.zero_le _)) (Nat.ble_eq_true_of_le (Nat.zero_le _)) ⟨⟨rfl, rfl⟩, a, b⟩
  refine hseg _ _ _ _ _ r M _ _ _ _ _ gb_s_a.1 ⟨pt_m0, pt_m0, pt_m0⟩ ⟨fun _ => ?_, trivial⟩
  refine gb_sl1 (r0 := r) (M := M) (A := A) (N := N) (s := p) h (by omega) hT (fun r2 e w eN e2 b2 f2 => ?_) (N + 1) p r (by omega) p1 (Nat.le_refl _) p2 (fun _ _ _ => rfl) (fun j j1 j2 => absurd j2 (by omega))
  have eW : e = ps_st A N p := ps_W_u w (ps_st_W p)
  have ec : ps_b A N e = ps_c A N p := by rw [eW]; rfl
  have T2 : gb_T A N r2 M := gb_T_c (f2 _ (by omega) (by omega) (by omega) (by omega)) rfl hT
  refine gb_bcall (A := A) (N := N) (i := e) (S' := []) h (by omega) gb_s_k.1.2.2.1 T2 e2 (by omega) ?_
  rw [ec]
  obtain ⟨r4, hr4⟩ : ∃ r4, r4 = pt_set r2 471 (ps_c A N p) := ⟨_, rfl⟩
  rw [← hr4]
  have n4 : ∀ t, t ≠ 471 → r4 t = r2 t := fun t ht => by
    rw [hr4]
    exact if_neg ht
  have s4 : r4 471 = ps_c A N p := by
    rw [hr4]
    exact gz_sset
  have fr4 : ∀ t, t < 391 → t ≠ 76 → t ≠ 81 → t ≠ 79 → r4 t = r t := fun t h1 h2 h3 h4 => (n4 t (by omega)).trans (f2 t h1 h2 h3 h4)
  have bg4 : r4 81 = (e : Int) := (n4 _ (by omega)).trans b2
  have at4 : r4 76 = (e : Int) := (n4 _ (by omega)).trans e2
  have T4 : gb_T A N r4 M := gb_T_c (n4 _ (by omega)) rfl T2
  have rg : -1 ≤ ps_c A N p ∧ ps_c A N p ≤ 255 := ps_b_rg hA _
  obtain ⟨⟨c1, c2, c3⟩, -⟩ := gb_s_b
  show P (60, 0, 0) gb_L [wa_i 471] r4 M
  by_cases q0 : ps_c A N p = -1
  · have t0 : ps_tk A N p = 0 := if_pos q0
    have en0 : ps_en A N p = e := (if_pos q0).trans eW.symm
    refine hseg _ _ _ _ _ r4 M _ _ _ _ _ c1 ⟨pt_m0, pt_m1 ⟨by show (-1 : Int) ≤ r4 471; omega, by show r4 471 ≤ (-1 : Int); omega⟩, pt_m0⟩ ⟨fun _ => ?_, trivial⟩
    obtain ⟨r5, hr5⟩ : ∃ r5, r5 = pt_up r4 [(78, gz_k 0), (82, gz_p 76)] := ⟨_, rfl⟩
    show P (288, 0, 0) gb_L [] (pt_up r4 [(78, gz_k 0), (82, gz_p 76)]) M
    rw [← hr5]
    have n5 : ∀ t, t ≠ 78 → t ≠ 82 → r5 t = r4 t := fun t h1 h2 => by
      rw [hr5]
      exact (if_neg h1).trans (if_neg h2)
    refine fin r5 ⟨⟨by rw [n5 _ (by omega) (by omega), bg4, eW], by rw [hr5, t0]; rfl, by rw [n5 _ (by omega) (by omega), at4, en0], by rw [en0, hr5]; exact at4⟩, fun w => by omega, fun w => by omega⟩ (fun t h1 h2 => ?_)
    obtain ⟨z1, z2, z3, z4, z5, z6⟩ := gb_sch_n h2
    rw [n5 t z2 z6, fr4 t h1 z1 z5 z3]
  by_cases q1 : ps_al (ps_c A N p) = true
  · have cc := ps_al_iff.mp q1
    have t2 : ps_tk A N p = 2 := (if_neg q0).trans (if_pos q1)
    have en2 : ps_en A N p = ps_wh ps_al A N N e := by
      rw [eW]
      exact (if_neg q0).trans (if_pos q1)
    refine hseg _ _ _ _ _ r4 M _ _ _ _ _ c2 ⟨pt_m0, pt_m1 ⟨by show (97 : Int) ≤ r4 471; omega, by show r4 471 ≤ (122 : Int); omega⟩, pt_m0⟩ ⟨fun _ => ?_, trivial⟩
    show P (86, 0, 0) gb_L gb_aw r4 M
    refine gb_sl2 (r0 := r4) (M := M) (A := A) (N := N) (s := e) h (by omega) T4 (fun r5 u w5 a5 b5 k5 f5 => ?_) (N + 1) e r4 (by omega) at4 (Nat.le_refl _) eN (fun _ _ _ => rfl) (fun j j1 j2 => absurd j2 (by omega))
    have eu : u = ps_en A N p := by
      rw [en2]
      exact ps_W_u w5 (ps_wh_ok ps_f1.2.1 N e (by omega))
    refine fin r5 ⟨⟨by rw [f5 _ (by omega) (by omega) (by omega) (by omega), bg4, eW], by rw [k5, t2]; rfl, by rw [a5, eu], by rw [b5, eu]⟩, fun w => by omega, fun w => by omega⟩ (fun t h1 h2 => ?_)
    obtain ⟨z1, z2, z3, z4, z5, z6⟩ := gb_sch_n h2
    rw [f5 t h1 z1 z2 z6, fr4 t h1 z1 z5 z3]
  have nal : ps_al (ps_c A N p) = false := by
    rw [Bool.eq_false_iff]
    exact q1
  by_cases q2 : ps_dg (ps_c A N p) = true
  · have cc := ps_dg_iff.mp q2
    have t1 : ps_tk A N p = 1 := (if_neg q0).trans ((if_neg q1).trans (if_pos q2))
    have en2 : ps_en A N p = ps_wh ps_dg A N N e := by
      rw [eW]
      exact (if_neg q0).trans ((if_neg q1).trans (if_pos q2))
    refine hseg _ _ _ _ _ r4 M _ _ _ _ _ c3 ⟨pt_m0, pt_m1 ⟨by show (48 : Int) ≤ r4 471; omega, by show r4 471 ≤ (57 : Int); omega⟩, pt_m0⟩ ⟨fun _ => ?_, trivial⟩
    obtain ⟨r3, hr3⟩ : ∃ r3, r3 = pt_up r4 [(80, gz_k 0)] := ⟨_, rfl⟩
    show P (133, 0, 0) gb_L gb_aw (pt_up r4 [(80, gz_k 0)]) M
    rw [← hr3]
    have n3 : ∀ t, t ≠ 80 → r3 t = r4 t := fun t h1 => by
      rw [hr3]
      exact if_neg h1
    refine gb_sl3 (r0 := r3) (M := M) (A := A) (N := N) (s := e) h (by omega) (gb_T_c (n3 _ (by omega)) rfl T4) (fun r5 u w5 a5 b5 k5 v5 f5 => ?_) (N + 1) e r3 (by omega) ((n3 _ (by omega)).trans at4) (Nat.le_refl _) eN (fun _ => by rw [Nat.sub_self, hr3]; rfl) (fun _ _ _ _ => rfl) (fun j j1 j2 => absurd j2 (by omega))
    have eu : u = ps_en A N p := by
      rw [en2]
      exact ps_W_u w5 (ps_wh_ok ps_f1.2.2.1 N e (by omega))
    have nd := ps_nvd hA p2 t1
    refine fin r5 ⟨⟨by rw [f5 _ (by omega) (by omega) (by omega) (by omega) (by omega), n3 _ (by omega), bg4, eW], by rw [k5, t1]; rfl, by rw [a5, eu], by rw [b5, eu]⟩, fun w => by omega, fun w z => ?_⟩ (fun t h1 h2 => ?_)
    · have le5 : ps_en A N p - ps_st A N p ≤ 5 := by
        rcases Nat.lt_or_ge 5 (ps_en A N p - ps_st A N p) with y | y
        · have := nd.2 y
          omega
        · exact y
      rw [(nd.1 le5).1, v5 (by rw [eu, eW]; exact le5), eu, eW]
    · obtain ⟨z1, z2, z3, z4, z5, z6⟩ := gb_sch_n h2
      rw [f5 t h1 z1 z2 z6 z4, n3 t z4, fr4 t h1 z1 z5 z3]
  have ndg : ps_dg (ps_c A N p) = false := by
    rw [Bool.eq_false_iff]
    exact q2
  obtain ⟨z, hz, ⟨z1, z2⟩, z3⟩ := gb_sin (c := ps_c A N p) (by omega) nal ndg
  have row := List.all_eq_true.mp gb_s_i z hz
  have tk : ps_tk A N p = (if ps_sg (ps_c A N p) = true then 3 else 4) := (if_neg q0).trans ((if_neg q1).trans (if_neg q2))
  have en2 : ps_en A N p = e + 1 := by
    rw [eW]
    exact (if_neg q0).trans ((if_neg q1).trans (if_neg q2))
  have en := ps_en_le hA p2 (by rw [tk]; split <;> omega)
  have km : gb_km (ps_tk A N p) = z.2.2 := by
    rw [z3, tk]
    split <;> rfl
  refine hseg _ _ _ _ _ r4 M _ _ _ _ _ row ⟨pt_m0, pt_mc ⟨by show z.1 ≤ r4 471; omega, by show r4 471 ≤ z.2.1; omega⟩ (pt_m1 ⟨by show (0 : Int) ≤ r4 76; omega, by show r4 76 ≤ (199 : Int); omega⟩), pt_m0⟩ ⟨fun _ => ?_, trivial⟩
  obtain ⟨r5, hr5⟩ : ∃ r5, r5 = pt_up r4 [(76, gz_d 76 1), (78, gz_k z.2.2), (79, gz_p 471), (82, gz_d 76 1)] := ⟨_, rfl⟩
  show P (288, 0, 0) gb_L [] (pt_up r4 [(76, gz_d 76 1), (78, gz_k z.2.2), (79, gz_p 471), (82, gz_d 76 1)]) M
  rw [← hr5]
  have n5 : ∀ t, t ≠ 76 → t ≠ 78 → t ≠ 79 → t ≠ 82 → r5 t = r4 t := fun t h1 h2 h3 h4 => by
    rw [hr5]
    exact (if_neg h1).trans ((if_neg h2).trans ((if_neg h3).trans (if_neg h4)))
  refine fin r5 ⟨⟨by rw [n5 _ (by omega) (by omega) (by omega) (by omega), bg4, eW], by rw [km, hr5]; rfl, by rw [en2, hr5]; show r4 76 + 1 = _; omega, by rw [en2, hr5]; show r4 76 + 1 = _; omega⟩, fun w => ?_, fun w => by rw [tk] at w; split at w <;> omega⟩ (fun t h1 h2 => ?_)
  · have v : ps_vl A N p = ps_c A N p := (if_neg (by omega)).trans (if_neg (by omega))
    rw [v, hr5]
    exact s4
  · obtain ⟨y1, y2, y3, y4, y5, y6⟩ := gb_sch_n h2
    rw [n5 t y1 y2 y3 y6, fr4 t h1 y1 y5 y3]
