/-! METHODS OF THE PROGRAM -/
noncomputable def ct_S (y : ai_MT) (d : Nat) (t : ai_T (List fr_I) d) : Prop := ft_T ct_strs ct_mt y.1.cls (decide (y.1.name = "<init>")) y.2.2.2.1 y.2.1 (y.2.2.2.2.1.getD []) d t
noncomputable def ct_G (c : ct_L) : Prop := match c with
  | none => True
  | some (code, hand, _, y) => ai_mok ft_W y ∧ fr_nx code ∧ ai_tab ft_W ft_N ct_strs ct_mt y.1.cls (decide (y.1.name = "<init>")) y.2.2.2.1 y.2.1 (y.2.2.2.2.1.getD []) (fun pc => (code pc).map fr_un) ∧ ∀ pc z, match hand pc z with
    | none => ∀ x ∈ ai_rows y.2.2.2.2.1, covers x pc = false
    | some (k, pcn) => (pcn = 99999 ∧ code 99999 = none) ∨ ai_hk ft_W ft_N y.1.cls y.2.2.1 y.2.1 (ai_rows y.2.2.2.2.1) pc z k pcn
theorem ct_G0 {y : ai_MT} {d : Nat} {t : ai_T (List fr_I) d} {b : Nat × Nat} (h1 : ai_mok ft_W y) (h2 : ct_S y d t) (h3 : y.2.2.2.2.1 = none) : ct_G (some (fr_code d t, (fun _ _ => none), b, y)) :=
  ⟨h1, ft_T.nx h2, ft_T.tab h2, fun pc z => by
    show ∀ x ∈ ai_rows y.2.2.2.2.1, covers x pc = false
    rw [h3]
    exact fun x hx => by cases hx⟩
/-- a row of a table of handlers: from, to, exception, local, place behind its store; the class file's row -/
noncomputable def ct_row (uw : List Cond) (own : String) (nL : Nat) (cc : ByteArray) (r : Nat × Nat × Nat × Nat × Nat) (s : Nat × Nat × Nat × Nat) : Bool := match r, s with
  | (a, b, x, k, q), (a', b', h, ct) => Nat.beq a a' && (Nat.beq b b' && (Nat.blt k nL && (Nat.blt 0 ct && (Nat.ble x 1 && (ft_good uw (Cond.classLink own ct (ai_exn x)) && (ft_nk uw (Cond.castable (ai_exn x) (ai_exn x)) &&
    ((decide (decode cc h = .ok (.astore k, 2)) && Nat.beq q (h + 2)) || (Nat.blt k 4 && (decide (decode cc h = .ok (.astore_n (Fin.ofNat 4 k), 1)) && Nat.beq q (h + 1))))))))))
noncomputable def ct_Row (own : String) (nL : Nat) (cc : ByteArray) (r : Nat × Nat × Nat × Nat × Nat) (s : Nat × Nat × Nat × Nat) : Prop :=
  s.1 = r.1 ∧ s.2.1 = r.2.1 ∧ r.2.2.2.1 < nL ∧ s.2.2.2 ≠ 0 ∧ Cond.classLink own s.2.2.2 (ai_exn r.2.2.1) ∈ ft_W ∧ Cond.castable (ai_exn r.2.2.1) (ai_exn r.2.2.1) ∈ ft_N ∧
    ((decode cc s.2.2.1 = .ok (.astore r.2.2.2.1, 2) ∧ r.2.2.2.2 = s.2.2.1 + 2) ∨ ∃ j : Fin 4, (j : Nat) = r.2.2.2.1 ∧ decode cc s.2.2.1 = .ok (.astore_n j, 1) ∧ r.2.2.2.2 = s.2.2.1 + 1)
theorem ct_row_ok {uw : List Cond} (hu : ∀ u ∈ uw, u ∈ lw_tbl) {own : String} {nL : Nat} {cc : ByteArray} {r : Nat × Nat × Nat × Nat × Nat} {s : Nat × Nat × Nat × Nat} (h : ct_row uw own nL cc r s = true) : ct_Row own nL cc r s := by
  obtain ⟨a, b, x, k, q⟩ := r
  obtain ⟨a', b', h', ct⟩ := s
  unfold ct_row at h
  simp only [Bool.and_eq_true, Bool.or_eq_true, decide_eq_true_eq] at h
  obtain ⟨h1, h2, h3, h4, h5, h6, h7, h8⟩ := h
  have h4 : 0 < ct := Nat.le_of_ble_eq_true h4
  refine ⟨(Nat.eq_of_beq_eq_true h1).symm, (Nat.eq_of_beq_eq_true h2).symm, Nat.le_of_ble_eq_true h3, Nat.ne_of_gt h4, ft_good_ok hu h6, ft_nk_ok hu h7, ?_⟩
  rcases h8 with ⟨g1, g2⟩ | ⟨g0, g1, g2⟩
  · exact Or.inl ⟨g1, Nat.eq_of_beq_eq_true g2⟩
  · have g0 : k < 4 := Nat.le_of_ble_eq_true g0
    exact Or.inr ⟨Fin.ofNat 4 k, Nat.mod_eq_of_lt g0, g1, Nat.eq_of_beq_eq_true g2⟩
noncomputable def ct_Hb (uw : List Cond) (y : ai_MT) (l : List (Nat × Nat × Nat × Nat × Nat)) : Bool := match y.2.2.2.2.1 with
  | none => false
  | some tb => match l, tb with
    | [r], [s] => ct_row uw y.1.cls y.2.2.1 y.2.1 r s
    | [r, r'], [s, s'] => ct_row uw y.1.cls y.2.2.1 y.2.1 r s && (ct_row uw y.1.cls y.2.2.1 y.2.1 r' s' && (Nat.beq r.2.2.1 0 && Nat.beq r'.2.2.1 1))
    | _, _ => false
noncomputable def ct_Hp (y : ai_MT) (l : List (Nat × Nat × Nat × Nat × Nat)) : Prop := ∃ tb, y.2.2.2.2.1 = some tb ∧ ((∃ r s, l = [r] ∧ tb = [s] ∧ ct_Row y.1.cls y.2.2.1 y.2.1 r s) ∨
  ∃ r s r' s', l = [r, r'] ∧ tb = [s, s'] ∧ ct_Row y.1.cls y.2.2.1 y.2.1 r s ∧ ct_Row y.1.cls y.2.2.1 y.2.1 r' s' ∧ r.2.2.1 = 0 ∧ r'.2.2.1 = 1)
theorem ct_H_ok {gs : List (List Nat)} {y : ai_MT} {l : List (Nat × Nat × Nat × Nat × Nat)} (h : ct_Hb (ft_pick gs ft_ls) y l = true) : ct_Hp y l := by
  have hu : ∀ u ∈ ft_pick gs ft_ls, u ∈ lw_tbl := fun u hu => ft_pick_ok hu
  unfold ct_Hb at h
  split at h
  · cases h
  · rename_i tb e
    refine ⟨tb, e, ?_⟩
    split at h
    · exact Or.inl ⟨_, _, rfl, rfl, ct_row_ok hu h⟩
    · simp only [Bool.and_eq_true] at h
      obtain ⟨h1, h2, h3, h4⟩ := h
      exact Or.inr ⟨_, _, _, _, rfl, rfl, ct_row_ok hu h1, ct_row_ok hu h2, Nat.eq_of_beq_eq_true h3, Nat.eq_of_beq_eq_true h4⟩
    · cases h
theorem ct_cover {s : Nat × Nat × Nat × Nat} {a b pc : Nat} (h1 : s.1 = a) (h2 : s.2.1 = b) : covers ⟨s.1, s.2.1, s.2.2.1, s.2.2.2⟩ pc = (Nat.ble a pc && Nat.blt pc b) := by
  subst h1
  subst h2
  unfold covers
  congr 1
  · cases e : Nat.ble s.1 pc with
    | true => exact decide_eq_true (Nat.le_of_ble_eq_true e)
    | false => exact decide_eq_false (fun q => by rw [Nat.ble_eq_true_of_le q] at e; cases e)
  · cases e : Nat.blt pc s.2.1 with
    | true => exact decide_eq_true (Nat.le_of_ble_eq_true e)
    | false => exact decide_eq_false (fun q => by rw [show Nat.blt pc s.2.1 = true from Nat.ble_eq_true_of_le q] at e; cases e)
theorem ct_G1 {y : ai_MT} {d : Nat} {t : ai_T (List fr_I) d} {b : Nat × Nat} {l : List (Nat × Nat × Nat × Nat × Nat)} (h1 : ai_mok ft_W y) (h2 : ct_S y d t) (h3 : ct_Hp y l) (h4 : fr_code d t 99999 = none) : ct_G (some (fr_code d t, ct_hand l, b, y)) := by
  refine ⟨h1, ft_T.nx h2, ft_T.tab h2, fun pc z => ?_⟩
  obtain ⟨tb, e, h⟩ := h3
  rw [e]
  have esc : (99999 = 99999 ∧ fr_code d t 99999 = none) := ⟨rfl, h4⟩
  rcases h with ⟨⟨a, bb, x, k, q⟩, s, rfl, rfl, hr⟩ | ⟨⟨a, bb, x, k, q⟩, s, ⟨a', bb', x', k', q'⟩, s', rfl, rfl, hr, hr', hx, hx'⟩
  · obtain ⟨r1, r2, r3, r4, r5, r6, r7⟩ := hr
    have hc := ct_cover (pc := pc) r1 r2
    unfold ct_hand ai_hand ai_hand ct_cov ct_cov
    cases e1 : Nat.ble a pc <;> cases e2 : Nat.blt pc bb <;> dsimp only <;> dsimp only at hc <;> rw [e1, e2] at hc
    · intro w hw; rcases List.mem_cons.mp hw with rfl | hw; exact hc; cases hw
    · intro w hw; rcases List.mem_cons.mp hw with rfl | hw; exact hc; cases hw
    · intro w hw; rcases List.mem_cons.mp hw with rfl | hw; exact hc; cases hw
    · cases e3 : Nat.beq x z with
      | false => exact Or.inl esc
      | true =>
        have e3 := Nat.eq_of_beq_eq_true e3
        subst e3
        exact Or.inr ⟨r3, [], _, [], ai_exn x, rfl, fun w hw => (by cases hw), hc, r4, r5, r6, r7⟩
  · have hx : x = 0 := hx
    have hx' : x' = 1 := hx'
    subst hx
    subst hx'
    obtain ⟨r1, r2, r3, r4, r5, r6, r7⟩ := hr
    obtain ⟨t1, t2, t3, t4, t5, t6, t7⟩ := hr'
    have hc := ct_cover (pc := pc) r1 r2
    have hc' := ct_cover (pc := pc) t1 t2
    have both : ∀ {u v : Bool}, covers ⟨s.1, s.2.1, s.2.2.1, s.2.2.2⟩ pc = false → covers ⟨s'.1, s'.2.1, s'.2.2.1, s'.2.2.2⟩ pc = false → ∀ w ∈ ai_rows (some [s, s']), covers w pc = false := fun {u v} g g' w hw => by
      rcases List.mem_cons.mp hw with rfl | hw
      · exact g
      · rcases List.mem_cons.mp hw with rfl | hw
        · exact g'
        · cases hw
    have one : covers ⟨s.1, s.2.1, s.2.2.1, s.2.2.2⟩ pc = true → ai_hk ft_W ft_N y.1.cls y.2.2.1 y.2.1 (ai_rows (some [s, s'])) pc 0 k q := fun g => ⟨r3, [], _, [_], ai_exn 0, rfl, fun w hw => (by cases hw), g, r4, r5, r6, r7⟩
    have two : covers ⟨s'.1, s'.2.1, s'.2.2.1, s'.2.2.2⟩ pc = true → ai_hk ft_W ft_N y.1.cls y.2.2.1 y.2.1 (ai_rows (some [s, s'])) pc 1 k' q' := fun g => ⟨t3, [_], _, [], ai_exn 1, rfl, (fun w hw => by
      rcases List.mem_cons.mp hw with rfl | hw
      · exact Or.inr ⟨r4, _, r5, List.mem_cons_self⟩
      · cases hw), g, t4, t5, t6, t7⟩
    have key : (match ct_hand [(a, bb, 0, k, q), (a', bb', 1, k', q')] pc z with
      | none => ∀ w ∈ ai_rows (some [s, s']), covers w pc = false
      | some (k, pcn) => (pcn = 99999 ∧ fr_code d t 99999 = none) ∨ ai_hk ft_W ft_N y.1.cls y.2.2.1 y.2.1 (ai_rows (some [s, s'])) pc z k pcn) := by
      dsimp only at hc hc'
      have z0 : Nat.beq 0 z = true → z = 0 := fun g => (Nat.eq_of_beq_eq_true g).symm
      have z1 : Nat.beq 1 z = true → z = 1 := fun g => (Nat.eq_of_beq_eq_true g).symm
      unfold ct_hand ai_hand ai_hand ai_hand ct_cov ct_cov ct_cov
      cases e1 : Nat.ble a pc <;> cases e2 : Nat.blt pc bb <;> cases e3 : Nat.ble a' pc <;> cases e4 : Nat.blt pc bb' <;> rw [e1, e2] at hc <;> rw [e3, e4] at hc' <;> cases e5 : Nat.beq 0 z <;> cases e6 : Nat.beq 1 z <;> dsimp only <;>
        first
        | exact both (u := true) (v := true) hc hc'
        | exact Or.inl esc
        | (have q := z0 e5; subst q; exact Or.inr (one hc))
        | (have q := z1 e6; subst q; exact Or.inr (two hc'))
    exact key
/-- all methods -/
noncomputable def ct_A (d : Nat) (t : ai_T ct_L d) : Prop := ∀ k, ct_G (ai_tget d t k)
theorem ct_A.leaf {c : ct_L} (h : ct_G c) : ct_A 0 c := fun _ => h
theorem ct_A.no : ct_A 0 (none : ct_L) := fun _ => trivial
theorem ct_A.nd {d : Nat} {a b : ai_T ct_L d} (ha : ct_A d a) (hb : ct_A d b) : ct_A (d + 1) (ai_nd d a b) := by
  intro k
  simp only [ai_tget_c]
  split
  · exact ha _
  · exact hb _
