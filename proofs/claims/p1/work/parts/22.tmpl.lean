/-! A STATE WITHIN A WIDER ONE -/
noncomputable def ai_cons (base : Nat) (r r2 : Nat → Int) (y : ai_Y) : Prop := (∀ t, t < base → r2 t = r t) ∧ ∀ t x, ai_ylook y t = some x → r2 t = ai_vx r x
noncomputable def ai_yle (y y' : ai_Y) : Prop := ∀ t x, ai_ylook y t = some x → ai_ylook y' t = some x
noncomputable def ai_yok (base : Nat) (E : ai_E) (B : List (Nat × Int × Int)) (y : ai_Y) : Prop := ∀ t x, ai_ylook y t = some x → base ≤ t ∧ x.1 < E.1 ∧ ((ai_look B t).1 ≤ (ai_iv E x).1 ∧ (ai_iv E x).2 ≤ (ai_look B t).2) ∧ ai_lo64 ≤ (ai_iv E x).1 ∧ (ai_iv E x).2 ≤ ai_hi64
theorem ai_yle.rfl' {y : ai_Y} : ai_yle y y := fun _ _ h => h
theorem ai_yle.trans {a b c : ai_Y} (h : ai_yle a b) (g : ai_yle b c) : ai_yle a c := fun t x q => g t x (h t x q)
theorem ai_cons.le {base : Nat} {r r2 : Nat → Int} {y y' : ai_Y} (h : ai_cons base r r2 y') (g : ai_yle y y') : ai_cons base r r2 y := ⟨h.1, fun t x q => h.2 t x (g t x q)⟩
noncomputable def ai_wfV (N n : Nat) (w : ai_V) : Prop := match w with
  | .inl x => x.1 < N
  | .inr (.inl x) => x.1 < N
  | .inr (.inr (some (some q))) => q < n
  | _ => True
noncomputable def ai_wfC (N n : Nat) (c : ai_C) : Prop := match c with
  | .inl (_, fs) => ∀ a ∈ fs, ai_wfV N n a
  | .inr (.inl (_, _, _, _, l)) => ai_lw N l
  | .inr (.inr _) => True
noncomputable def ai_pv (r r2 : Nat → Int) (v w : ai_V) : Prop := (w ≠ .inr (.inr none) → v ≠ .inr (.inr none)) ∧ ∀ (ad : Nat → Nat) (N N' n : Nat) (val : Value), ai_gV r ad N n v val → ai_wfV N' n w → ai_gV r2 ad N' n w val
section TM
variable {base : Nat} {E : ai_E} {B : List (Nat × Int × Int)}
theorem ai_mx_ok {y y' : ai_Y} {x w : ai_X} (h : ai_mx base E B y x w = some y') (hy : ai_yok base E B y) : ai_yok base E B y' ∧ ai_yle y y' ∧ ∀ r r2, ai_cons base r r2 y' → ai_vx r2 w = ai_vx r x := by
  unfold ai_mx at h
  split at h
  · rename_i e1
    have e1 : w.1 < base := Nat.le_of_ble_eq_true e1
    split at h
    · rename_i e2
      cases h
      have e2 := ai_xeq_iff.mp e2
      subst e2
      refine ⟨hy, ai_yle.rfl', fun r r2 hc => ?_⟩
      show r2 x.1 + x.2 = r x.1 + x.2
      rw [hc.1 _ e1]
    · cases h
  · rename_i e1
    have hb : base ≤ w.1 := by
      by_cases q : w.1 < base
      · have q2 : Nat.blt w.1 base = true := Nat.ble_eq_true_of_le q
        rw [q2] at e1; cases e1
      · omega
    split at h
    · cases h
    · rename_i e2
      have e2 := ai_eq_iff.mp e2
      split at h
      · rename_i z ez
        split at h
        · rename_i e3
          cases h
          have e3 := ai_xeq_iff.mp e3
          subst e3
          refine ⟨hy, ai_yle.rfl', fun r r2 hc => ?_⟩
          have := hc.2 _ _ ez
          show r2 w.1 + w.2 = _
          rw [e2, this]; omega
        · cases h
      · rename_i ez
        split at h
        rename_i a b c d ei el
        split at h
        · rename_i e3 e4 e5 e6 e7
          cases h
          have e3 := ai_le_iff.mp e3
          have e4 := ai_le_iff.mp e4
          have e5 := ai_le_iff.mp e5
          have e6 := ai_le_iff.mp e6
          have e7 : x.1 < E.1 := Nat.le_of_ble_eq_true e7
          have key : ∀ t z, ai_ylook ((w.1, x) :: y) t = some z → (t = w.1 ∧ z = x) ∨ (t ≠ w.1 ∧ ai_ylook y t = some z) := fun t z hz => by
            unfold ai_ylook at hz
            split at hz
            · rename_i eb
              have eb := Nat.eq_of_beq_eq_true eb
              cases hz
              exact Or.inl ⟨eb.symm, rfl⟩
            · rename_i eb
              exact Or.inr ⟨fun q => (by rw [q, Nat.beq_refl] at eb; cases eb), hz⟩
          refine ⟨fun t z hz => ?_, fun t z hz => ?_, fun r r2 hc => ?_⟩
          · rcases key t z hz with ⟨rfl, rfl⟩ | ⟨-, hz⟩
            · rw [ei, el]
              exact ⟨hb, e7, ⟨e3, e4⟩, e5, e6⟩
            · exact hy t z hz
          · show ai_ylook ((w.1, x) :: y) t = some z
            unfold ai_ylook
            split
            · rename_i eb
              have eb := Nat.eq_of_beq_eq_true eb
              subst eb
              rw [ez] at hz; cases hz
            · exact hz
          · have : r2 w.1 = ai_vx r x := hc.2 _ _ (by
              show ai_ylook ((w.1, x) :: y) w.1 = some x
              unfold ai_ylook
              rw [Nat.beq_refl])
            show r2 w.1 + w.2 = _
            rw [e2, this]; omega
        · cases h
theorem ai_mv_ok {y y' : ai_Y} {v w : ai_V} (h : ai_mv base E B y v w = some y') (hy : ai_yok base E B y) : ai_yok base E B y' ∧ ai_yle y y' ∧ ∀ r r2, ai_cons base r r2 y' → ai_pv r r2 v w := by
  unfold ai_mv at h
  split at h
  · cases h
    exact ⟨hy, ai_yle.rfl', fun r r2 hc => ⟨fun q => absurd rfl q, fun ad N N' n val _ _ => trivial⟩⟩
  · split at h
    · obtain ⟨g1, g2, g3⟩ := ai_mx_ok h hy
      refine ⟨g1, g2, fun r r2 hc => ⟨fun _ q => (by cases q), fun ad N N' n val hv hw => ?_⟩⟩
      obtain ⟨-, i, rfl, hi⟩ := hv
      exact ⟨hw, i, rfl, by rw [hi, g3 r r2 hc]⟩
    · cases h
  · split at h
    · obtain ⟨g1, g2, g3⟩ := ai_mx_ok h hy
      refine ⟨g1, g2, fun r r2 hc => ⟨fun _ q => (by cases q), fun ad N N' n val hv hw => ?_⟩⟩
      obtain ⟨-, i, rfl, hi⟩ := hv
      exact ⟨hw, i, rfl, by rw [hi, g3 r r2 hc]⟩
    · cases h
  · split at h
    · cases h
      exact ⟨hy, ai_yle.rfl', fun r r2 hc => ⟨fun _ q => (by cases q), fun ad N N' n val hv _ => hv⟩⟩
    · cases h
  · split at h
    · split at h
      · rename_i e1
        have e1 := Nat.eq_of_beq_eq_true e1
        subst e1
        cases h
        exact ⟨hy, ai_yle.rfl', fun r r2 hc => ⟨fun _ q => (by cases q), fun ad N N' n val hv _ => hv⟩⟩
      · cases h
    · cases h
theorem ai_mvs_ok : ∀ {l m : List ai_V} {y y' : ai_Y}, ai_mvs base E B y l m = some y' → ai_yok base E B y → ai_yok base E B y' ∧ ai_yle y y' ∧ l.length = m.length ∧ ∀ r r2, ai_cons base r r2 y' → (∀ i, ai_pv r r2 (ai_lget l i) (ai_lget m i)) ∧ ∀ (ad : Nat → Nat) (N N' n : Nat) (vs : List Value), ai_gF r ad N n l vs → (∀ w ∈ m, ai_wfV N' n w) → ai_gF r2 ad N' n m vs
  | [], [], y, y', h, hy => by
    cases h
    exact ⟨hy, ai_yle.rfl', rfl, fun r r2 hc => ⟨fun i => ⟨fun q => absurd rfl q, fun _ _ _ _ _ _ _ => trivial⟩, fun ad N N' n vs h _ => by
      cases vs with
      | nil => trivial
      | cons v t => exact h.elim⟩⟩
  | [], _ :: _, _, _, h, _ => by cases h
  | _ :: _, [], _, _, h, _ => by cases h
  | v :: l, w :: m, y, y', h, hy => by
    unfold ai_mvs at h
    split at h
    · rename_i y1 e1
      obtain ⟨g1, g2, g3⟩ := ai_mv_ok e1 hy
      obtain ⟨f1, f2, f3, f4⟩ := ai_mvs_ok h g1
      refine ⟨f1, g2.trans f2, congrArg Nat.succ f3, fun r r2 hc => ⟨fun i => ?_, fun ad N N' n vs hv hw => ?_⟩⟩
      · cases i with
        | zero => exact g3 r r2 (hc.le f2)
        | succ i => exact (f4 r r2 hc).1 i
      · obtain ⟨u, t, rfl, k1, k2⟩ := hv.cons
        exact ⟨(g3 r r2 (hc.le f2)).2 ad N N' n u k1 (hw _ List.mem_cons_self), (f4 r r2 hc).2 ad N N' n t k2 (fun z hz => hw z (List.mem_cons_of_mem _ hz))⟩
    · cases h
theorem ai_mos_ok : ∀ {l m : List (ai_X × ai_X)} {y y' : ai_Y}, ai_mos base E B y l m = some y' → ai_yok base E B y → ai_yok base E B y' ∧ ai_yle y y' ∧ ∀ r r2, ai_cons base r r2 y' → ∀ (lo hi lo' hi' : Int), lo' ≤ lo → hi ≤ hi' → ∀ j v, ai_ov r lo hi l j v → ai_ov r2 lo' hi' m j v
  | [], [], y, y', h, hy => by
    cases h
    exact ⟨hy, ai_yle.rfl', fun r r2 hc lo hi lo' hi' h1 h2 j v hv => ⟨Int.le_trans h1 hv.1, Int.le_trans hv.2 h2⟩⟩
  | [], _ :: _, _, _, h, _ => by cases h
  | _ :: _, [], _, _, h, _ => by cases h
  | (i, v) :: l, (j, w) :: m, y, y', h, hy => by
    unfold ai_mos at h
    split at h
    · cases h
    · rename_i y1 e1
      split at h
      · rename_i y2 e2
        obtain ⟨g1, g2, g3⟩ := ai_mx_ok e1 hy
        obtain ⟨k1, k2, k3⟩ := ai_mx_ok e2 g1
        obtain ⟨f1, f2, f3⟩ := ai_mos_ok h k1
        refine ⟨f1, g2.trans (k2.trans f2), fun r r2 hc lo hi lo' hi' h1 h2 q u hv => ?_⟩
        have a1 := g3 r r2 (hc.le (k2.trans f2))
        have a2 := k3 r r2 (hc.le f2)
        exact ⟨fun z => by rw [a2]; exact hv.1 (by rw [← a1]; exact z), fun z => f3 r r2 hc lo hi lo' hi' h1 h2 q u (hv.2 (by rw [← a1]; exact z))⟩
      · cases h
theorem ai_within_ok {r : Nat → Int} (hE : ai_gE r E) {lo hi lo' hi' : Int} (h1 : lo' ≤ lo) (h2 : hi ≤ hi') {j : Nat} {v : Int} : ∀ {l : List (ai_X × ai_X)}, ai_lw E.1 l → ai_within E lo' hi' l = true → ai_ov r lo hi l j v → lo' ≤ v ∧ v ≤ hi'
  | [], _, _, hv => ⟨Int.le_trans h1 hv.1, Int.le_trans hv.2 h2⟩
  | (i, z) :: l, hw, h, hv => by
    have hz := ai_iv_ok hE (hw _ List.mem_cons_self).2
    unfold ai_within at h
    split at h
    rename_i a b ei
    have ei : ai_iv E z = (a, b) := ei
    rw [show (((i, z) : ai_X × ai_X)).2 = z from rfl, ei] at hz
    split at h
    · rename_i e1 e2
      have e1 := ai_le_iff.mp e1
      have e2 := ai_le_iff.mp e2
      by_cases q : ai_vx r i = (j : Int)
      · have := hv.1 q
        rw [this]
        exact ⟨Int.le_trans e1 hz.1, Int.le_trans hz.2 e2⟩
      · exact ai_within_ok hE h1 h2 (fun q hq => hw q (List.mem_cons_of_mem _ hq)) h (hv.2 q)
    · cases h
theorem ai_mrs_ok : ∀ {l m : List (Option Nat)}, ai_mrs l m = true → l = m
  | [], [], _ => rfl
  | [], none :: _, h => by cases h
  | [], some _ :: _, h => by cases h
  | none :: _, [], h => by cases h
  | some _ :: _, [], h => by cases h
  | none :: l, some _ :: m, h => by cases h
  | some _ :: l, none :: m, h => by cases h
  | none :: l, none :: m, h => congrArg _ (ai_mrs_ok (l := l) (m := m) h)
  | some a :: l, some b :: m, h => by
    unfold ai_mrs at h
    split at h
    · rename_i e
      rw [Nat.eq_of_beq_eq_true e, ai_mrs_ok h]
    · cases h
/-- arrays of numbers -/
theorem ai_mnum_ok {y y' : ai_Y} {ty n : Nat} {lo hi : Int} {l : List (ai_X × ai_X)} {d : ai_C} (h : ai_mc base E B y (some (.inr (.inl (ty, n, lo, hi, l)))) (some d) = some y') (hy : ai_yok base E B y) : ai_yok base E B y' ∧ ai_yle y y' ∧ ∃ lo' hi' m, d = .inr (.inl (ty, n, lo', hi', m)) ∧ ∀ r r2, ai_gE r E → ai_cons base r r2 y' → ∀ (g : Nat → Int) (N' : Nat), ai_gK r E.1 lo hi l n g → ai_lw N' m → ai_gK r2 N' lo' hi' m n g := by
  rcases d with ⟨ci, fs⟩ | ⟨tz, k, lo', hi', m⟩ | ⟨tz, m⟩
  · cases h
  · unfold ai_mc at h
    dsimp only at h
    split at h
    · rename_i e1 e2 e3 e4
      have e1 := Nat.eq_of_beq_eq_true e1
      have e2 := Nat.eq_of_beq_eq_true e2
      have e3 := ai_le_iff.mp e3
      have e4 := ai_le_iff.mp e4
      subst e1; subst e2
      split at h
      · split at h
        · rename_i ew
          cases h
          exact ⟨hy, ai_yle.rfl', _, _, _, rfl, fun r r2 hE hc g N' hg _ => ⟨fun q hq => (by cases hq), fun j hj => ai_within_ok hE e3 e4 hg.1 ew (hg.2 j hj)⟩⟩
        · cases h
      · obtain ⟨f1, f2, f3⟩ := ai_mos_ok h hy
        exact ⟨f1, f2, _, _, _, rfl, fun r r2 hE hc g N' hg hw => ⟨hw, fun j hj => f3 r r2 hc _ _ _ _ e3 e4 _ _ (hg.2 j hj)⟩⟩
    · cases h
  · cases h
theorem ai_mc_ok {y y' : ai_Y} {c d : ai_C} (h : ai_mc base E B y (some c) (some d) = some y') (hy : ai_yok base E B y) : ai_yok base E B y' ∧ ai_yle y y' ∧ ∀ r r2, ai_gE r E → ai_cons base r r2 y' → ∀ (tyc : Nat → ClassId) (ad : Nat → Nat) (N' n : Nat) (e : va_E), ai_gC tyc r ad E.1 n c e → ai_wfC N' n d → ai_gC tyc r2 ad N' n d e := by
  rcases c with ⟨ci, fs⟩ | ⟨ty, k, lo, hi, l⟩ | ⟨ty, l⟩
  · rcases d with ⟨cj, gs⟩ | ⟨tz, k, lo', hi', m⟩ | ⟨tz, m⟩
    · unfold ai_mc at h
      dsimp only at h
      split at h
      · rename_i e1
        have e1 := Nat.eq_of_beq_eq_true e1
        subst e1
        obtain ⟨f1, f2, -, f4⟩ := ai_mvs_ok h hy
        refine ⟨f1, f2, fun r r2 hE hc tyc ad N' n e he hw => ?_⟩
        obtain ⟨vs, rfl, hv⟩ := he
        exact ⟨vs, rfl, (f4 r r2 hc).2 ad _ N' n vs hv hw⟩
      · cases h
    · cases h
    · cases h
  · obtain ⟨f1, f2, lo', hi', m, rfl, f3⟩ := ai_mnum_ok h hy
    refine ⟨f1, f2, fun r r2 hE hc tyc ad N' n e he hw => ?_⟩
    rcases he with ⟨h1, f, h2, h3⟩ | ⟨h1, f, h2, h3⟩
    · exact Or.inl ⟨h1, f, h2, f3 r r2 hE hc _ N' h3 hw⟩
    · exact Or.inr ⟨h1, f, h2, f3 r r2 hE hc _ N' h3 hw⟩
  · rcases d with ⟨cj, gs⟩ | ⟨tz, k, lo', hi', m⟩ | ⟨tz, m⟩
    · cases h
    · cases h
    · unfold ai_mc at h
      dsimp only at h
      split at h
      · rename_i e1 e2
        have e1 := Nat.eq_of_beq_eq_true e1
        have e2 := ai_mrs_ok e2
        subst e1; subst e2
        cases h
        exact ⟨hy, ai_yle.rfl', fun r r2 hE hc tyc ad N' n e he _ => he⟩
      · cases h
theorem ai_mt_ok : ∀ (d : Nat) {a b : ai_T (Option ai_C) d} {y y' : ai_Y}, ai_mt base E B d y a b = some y' → ai_yok base E B y → ai_yok base E B y' ∧ ai_yle y y' ∧ ∀ k, k < 2 ^ d → ∃ y1 y2, ai_mc base E B y1 (ai_tget d a k) (ai_tget d b k) = some y2 ∧ ai_yok base E B y1 ∧ ai_yle y2 y'
  | 0, a, b, y, y', h, hy => by
    have key : ∀ (a b : Option ai_C) (y y' : ai_Y), ai_mc base E B y a b = some y' → ai_yok base E B y → ai_yok base E B y' ∧ ai_yle y y' := fun a b y y' h hy => by
      cases a with
      | none => cases b with
        | none => cases h; exact ⟨hy, ai_yle.rfl'⟩
        | some d => cases h
      | some c => cases b with
        | none => rcases c with x | x | x <;> cases h
        | some d =>
          obtain ⟨f1, f2, -⟩ := ai_mc_ok h hy
          exact ⟨f1, f2⟩
    obtain ⟨f1, f2⟩ := key a b y y' h hy
    exact ⟨f1, f2, fun k hk => ⟨y, y', by
      have : k = 0 := by omega
      subst this
      exact h, hy, ai_yle.rfl'⟩⟩
  | d + 1, a, b, y, y', h, hy => by
    unfold ai_mt at h
    split at h
    · rename_i y1 e1
      obtain ⟨g1, g2, g3⟩ := ai_mt_ok d e1 hy
      obtain ⟨f1, f2, f3⟩ := ai_mt_ok d h g1
      refine ⟨f1, g2.trans f2, fun k hk => ?_⟩
      sorry
    · cases h
end TM
