/-! A STATE WITHIN A WIDER ONE -/
noncomputable def ai_cons (base : Nat) (r r2 : Nat → Int) (y : ai_Y) : Prop := (∀ t, t < base → r2 t = r t) ∧ ∀ t x, ai_ylook y t = some x → r2 t = ai_vx r x
noncomputable def ai_yle (y y' : ai_Y) : Prop := ∀ t x, ai_ylook y t = some x → ai_ylook y' t = some x
noncomputable def ai_yok (base : Nat) (E : ai_E) (B : List (Nat × Int × Int)) (y : ai_Y) : Prop := ∀ t x, ai_ylook y t = some x → base ≤ t ∧ x.1 < E.1 ∧ ((ai_look B t).1 ≤ (ai_iv E x).1 ∧ (ai_iv E x).2 ≤ (ai_look B t).2) ∧ ai_lo64 ≤ (ai_iv E x).1 ∧ (ai_iv E x).2 ≤ ai_hi64
theorem ai_yle.rfl' {y : ai_Y} : ai_yle y y := fun _ _ h => h
theorem ai_yle.trans {a b c : ai_Y} (h : ai_yle a b) (g : ai_yle b c) : ai_yle a c := fun t x q => g t x (h t x q)
theorem ai_cons.le {base : Nat} {r r2 : Nat → Int} {y y' : ai_Y} (h : ai_cons base r r2 y') (g : ai_yle y y') : ai_cons base r r2 y := ⟨h.1, fun t x q => h.2 t x (g t x q)⟩
noncomputable def ai_wfV (N n : Nat) (w : ai_V) : Prop := match w with
  | .inl x => x.1 < N
  | .inr (.inl x) => x.1 < N
  | .inr (.inr (some (some q))) => q < n
  | _ => True
noncomputable def ai_wfC (N n : Nat) (c : ai_C) : Prop := match c with
  | .inl (_, fs) => ∀ a ∈ fs, ai_wfV N n a
  | .inr (.inl (_, _, _, _, l)) => ai_lw N l
  | .inr (.inr _) => True
noncomputable def ai_pv (r r2 : Nat → Int) (v w : ai_V) : Prop := (w ≠ .inr (.inr none) → v ≠ .inr (.inr none)) ∧ ∀ (ad : Nat → Nat) (N N' n : Nat) (val : Value), ai_gV r ad N n v val → ai_wfV N' n w → ai_gV r2 ad N' n w val
section TM
variable {base : Nat} {E : ai_E} {B : List (Nat × Int × Int)}
theorem ai_mx_ok {y y' : ai_Y} {x w : ai_X} (h : ai_mx base E B y x w = some y') (hy : ai_yok base E B y) : ai_yok base E B y' ∧ ai_yle y y' ∧ ∀ r r2, ai_cons base r r2 y' → ai_vx r2 w = ai_vx r x := by
  unfold ai_mx at h
  split at h
  · rename_i e1
    have e1 : w.1 < base := Nat.le_of_ble_eq_true e1
    split at h
    · rename_i e2
      cases h
      have e2 := ai_xeq_iff.mp e2
      subst e2
      refine ⟨hy, ai_yle.rfl', fun r r2 hc => ?_⟩
      show r2 x.1 + x.2 = r x.1 + x.2
      rw [hc.1 _ e1]
    · cases h
  · rename_i e1
    have hb : base ≤ w.1 := by
      by_cases q : w.1 < base
      · have q2 : Nat.blt w.1 base = true := Nat.ble_eq_true_of_le q
        rw [q2] at e1; cases e1
      · omega
    split at h
    · cases h
    · rename_i e2
      have e2 := ai_eq_iff.mp e2
      split at h
      · rename_i z ez
        split at h
        · rename_i e3
          cases h
          have e3 := ai_xeq_iff.mp e3
          subst e3
          refine ⟨hy, ai_yle.rfl', fun r r2 hc => ?_⟩
          have := hc.2 _ _ ez
          show r2 w.1 + w.2 = _
          rw [e2, this]; omega
        · cases h
      · rename_i ez
        split at h
        rename_i a b c d ei el
        split at h
        · rename_i e3 e4 e5 e6 e7
          cases h
          have e3 := ai_le_iff.mp e3
          have e4 := ai_le_iff.mp e4
          have e5 := ai_le_iff.mp e5
          have e6 := ai_le_iff.mp e6
          have e7 : x.1 < E.1 := Nat.le_of_ble_eq_true e7
          have key : ∀ t z, ai_ylook ((w.1, x) :: y) t = some z → (t = w.1 ∧ z = x) ∨ (t ≠ w.1 ∧ ai_ylook y t = some z) := fun t z hz => by
            rw [ai_ylook_c] at hz
            split at hz
            · rename_i eb
              have eb := Nat.eq_of_beq_eq_true eb
              cases hz
              exact Or.inl ⟨eb.symm, rfl⟩
            · rename_i eb
              exact Or.inr ⟨fun q => (by rw [q, Nat.beq_refl] at eb; cases eb), hz⟩
          refine ⟨fun t z hz => ?_, fun t z hz => ?_, fun r r2 hc => ?_⟩
          · rcases key t z hz with ⟨rfl, rfl⟩ | ⟨-, hz⟩
            · rw [ei, el]
              exact ⟨hb, e7, ⟨e3, e4⟩, e5, e6⟩
            · exact hy t z hz
          · show ai_ylook ((w.1, x) :: y) t = some z
            rw [ai_ylook_c]
            split
            · rename_i eb
              have eb := Nat.eq_of_beq_eq_true eb
              subst eb
              rw [ez] at hz; cases hz
            · exact hz
          · have : r2 w.1 = ai_vx r x := hc.2 _ _ (by
              show ai_ylook ((w.1, x) :: y) w.1 = some x
              rw [ai_ylook_c]
              rw [Nat.beq_refl])
            show r2 w.1 + w.2 = _
            rw [e2, this]; omega
        · cases h
theorem ai_mv_ok {y y' : ai_Y} {v w : ai_V} (h : ai_mv base E B y v w = some y') (hy : ai_yok base E B y) : ai_yok base E B y' ∧ ai_yle y y' ∧ ∀ r r2, ai_cons base r r2 y' → ai_pv r r2 v w := by
  unfold ai_mv at h
  split at h
  · cases h
    exact ⟨hy, ai_yle.rfl', fun r r2 hc => ⟨fun q => absurd rfl q, fun ad N N' n val _ _ => trivial⟩⟩
  · split at h
    · obtain ⟨g1, g2, g3⟩ := ai_mx_ok h hy
      refine ⟨g1, g2, fun r r2 hc => ⟨fun _ q => (by cases q), fun ad N N' n val hv hw => ?_⟩⟩
      obtain ⟨-, i, rfl, hi⟩ := hv
      exact ⟨hw, i, rfl, by rw [hi, g3 r r2 hc]⟩
    · cases h
  · split at h
    · obtain ⟨g1, g2, g3⟩ := ai_mx_ok h hy
      refine ⟨g1, g2, fun r r2 hc => ⟨fun _ q => (by cases q), fun ad N N' n val hv hw => ?_⟩⟩
      obtain ⟨-, i, rfl, hi⟩ := hv
      exact ⟨hw, i, rfl, by rw [hi, g3 r r2 hc]⟩
    · cases h
  · split at h
    · cases h
      exact ⟨hy, ai_yle.rfl', fun r r2 hc => ⟨fun _ q => (by cases q), fun ad N N' n val hv _ => hv⟩⟩
    · cases h
  · split at h
    · split at h
      · rename_i e1
        have e1 := Nat.eq_of_beq_eq_true e1
        subst e1
        cases h
        exact ⟨hy, ai_yle.rfl', fun r r2 hc => ⟨fun _ q => (by cases q), fun ad N N' n val hv _ => hv⟩⟩
      · cases h
    · cases h
theorem ai_mvs_ok : ∀ {l m : List ai_V} {y y' : ai_Y}, ai_mvs base E B y l m = some y' → ai_yok base E B y → ai_yok base E B y' ∧ ai_yle y y' ∧ l.length = m.length ∧ ∀ r r2, ai_cons base r r2 y' → (∀ i, ai_pv r r2 (ai_lget l i) (ai_lget m i)) ∧ ∀ (ad : Nat → Nat) (N N' n : Nat) (vs : List Value), ai_gF r ad N n l vs → (∀ w ∈ m, ai_wfV N' n w) → ai_gF r2 ad N' n m vs
  | [], [], y, y', h, hy => by
    cases h
    exact ⟨hy, ai_yle.rfl', rfl, fun r r2 hc => ⟨fun i => ⟨fun q => absurd rfl q, fun _ _ _ _ _ _ _ => trivial⟩, fun ad N N' n vs h _ => by
      cases vs with
      | nil => trivial
      | cons v t => exact h.elim⟩⟩
  | [], _ :: _, _, _, h, _ => by cases h
  | _ :: _, [], _, _, h, _ => by cases h
  | v :: l, w :: m, y, y', h, hy => by
    unfold ai_mvs at h
    split at h
    · rename_i y1 e1
      obtain ⟨g1, g2, g3⟩ := ai_mv_ok e1 hy
      obtain ⟨f1, f2, f3, f4⟩ := ai_mvs_ok h g1
      refine ⟨f1, g2.trans f2, congrArg Nat.succ f3, fun r r2 hc => ⟨fun i => ?_, fun ad N N' n vs hv hw => ?_⟩⟩
      · cases i with
        | zero => exact g3 r r2 (hc.le f2)
        | succ i => exact (f4 r r2 hc).1 i
      · obtain ⟨u, t, rfl, k1, k2⟩ := hv.cons
        exact ⟨(g3 r r2 (hc.le f2)).2 ad N N' n u k1 (hw _ List.mem_cons_self), (f4 r r2 hc).2 ad N N' n t k2 (fun z hz => hw z (List.mem_cons_of_mem _ hz))⟩
    · cases h
theorem ai_mos_ok : ∀ {l m : List (ai_X × ai_X)} {y y' : ai_Y}, ai_mos base E B y l m = some y' → ai_yok base E B y → ai_yok base E B y' ∧ ai_yle y y' ∧ ∀ r r2, ai_cons base r r2 y' → ∀ (lo hi lo' hi' : Int), lo' ≤ lo → hi ≤ hi' → ∀ j v, ai_ov r lo hi l j v → ai_ov r2 lo' hi' m j v
  | [], [], y, y', h, hy => by
    cases h
    exact ⟨hy, ai_yle.rfl', fun r r2 hc lo hi lo' hi' h1 h2 j v hv => ⟨Int.le_trans h1 hv.1, Int.le_trans hv.2 h2⟩⟩
  | [], _ :: _, _, _, h, _ => by cases h
  | _ :: _, [], _, _, h, _ => by cases h
  | (i, v) :: l, (j, w) :: m, y, y', h, hy => by
    unfold ai_mos at h
    split at h
    · cases h
    · rename_i y1 e1
      split at h
      · rename_i y2 e2
        obtain ⟨g1, g2, g3⟩ := ai_mx_ok e1 hy
        obtain ⟨k1, k2, k3⟩ := ai_mx_ok e2 g1
        obtain ⟨f1, f2, f3⟩ := ai_mos_ok h k1
        refine ⟨f1, g2.trans (k2.trans f2), fun r r2 hc lo hi lo' hi' h1 h2 q u hv => ?_⟩
        have a1 := g3 r r2 (hc.le (k2.trans f2))
        have a2 := k3 r r2 (hc.le f2)
        exact ⟨fun z => by rw [a2]; exact hv.1 (by rw [← a1]; exact z), fun z => f3 r r2 hc lo hi lo' hi' h1 h2 q u (hv.2 (by rw [← a1]; exact z))⟩
      · cases h
theorem ai_within_ok {r : Nat → Int} (hE : ai_gE r E) {lo hi lo' hi' : Int} (h1 : lo' ≤ lo) (h2 : hi ≤ hi') {j : Nat} {v : Int} : ∀ {l : List (ai_X × ai_X)}, ai_lw E.1 l → ai_within E lo' hi' l = true → ai_ov r lo hi l j v → lo' ≤ v ∧ v ≤ hi'
  | [], _, _, hv => ⟨Int.le_trans h1 hv.1, Int.le_trans hv.2 h2⟩
  | (i, z) :: l, hw, h, hv => by
    have hz := ai_iv_ok hE (hw _ List.mem_cons_self).2
    unfold ai_within at h
    split at h
    rename_i a b ei
    have ei : ai_iv E z = (a, b) := ei
    rw [show (((i, z) : ai_X × ai_X)).2 = z from rfl, ei] at hz
    split at h
    · rename_i e1 e2
      have e1 := ai_le_iff.mp e1
      have e2 := ai_le_iff.mp e2
      by_cases q : ai_vx r i = (j : Int)
      · have := hv.1 q
        rw [this]
        exact ⟨Int.le_trans e1 hz.1, Int.le_trans hz.2 e2⟩
      · exact ai_within_ok hE h1 h2 (fun q hq => hw q (List.mem_cons_of_mem _ hq)) h (hv.2 q)
    · cases h
theorem ai_mrs_ok : ∀ {l m : List (Option Nat)}, ai_mrs l m = true → l = m
  | [], [], _ => rfl
  | [], none :: _, h => by cases h
  | [], some _ :: _, h => by cases h
  | none :: _, [], h => by cases h
  | some _ :: _, [], h => by cases h
  | none :: l, some _ :: m, h => by cases h
  | some _ :: l, none :: m, h => by cases h
  | none :: l, none :: m, h => congrArg _ (ai_mrs_ok (l := l) (m := m) h)
  | some a :: l, some b :: m, h => by
    unfold ai_mrs at h
    split at h
    · rename_i e
      rw [Nat.eq_of_beq_eq_true e, ai_mrs_ok h]
    · cases h
theorem ai_keeps_ok {r r2 : Nat → Int} (hE : ai_gE r E) (h0 : r2 0 = 0) {lo hi lo' hi' : Int} {j : Nat} {v : Int} {l : List (ai_X × ai_X)} (hw : ai_lw E.1 l) (hv : ai_ov r lo hi l j v) (hr : lo' ≤ v ∧ v ≤ hi') : ∀ {m : List (ai_X × ai_X)}, ai_keeps E lo hi l m = true → ai_ov r2 lo' hi' m j v
  | [], _ => hr
  | ((t, c), (u, w)) :: m, h => by
    unfold ai_keeps at h
    split at h
    · rename_i e
      cases e
    · rename_i k w' m' e
      cases e
      split at h
      · rename_i z ez
        split at h
        · rename_i ex
          have ex := ai_xeq_iff.mp ex
          subst ex
          refine ⟨fun q => ?_, fun _ => ai_keeps_ok hE h0 hw hv hr h⟩
          have q : r2 0 + (k : Int) = (j : Int) := q
          have hj : ai_vx r (0, Int.ofNat k) = (j : Int) := by
            show r 0 + (k : Int) = (j : Int)
            rw [hE.1]; omega
          have := ai_kget_ok (lo := lo) (hi := hi) hE (i := (0, Int.ofNat k)) hE.2.1 hj hw hv
          rw [ez] at this
          obtain ⟨-, g⟩ := this
          refine g.trans ?_
          show r 0 + _ = r2 0 + _
          rw [hE.1, h0]
        · cases h
      · cases h
    · cases h
/-- arrays of numbers -/
theorem ai_mnum_ok {y y' : ai_Y} {ty n : Nat} {lo hi : Int} {l : List (ai_X × ai_X)} {d : ai_C} (h : ai_mc base E B y (some (.inr (.inl (ty, n, lo, hi, l)))) (some d) = some y') (hy : ai_yok base E B y) : ai_yok base E B y' ∧ ai_yle y y' ∧ ∃ lo' hi' m, d = .inr (.inl (ty, n, lo', hi', m)) ∧ ∀ r r2, ai_gE r E → ai_cons base r r2 y' → ∀ (g : Nat → Int) (N' : Nat), ai_gK r E.1 lo hi l n g → ai_lw N' m → ai_gK r2 N' lo' hi' m n g := by
  rcases d with ⟨ci, fs⟩ | ⟨tz, k, lo', hi', m⟩ | ⟨tz, m⟩
  · cases h
  · unfold ai_mc at h
    dsimp only at h
    split at h
    · rename_i e1 e2 e3 e4
      have e1 := Nat.eq_of_beq_eq_true e1
      have e2 := Nat.eq_of_beq_eq_true e2
      have e3 := ai_le_iff.mp e3
      have e4 := ai_le_iff.mp e4
      subst e1; subst e2
      split at h
      · split at h
        · rename_i ew
          cases h
          exact ⟨hy, ai_yle.rfl', _, _, _, rfl, fun r r2 hE hc g N' hg _ => ⟨fun q hq => (by cases hq), fun j hj => ai_within_ok hE e3 e4 hg.1 ew (hg.2 j hj)⟩⟩
        · cases h
      · split at h
        · rename_i y9 e9
          cases h
          obtain ⟨f1, f2, f3⟩ := ai_mos_ok e9 hy
          exact ⟨f1, f2, _, _, _, rfl, fun r r2 hE hc g N' hg hw => ⟨hw, fun j hj => f3 r r2 hc _ _ _ _ e3 e4 _ _ (hg.2 j hj)⟩⟩
        · split at h
          · rename_i eb ek ew
            cases h
            have eb : 0 < base := Nat.le_of_ble_eq_true eb
            exact ⟨hy, ai_yle.rfl', _, _, _, rfl, fun r r2 hE hc g N' hg hw => ⟨hw, fun j hj => ai_keeps_ok hE ((hc.1 0 eb).trans hE.1) hg.1 (hg.2 j hj) (ai_within_ok hE e3 e4 hg.1 ew (hg.2 j hj)) ek⟩⟩
          · cases h
    · cases h
  · cases h
theorem ai_mc_ok {y y' : ai_Y} {c d : ai_C} (h : ai_mc base E B y (some c) (some d) = some y') (hy : ai_yok base E B y) : ai_yok base E B y' ∧ ai_yle y y' ∧ ∀ r r2, ai_gE r E → ai_cons base r r2 y' → ∀ (tyc : Nat → ClassId) (ad : Nat → Nat) (N' n : Nat) (e : va_E), ai_gC tyc r ad E.1 n c e → ai_wfC N' n d → ai_gC tyc r2 ad N' n d e := by
  rcases c with ⟨ci, fs⟩ | ⟨ty, k, lo, hi, l⟩ | ⟨ty, l⟩
  · rcases d with ⟨cj, gs⟩ | ⟨tz, k, lo', hi', m⟩ | ⟨tz, m⟩
    · unfold ai_mc at h
      dsimp only at h
      split at h
      · rename_i e1
        have e1 := Nat.eq_of_beq_eq_true e1
        subst e1
        obtain ⟨f1, f2, -, f4⟩ := ai_mvs_ok h hy
        refine ⟨f1, f2, fun r r2 hE hc tyc ad N' n e he hw => ?_⟩
        obtain ⟨vs, rfl, hv⟩ := he
        exact ⟨vs, rfl, (f4 r r2 hc).2 ad _ N' n vs hv hw⟩
      · cases h
    · cases h
    · cases h
  · obtain ⟨f1, f2, lo', hi', m, rfl, f3⟩ := ai_mnum_ok h hy
    refine ⟨f1, f2, fun r r2 hE hc tyc ad N' n e he hw => ?_⟩
    rcases he with ⟨h1, f, h2, h3⟩ | ⟨h1, f, h2, h3⟩
    · exact Or.inl ⟨h1, f, h2, f3 r r2 hE hc _ N' h3 hw⟩
    · exact Or.inr ⟨h1, f, h2, f3 r r2 hE hc _ N' h3 hw⟩
  · rcases d with ⟨cj, gs⟩ | ⟨tz, k, lo', hi', m⟩ | ⟨tz, m⟩
    · cases h
    · cases h
    · unfold ai_mc at h
      dsimp only at h
      split at h
      · rename_i e1 e2
        have e1 := Nat.eq_of_beq_eq_true e1
        have e2 := ai_mrs_ok e2
        subst e1; subst e2
        cases h
        exact ⟨hy, ai_yle.rfl', fun r r2 hE hc tyc ad N' n e he _ => he⟩
      · cases h
theorem ai_mt_ok : ∀ (d : Nat) {a b : ai_T (Option ai_C) d} {y y' : ai_Y}, ai_mt base E B d y a b = some y' → ai_yok base E B y → ai_yok base E B y' ∧ ai_yle y y' ∧ ∀ k, k < 2 ^ d → ∃ y1 y2, ai_mc base E B y1 (ai_tget d a k) (ai_tget d b k) = some y2 ∧ ai_yok base E B y1 ∧ ai_yle y2 y'
  | 0, a, b, y, y', h, hy => by
    have key : ∀ (a b : Option ai_C) (y y' : ai_Y), ai_mc base E B y a b = some y' → ai_yok base E B y → ai_yok base E B y' ∧ ai_yle y y' := fun a b y y' h hy => by
      cases a with
      | none => cases b with
        | none => cases h; exact ⟨hy, ai_yle.rfl'⟩
        | some d => cases h
      | some c => cases b with
        | none => rcases c with x | x | x <;> cases h
        | some d =>
          obtain ⟨f1, f2, -⟩ := ai_mc_ok h hy
          exact ⟨f1, f2⟩
    obtain ⟨f1, f2⟩ := key a b y y' h hy
    exact ⟨f1, f2, fun k hk => ⟨y, y', by
      have : k = 0 := by omega
      subst this
      exact h, hy, ai_yle.rfl'⟩⟩
  | d + 1, a, b, y, y', h, hy => by
    unfold ai_mt at h
    split at h
    · rename_i y1 e1
      obtain ⟨g1, g2, g3⟩ := ai_mt_ok d e1 hy
      obtain ⟨f1, f2, f3⟩ := ai_mt_ok d h g1
      refine ⟨f1, g2.trans f2, fun k hk => ?_⟩
      have hk' : Nat.div k 2 < 2 ^ d := by
        have e : Nat.div k 2 = k / 2 := rfl
        rw [Nat.pow_succ] at hk
        omega
      simp only [ai_tget_c]
      cases Nat.mod k 2 with
      | zero =>
        obtain ⟨z1, z2, a1, a2, a3⟩ := g3 _ hk'
        exact ⟨z1, z2, a1, a2, a3.trans f2⟩
      | succ j => exact f3 _ hk'
    · cases h
end TM
section TN
variable {D : va_G} {tyc : Nat → ClassId} {A : Nat → Prop} {sa : ai_B} {s : State} {ws0 : va_W} {nL : Nat} {base : Nat}
variable {r : Nat → Int} {ad : Nat → Nat} {L S L' S' : List ai_V} {G G' : ai_G} {H : Heap} {locs : List Loc} {ls : Array Slot} {st : List Value}
theorem ai_lget_mem : ∀ {L : List ai_V} {i : Nat}, ai_lget L i ≠ .inr (.inr none) → ai_lget L i ∈ L
  | [], _, h => absurd rfl h
  | _ :: _, 0, _ => List.mem_cons_self
  | _ :: L, i + 1, h => List.mem_cons_of_mem _ (ai_lget_mem (L := L) (i := i) h)
theorem ai_in_ok {y : ai_Y} (h : ai_in base L S G L' S' G' = some y) (hR : ai_Rel D tyc A s sa ws0 nL r ad L S G H locs ls st) (hb0 : 0 < base) (hbN : base ≤ G.1.1) (hbN' : base ≤ G'.1.1)
    (hwL : ∀ a ∈ L', ai_wfV G'.1.1 G'.2.1.1 a) (hwS : ∀ a ∈ S', ai_wfV G'.1.1 G'.2.1.1 a) (hwC : ∀ k d, k < G'.2.1.1 → ai_cell G'.2.1 k = some d → ai_wfC G'.1.1 G'.2.1.1 d)
    (hiv : ∀ q ∈ G'.1.2.1, q.1 < G'.1.1 ∧ (q.1 < base → q.2.1 ≤ r q.1 ∧ r q.1 ≤ q.2.2) ∧ (base ≤ q.1 → ai_look G'.1.2.1 q.1 = q.2))
    (hdf : ∀ q ∈ G'.1.2.2, q.2.1 < base ∧ q.2.2.1.1 < base ∧ q.2.2.2.1 < base ∧ r q.2.1 = ai_op q.1 (ai_vx r q.2.2.1) (ai_vx r q.2.2.2))
    (dv : Nat → Int) (hdv : ∀ t, base ≤ t → t < G'.1.1 → ai_ylook y t = none → ai_small (dv t) ∧ ∀ q ∈ G'.1.2.1, q.1 = t → q.2.1 ≤ dv t ∧ dv t ≤ q.2.2) :
    ∃ r2 : Nat → Int, (∀ t, t < base → r2 t = r t) ∧ (∀ t x, ai_ylook y t = some x → r2 t = ai_vx r x) ∧ ai_Rel D tyc A s sa ws0 nL r2 ad L' S' G' H locs ls st ∧ G'.2.1.1 = G.2.1.1 ∧ G'.2.2.1 = G.2.2.1 ∧ G'.2.2.2 = G.2.2.2 := by
  obtain ⟨E, ⟨n, tr⟩, cs, sl⟩ := G
  obtain ⟨E', ⟨n', tr'⟩, cs', sl'⟩ := G'
  obtain ⟨ws, hP, hD, hS, hE, hH, hO, hsa, hL, hSt⟩ := hR
  unfold ai_in at h
  dsimp only at h
  split at h
  · rename_i e1 e2 e3
    have e1 : n = n' := Nat.eq_of_beq_eq_true e1
    have e2 : cs = cs' := Nat.eq_of_beq_eq_true e2
    have e3 : sl = sl' := Nat.eq_of_beq_eq_true e3
    subst e1; subst e2; subst e3
    split at h
    · cases h
    · rename_i y1 m1
      split at h
      · cases h
      · rename_i y2 m2
        obtain ⟨a1, a2, a3, a4⟩ := ai_mvs_ok m1 (fun t x q => by cases q)
        obtain ⟨b1, b2, b3, b4⟩ := ai_mvs_ok m2 a1
        obtain ⟨c1, c2, c3⟩ := ai_mt_ok 9 h b1
        have hyb : ∀ t x, ai_ylook y t = some x → base ≤ t := fun t x q => (c1 t x q).1
        obtain ⟨r2, hr2⟩ : ∃ r2 : Nat → Int, r2 = fun t => if t < base then r t else match ai_ylook y t with | some x => ai_vx r x | none => dv t := ⟨_, rfl⟩
        have k1 : ∀ t, t < base → r2 t = r t := fun t ht => by rw [hr2]; exact if_pos ht
        have k2 : ∀ t x, ai_ylook y t = some x → r2 t = ai_vx r x := fun t x q => by
          rw [hr2]
          show (if t < base then r t else match ai_ylook y t with | some x => ai_vx r x | none => dv t) = _
          rw [if_neg (Nat.not_lt.mpr (hyb t x q)), q]
        have k3 : ∀ t, base ≤ t → ai_ylook y t = none → r2 t = dv t := fun t ht q => by
          rw [hr2]
          show (if t < base then r t else match ai_ylook y t with | some x => ai_vx r x | none => dv t) = _
          rw [if_neg (Nat.not_lt.mpr ht), q]
        have hc : ai_cons base r r2 y := ⟨k1, k2⟩
        have kv : ∀ x : ai_X, x.1 < base → ai_vx r2 x = ai_vx r x := fun x hx => by
          show r2 x.1 + x.2 = r x.1 + x.2
          rw [k1 _ hx]
        have hE' : ai_gE r2 E' := by
          refine ⟨by rw [k1 0 hb0]; exact hE.1, Nat.lt_of_lt_of_le hb0 hbN', fun t ht => ?_, fun q hq => ?_, fun q hq => ?_⟩
          · by_cases hb : t < base
            · rw [k1 t hb]
              exact hE.2.2.1 t (Nat.lt_of_lt_of_le hb hbN)
            · cases ey : ai_ylook y t with
              | some x =>
                rw [k2 t x ey]
                obtain ⟨-, z1, z2, z3, z4⟩ := c1 t x ey
                have := ai_iv_ok hE z1
                exact ⟨Int.le_trans z3 this.1, Int.le_trans this.2 z4⟩
              | none =>
                rw [k3 t (by omega) ey]
                exact (hdv t (by omega) ht ey).1
          · obtain ⟨q1, q2, q3⟩ := hiv q hq
            refine ⟨q1, ?_⟩
            by_cases hb : q.1 < base
            · rw [k1 _ hb]
              exact q2 hb
            · cases ey : ai_ylook y q.1 with
              | some x =>
                rw [k2 _ x ey]
                obtain ⟨-, z1, ⟨z2, z3⟩, -⟩ := c1 _ x ey
                have e := q3 (by omega)
                have z2 : (ai_look E'.2.1 q.1).1 ≤ (ai_iv E x).1 := z2
                have z3 : (ai_iv E x).2 ≤ (ai_look E'.2.1 q.1).2 := z3
                have e : ai_look E'.2.1 q.1 = q.2 := e
                rw [e] at z2 z3
                have := ai_iv_ok hE z1
                exact ⟨Int.le_trans z2 this.1, Int.le_trans this.2 z3⟩
              | none =>
                rw [k3 _ (by omega) ey]
                exact (hdv _ (by omega) q1 ey).2 q hq rfl
          · obtain ⟨q1, q2, q3, q4⟩ := hdf q hq
            exact ⟨Nat.lt_of_lt_of_le q1 hbN', Nat.lt_of_lt_of_le q2 hbN', Nat.lt_of_lt_of_le q3 hbN', by rw [k1 _ q1, kv _ q2, kv _ q3]; exact q4⟩
        have a4 := a4 r r2 (hc.le (b2.trans c2))
        have b4 := b4 r r2 (hc.le c2)
        refine ⟨r2, k1, k2, ⟨ws, hP, hD, hS, hE', ⟨hH.1, hH.2.1, fun k hk d hd => ?_, fun k hk hd => ?_⟩, fun q hq d hd => ?_, hsa, ⟨?_, hL.2.1, hL.2.2.1, fun i hi => ?_⟩, ?_⟩, rfl, rfl, rfl⟩
        · obtain ⟨z1, z2, hm, hz1, hz2⟩ := c3 (k + 16) (by have := hH.1.2.1; show k + 16 < 512; have hk : k + 16 < n := hk; have this : n ≤ 512 := this; omega)
          have hd' : ai_tget 9 tr' (k + 16) = some d := hd
          rw [hd'] at hm
          cases ec : ai_tget 9 tr (k + 16) with
          | none => rw [ec] at hm; cases hm
          | some c =>
            rw [ec] at hm
            obtain ⟨e, g1, g2⟩ := hH.2.2.1 k hk c ec
            obtain ⟨-, -, f3⟩ := ai_mc_ok hm hz1
            exact ⟨e, g1, f3 r r2 hE (hc.le hz2) tyc ad _ _ e g2 (hwC _ d hk hd)⟩
        · obtain ⟨z1, z2, hm, hz1, hz2⟩ := c3 (k + 16) (by have := hH.1.2.1; show k + 16 < 512; have hk : k + 16 < n := hk; have this : n ≤ 512 := this; omega)
          have hd' : ai_tget 9 tr' (k + 16) = none := hd
          rw [hd'] at hm
          cases ec : ai_tget 9 tr (k + 16) with
          | none => exact hH.2.2.2 k hk ec
          | some c =>
            rw [ec] at hm
            rcases c with x | x | x <;> cases hm
        · obtain ⟨z1, z2, hm, hz1, hz2⟩ := c3 q (by show q < 512; omega)
          have hd' : ai_tget 9 tr' q = some d := hd
          rw [hd'] at hm
          have hqn : q < n := by
            have : 16 ≤ n := hH.1.1
            omega
          cases ec : ai_tget 9 tr q with
          | none => rw [ec] at hm; cases hm
          | some c =>
            rw [ec] at hm
            obtain ⟨z, hz, lo, hi, l, rfl, g2, g3⟩ := hO q hq c ec
            obtain ⟨-, -, lo', hi', m, rfl, f3⟩ := ai_mnum_ok hm hz1
            exact ⟨z, hz, lo', hi', m, rfl, g2, f3 r r2 hE (hc.le hz2) _ _ g3 (hwC _ _ hqn hd)⟩
        · rw [← a3]; exact hL.1
        · obtain ⟨p1, p2⟩ := a4.1 i
          obtain ⟨v, g1, g2⟩ := hL.2.2.2 i (p1 hi)
          exact ⟨v, g1, p2 ad _ _ _ v g2 (hwL _ (ai_lget_mem hi))⟩
        · exact b4.2 ad _ _ _ st hSt hwS
  · cases h
end TN
