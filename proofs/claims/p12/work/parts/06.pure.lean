/-! WHAT THE DOMAIN SAYS: pure rows -/
theorem ai_tget_set {α : Type} (v : α) : ∀ (d : Nat) (t : ai_T α d) (k j : Nat), k < 2 ^ d → j < 2 ^ d → ai_tget d (ai_tset d t k v) j = if j = k then v else ai_tget d t j := by
  intro d
  induction d with
  | zero =>
    intro t k j hk hj
    have h1 : k = 0 := by omega
    have h2 : j = 0 := by omega
    subst h1; subst h2
    rw [if_pos rfl]
    rfl
  | succ d ih =>
    intro t k j hk hj
    have hk' : k / 2 < 2 ^ d := by omega
    have hj' : j / 2 < 2 ^ d := by omega
    rcases Nat.mod_two_eq_zero_or_one k with hk2 | hk2 <;> rcases Nat.mod_two_eq_zero_or_one j with hj2 | hj2
    · rw [ai_tget_e (t := ai_tset (d + 1) t k v) hj2, (ai_tset_e hk2).1, ai_tget_e (t := t) hj2, ih t.1 (k / 2) (j / 2) hk' hj']
      by_cases e : j = k
      · subst e; simp
      · rw [if_neg e, if_neg (by omega)]
    · rw [ai_tget_o (t := ai_tset (d + 1) t k v) hj2, (ai_tset_e hk2).2, ai_tget_o (t := t) hj2, if_neg (by omega)]
    · rw [ai_tget_e (t := ai_tset (d + 1) t k v) hj2, (ai_tset_o hk2).1, ai_tget_e (t := t) hj2, if_neg (by omega)]
    · rw [ai_tget_o (t := ai_tset (d + 1) t k v) hj2, (ai_tset_o hk2).2, ai_tget_o (t := t) hj2, ih t.2 (k / 2) (j / 2) hk' hj']
      by_cases e : j = k
      · subst e; simp
      · rw [if_neg e, if_neg (by omega)]
theorem ai_tall_get {α : Type} (p : α → Bool) : ∀ (d : Nat) (t : ai_T α d) (k : Nat), ai_tall p d t = true → p (ai_tget d t k) = true := by
  intro d
  induction d with
  | zero => intro t k h; exact h
  | succ d ih =>
    intro t k h
    have h1 : ai_tall p d t.1 = true ∧ ai_tall p d t.2 = true := by
      unfold ai_tall at h
      cases e : ai_tall p d t.1 with
      | true => rw [e] at h; exact ⟨rfl, h⟩
      | false => rw [e] at h; cases h
    simp only [ai_tget_c]
    cases Nat.mod k 2 with
    | zero => exact ih _ _ h1.1
    | succ n => exact ih _ _ h1.2
theorem ai_le_iff {a b : Int} : ai_le a b = true ↔ a ≤ b := by
  unfold ai_le
  constructor
  · intro h
    cases e : b - a with
    | ofNat n => have : b - a = (n : Int) := e; omega
    | negSucc n => rw [e] at h; cases h
  · intro h
    cases e : b - a with
    | ofNat n => rfl
    | negSucc n => have : b - a = Int.negSucc n := e; omega
theorem ai_le_not {a b : Int} : ai_le a b = false ↔ b < a := by
  cases e : ai_le a b with
  | true => have := ai_le_iff.mp e; constructor <;> intro h; cases h; omega
  | false =>
    constructor
    · intro _
      by_cases h : b < a
      · exact h
      · rw [ai_le_iff.mpr (by omega)] at e; cases e
    · intro _; rfl
theorem ai_eq_iff {a b : Int} : ai_eq a b = true ↔ a = b := by
  cases a with
  | ofNat a => cases b with
    | ofNat b =>
      show Nat.beq a b = true ↔ _
      rw [Nat.beq_eq]
      exact ⟨fun h => by rw [h], fun h => Int.ofNat.inj h⟩
    | negSucc b =>
      refine ⟨?_, ?_⟩
      · intro h; cases h
      · intro h; cases h
  | negSucc a => cases b with
    | ofNat b =>
      refine ⟨?_, ?_⟩
      · intro h; cases h
      · intro h; cases h
    | negSucc b =>
      show Nat.beq a b = true ↔ _
      rw [Nat.beq_eq]
      exact ⟨fun h => by rw [h], fun h => Int.negSucc.inj h⟩
theorem ai_eq_not {a b : Int} : ai_eq a b = false ↔ a ≠ b := by
  cases e : ai_eq a b with
  | true => have := ai_eq_iff.mp e; simp [this]
  | false => constructor
             · intro _ h; rw [ai_eq_iff.mpr h] at e; cases e
             · intro _; rfl
theorem ai_xeq_iff {x y : ai_X} : ai_xeq x y = true ↔ x = y := by
  obtain ⟨t, c⟩ := x
  obtain ⟨u, d⟩ := y
  show (match Nat.beq t u with | true => ai_eq c d | false => false) = true ↔ _
  cases e : Nat.beq t u with
  | true =>
    have h := Nat.eq_of_beq_eq_true e
    subst h
    show ai_eq c d = true ↔ _
    rw [ai_eq_iff]
    simp
  | false =>
    have h := Nat.ne_of_beq_eq_false e
    show false = true ↔ _
    simp [h]
theorem ai_min_le {a b : Int} : ai_min a b ≤ a ∧ ai_min a b ≤ b ∧ (ai_min a b = a ∨ ai_min a b = b) := by
  unfold ai_min
  cases e : ai_le a b with
  | true => have := ai_le_iff.mp e; exact ⟨Int.le_refl _, this, Or.inl rfl⟩
  | false => have := ai_le_not.mp e; exact ⟨Int.le_of_lt this, Int.le_refl _, Or.inr rfl⟩
theorem ai_max_ge {a b : Int} : a ≤ ai_max a b ∧ b ≤ ai_max a b ∧ (ai_max a b = a ∨ ai_max a b = b) := by
  unfold ai_max
  cases e : ai_le a b with
  | true => have := ai_le_iff.mp e; exact ⟨this, Int.le_refl _, Or.inr rfl⟩
  | false => have := ai_le_not.mp e; exact ⟨Int.le_refl _, Int.le_of_lt this, Or.inl rfl⟩
/-! numbers -/
noncomputable def ai_vx (r : Nat → Int) (x : ai_X) : Int := r x.1 + x.2
/-- the symbols' bounds hold, and what is said of how they came to be -/
noncomputable def ai_gE (r : Nat → Int) (E : ai_E) : Prop := r 0 = 0 ∧ 0 < E.1 ∧ (∀ t, t < E.1 → ai_lo64 ≤ r t ∧ r t ≤ ai_hi64) ∧ (∀ q ∈ E.2.1, q.1 < E.1 ∧ q.2.1 ≤ r q.1 ∧ r q.1 ≤ q.2.2) ∧ ∀ q ∈ E.2.2, q.2.1 < E.1 ∧ q.2.2.1.1 < E.1 ∧ q.2.2.2.1 < E.1 ∧ r q.2.1 = ai_op q.1 (ai_vx r q.2.2.1) (ai_vx r q.2.2.2)
noncomputable def ai_ext {α : Type} (N : Nat) (r r' : Nat → α) : Prop := ∀ t, t < N → r' t = r t
theorem ai_ext.rfl' {α : Type} {N : Nat} {r : Nat → α} : ai_ext N r r := fun _ _ => rfl
theorem ai_ext.trans {α : Type} {N M : Nat} {a b c : Nat → α} (h : ai_ext N a b) (g : ai_ext M b c) (hN : N ≤ M) : ai_ext N a c := fun t ht => (g t (by omega)).trans (h t ht)
theorem ai_ext.mono {α : Type} {N M : Nat} {a b : Nat → α} (h : ai_ext M a b) (hN : N ≤ M) : ai_ext N a b := fun t ht => h t (by omega)
theorem ai_ext.vx {N : Nat} {r r' : Nat → Int} (h : ai_ext N r r') {x : ai_X} (hx : x.1 < N) : ai_vx r' x = ai_vx r x := by
  unfold ai_vx
  rw [h _ hx]
theorem ai_look_ok {r : Nat → Int} {l : List (Nat × Int × Int)} (h : ∀ q ∈ l, q.2.1 ≤ r q.1 ∧ r q.1 ≤ q.2.2) (t : Nat) (hr : ai_lo64 ≤ r t ∧ r t ≤ ai_hi64) : (ai_look l t).1 ≤ r t ∧ r t ≤ (ai_look l t).2 := by
  induction l with
  | nil => exact hr
  | cons q l ih =>
    obtain ⟨u, lo, hi⟩ := q
    rw [ai_look_c]
    cases e : Nat.beq u t with
    | true =>
      have e := Nat.eq_of_beq_eq_true e
      subst e
      exact h _ List.mem_cons_self
    | false => exact ih (fun q hq => h q (List.mem_cons_of_mem _ hq))
theorem ai_iv_ok {r : Nat → Int} {E : ai_E} (hE : ai_gE r E) {x : ai_X} (hx : x.1 < E.1) : (ai_iv E x).1 ≤ ai_vx r x ∧ ai_vx r x ≤ (ai_iv E x).2 := by
  obtain ⟨t, c⟩ := x
  cases t with
  | zero =>
    have h0 : ai_vx r (0, c) = c := by
      show r 0 + c = c
      rw [hE.1]; omega
    rw [h0]
    exact ⟨Int.le_refl _, Int.le_refl _⟩
  | succ t =>
    have h := ai_look_ok (r := r) (l := E.2.1) (fun q hq => (hE.2.2.2.1 q hq).2) (t + 1) (hE.2.2.1 _ hx)
    show (ai_look E.2.1 (t + 1)).1 + c ≤ r (t + 1) + c ∧ r (t + 1) + c ≤ (ai_look E.2.1 (t + 1)).2 + c
    omega
/-- a new symbol's number -/
noncomputable def ai_upd (r : Nat → Int) (N : Nat) (v : Int) : Nat → Int := fun t => if t = N then v else r t
theorem ai_upd_ext (r : Nat → Int) (N : Nat) (v : Int) : ai_ext N r (ai_upd r N v) := fun t ht => if_neg (by omega)
theorem ai_upd_at (r : Nat → Int) (N : Nat) (v : Int) : ai_upd r N v N = v := if_pos rfl
theorem ai_gE.push {r : Nat → Int} {N : Nat} {l : List (Nat × Int × Int)} {ds : List ai_D} (hE : ai_gE r (N, l, ds)) {v lo hi : Int} (h1 : lo ≤ v) (h2 : v ≤ hi) (hv : ai_lo64 ≤ v ∧ v ≤ ai_hi64) : ai_gE (ai_upd r N v) (N + 1, (N, lo, hi) :: l, ds) := by
  obtain ⟨e0, e1, e2, e3, e4⟩ := hE
  have e1 : 0 < N := e1
  have hx := ai_upd_ext r N v
  refine ⟨?_, Nat.succ_pos _, ?_, ?_, ?_⟩
  · rw [hx 0 e1]; exact e0
  · intro t ht
    by_cases e : t = N
    · subst e; rw [ai_upd_at]; exact hv
    · have ht : t < N + 1 := ht
      rw [hx t (by omega)]; exact e2 t (by omega)
  · intro q hq
    rcases List.mem_cons.mp hq with rfl | hq
    · refine ⟨Nat.lt_succ_self _, ?_⟩
      show lo ≤ ai_upd r N v N ∧ ai_upd r N v N ≤ hi
      rw [ai_upd_at]; exact ⟨h1, h2⟩
    · obtain ⟨g1, g2⟩ := e3 q hq
      have g1 : q.1 < N := g1
      refine ⟨Nat.lt_succ_of_lt g1, ?_⟩
      rw [hx _ g1]; exact g2
  · intro q hq
    obtain ⟨g1, g2, g3, g4⟩ := e4 q hq
    refine ⟨Nat.lt_succ_of_lt g1, Nat.lt_succ_of_lt g2, Nat.lt_succ_of_lt g3, ?_⟩
    rw [hx _ g1, hx.vx g2, hx.vx g3]; exact g4
theorem ai_gE.def' {r : Nat → Int} {N : Nat} {l : List (Nat × Int × Int)} {ds : List ai_D} (hE : ai_gE r (N, l, ds)) {d : ai_D} (h : d.2.1 < N ∧ d.2.2.1.1 < N ∧ d.2.2.2.1 < N ∧ r d.2.1 = ai_op d.1 (ai_vx r d.2.2.1) (ai_vx r d.2.2.2)) : ai_gE r (N, l, d :: ds) := by
  obtain ⟨e0, e1, e2, e3, e4⟩ := hE
  refine ⟨e0, e1, e2, e3, fun q hq => ?_⟩
  rcases List.mem_cons.mp hq with rfl | hq
  · exact h
  · exact e4 q hq
theorem ai_find_ok {o : Nat} {x y : ai_X} {t : Nat} : ∀ {l : List ai_D}, ai_find o x y l = some t → (o, t, x, y) ∈ l
  | [], h => by cases h
  | (q, u, a, b) :: l, h => by
    rw [ai_find_c] at h
    cases e1 : Nat.beq o q with
    | false => rw [e1] at h; exact List.mem_cons_of_mem _ (ai_find_ok h)
    | true => cases e2 : ai_xeq x a with
      | false => rw [e1, e2] at h; exact List.mem_cons_of_mem _ (ai_find_ok h)
      | true => cases e3 : ai_xeq y b with
        | false => rw [e1, e2, e3] at h; exact List.mem_cons_of_mem _ (ai_find_ok h)
        | true =>
          rw [e1, e2, e3] at h
          have := Nat.eq_of_beq_eq_true e1
          have h2 := ai_xeq_iff.mp e2
          have h3 := ai_xeq_iff.mp e3
          cases h
          subst this; subst h2; subst h3
          exact List.mem_cons_self
/-- a number that an instruction gives is within -/
noncomputable def ai_small (v : Int) : Prop := ai_lo64 ≤ v ∧ v ≤ ai_hi64
theorem ai_def_ok {r : Nat → Int} {E : ai_E} (hE : ai_gE r E) {o : Nat} {x y : ai_X} (hx : x.1 < E.1) (hy : y.1 < E.1) {b : Int × Int} (hb : b.1 ≤ ai_op o (ai_vx r x) (ai_vx r y) ∧ ai_op o (ai_vx r x) (ai_vx r y) ≤ b.2) (hs : ai_small (ai_op o (ai_vx r x) (ai_vx r y))) {z : ai_X} {E' : ai_E} (h : ai_def E o x y b = (z, E')) :
    ∃ r', ai_ext E.1 r r' ∧ E.1 ≤ E'.1 ∧ ai_gE r' E' ∧ z.1 < E'.1 ∧ ai_vx r' z = ai_op o (ai_vx r x) (ai_vx r y) := by
  unfold ai_def at h
  cases e : ai_find o x y E.2.2 with
  | some t =>
    rw [e] at h
    cases h
    have hm := ai_find_ok e
    obtain ⟨g1, -, -, g4⟩ := hE.2.2.2.2 _ hm
    refine ⟨r, ai_ext.rfl', Nat.le_refl _, hE, g1, ?_⟩
    show r t + 0 = _
    rw [g4]; exact Int.add_zero _
  | none =>
    rw [e] at h
    dsimp only at h
    cases eb : ai_eq b.1 b.2 with
    | true =>
      rw [eb] at h
      cases h
      have eb := ai_eq_iff.mp eb
      refine ⟨r, ai_ext.rfl', Nat.le_refl _, hE, hE.2.1, ?_⟩
      show r 0 + b.1 = _
      rw [hE.1]
      omega
    | false =>
    rw [eb] at h
    obtain ⟨N, l, ds⟩ := E
    cases h
    have hxe := ai_upd_ext r N (ai_op o (ai_vx r x) (ai_vx r y))
    have hp := hE.push hb.1 hb.2 hs
    refine ⟨_, hxe, Nat.le_succ _, hp.def' (d := (o, N, x, y)) ⟨Nat.lt_succ_self _, Nat.lt_succ_of_lt hx, Nat.lt_succ_of_lt hy, ?_⟩, Nat.lt_succ_self _, ?_⟩
    · show ai_upd r N _ N = ai_op o (ai_vx _ x) (ai_vx _ y)
      rw [ai_upd_at, hxe.vx hx, hxe.vx hy]
    · show ai_upd r N _ N + 0 = _
      rw [ai_upd_at]; exact Int.add_zero _
theorem ai_new_ok {r : Nat → Int} {E : ai_E} (hE : ai_gE r E) {b : Int × Int} {v : Int} (hb : b.1 ≤ v ∧ v ≤ b.2) (hs : ai_small v) {z : ai_X} {E' : ai_E} (h : ai_new E b = (z, E')) :
    ∃ r', ai_ext E.1 r r' ∧ E.1 ≤ E'.1 ∧ ai_gE r' E' ∧ z.1 < E'.1 ∧ ai_vx r' z = v := by
  obtain ⟨N, l, ds⟩ := E
  cases h
  refine ⟨_, ai_upd_ext r N v, Nat.le_succ _, hE.push hb.1 hb.2 hs, Nat.lt_succ_self _, ?_⟩
  show ai_upd r N _ N + 0 = _
  rw [ai_upd_at]; exact Int.add_zero _
