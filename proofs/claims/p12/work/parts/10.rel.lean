/-! THE MACHINE'S WORLD AND THE DOMAIN'S -/
noncomputable def ai_tyOf : Nat → FieldType
  | 0 => .int
  | 1 => .long
  | 2 => .boolean
  | 3 => .array .int
  | 4 => .object RX4
  | _ => .object "java/lang/String"
noncomputable def ai_tys (tyc : Nat → ClassId) : List (ClassId × FieldType) := [(tyc 0, .int), (tyc 1, .long), (tyc 2, .boolean), (tyc 3, .array .int), (tyc 4, .object RX4), (tyc 5, .object "java/lang/String")]
noncomputable def ai_gV (r : Nat → Int) (ad : Nat → Nat) (N n : Nat) (a : ai_V) (v : Value) : Prop := match a with
  | .inl x => x.1 < N ∧ ∃ i : Int32, v = .int i ∧ i.toInt = ai_vx r x
  | .inr (.inl x) => x.1 < N ∧ ∃ i : Int64, v = .long i ∧ i.toInt = ai_vx r x
  | .inr (.inr none) => True
  | .inr (.inr (some none)) => v = .null
  | .inr (.inr (some (some q))) => q < n ∧ v = .ref (ad q)
theorem ai_gV.mono {r r' : Nat → Int} {ad ad' : Nat → Nat} {N N' n n' : Nat} (hr : ai_ext N r r') (ha : ai_ext n ad ad') (hN : N ≤ N') (hn : n ≤ n') {a : ai_V} {v : Value} (h : ai_gV r ad N n a v) : ai_gV r' ad' N' n' a v := by
  rcases a with x | x | _ | _ | q
  · obtain ⟨h1, i, h2, h3⟩ := h
    exact ⟨Nat.lt_of_lt_of_le h1 hN, i, h2, by rw [hr.vx h1]; exact h3⟩
  · obtain ⟨h1, i, h2, h3⟩ := h
    exact ⟨Nat.lt_of_lt_of_le h1 hN, i, h2, by rw [hr.vx h1]; exact h3⟩
  · trivial
  · exact h
  · obtain ⟨h1, h2⟩ := h
    exact ⟨Nat.lt_of_lt_of_le h1 hn, by rw [ha q h1]; exact h2⟩
/-- fields -/
noncomputable def ai_gF (r : Nat → Int) (ad : Nat → Nat) (N n : Nat) : List ai_V → List Value → Prop
  | [], [] => True
  | a :: l, v :: m => ai_gV r ad N n a v ∧ ai_gF r ad N n l m
  | _, _ => False
theorem ai_gF.mono {r r' : Nat → Int} {ad ad' : Nat → Nat} {N N' n n' : Nat} (hr : ai_ext N r r') (ha : ai_ext n ad ad') (hN : N ≤ N') (hn : n ≤ n') : ∀ {l : List ai_V} {m : List Value}, ai_gF r ad N n l m → ai_gF r' ad' N' n' l m
  | [], [], _ => trivial
  | _ :: _, _ :: _, h => ⟨h.1.mono hr ha hN hn, ai_gF.mono hr ha hN hn h.2⟩
  | [], _ :: _, h => h.elim
  | _ :: _, [], h => h.elim
theorem ai_gF.get {r : Nat → Int} {ad : Nat → Nat} {N n : Nat} : ∀ {l : List ai_V} {m : List Value} {k : Nat} {a : ai_V}, ai_gF r ad N n l m → ai_getv l k = some a → ∃ v, m[k]? = some v ∧ ai_gV r ad N n a v
  | [], _, _, _, _, h => by cases h
  | _ :: _, [], _, _, h, _ => h.elim
  | a :: l, v :: m, 0, b, h, e => by
    cases e
    exact ⟨v, rfl, h.1⟩
  | a :: l, v :: m, k + 1, b, h, e => by
    obtain ⟨w, h1, h2⟩ := ai_gF.get (k := k) h.2 e
    exact ⟨w, by rw [List.getElem?_cons_succ]; exact h1, h2⟩
theorem ai_gF.set {r : Nat → Int} {ad : Nat → Nat} {N n : Nat} {a : ai_V} {v : Value} (ha : ai_gV r ad N n a v) : ∀ {l : List ai_V} {m : List Value} {k : Nat}, ai_gF r ad N n l m → ai_gF r ad N n (ai_setv l k a) (m.set k v)
  | [], [], _, _ => trivial
  | [], _ :: _, _, h => h.elim
  | _ :: _, [], _, h => h.elim
  | _ :: _, _ :: _, 0, h => ⟨ha, h.2⟩
  | _ :: _, _ :: _, k + 1, h => ⟨h.1, ai_gF.set (k := k) ha h.2⟩
theorem ai_gF.len {r : Nat → Int} {ad : Nat → Nat} {N n : Nat} : ∀ {l : List ai_V} {m : List Value}, ai_gF r ad N n l m → l.length = m.length
  | [], [], _ => rfl
  | [], _ :: _, h => h.elim
  | _ :: _, [], h => h.elim
  | _ :: _, _ :: _, h => by
    rw [List.length_cons, List.length_cons, ai_gF.len h.2]
/-- references in an array -/
noncomputable def ai_gR (ad : Nat → Nat) (n : Nat) (l : List (Option Nat)) (f : Nat → Option Nat) : Prop := ∀ k q, l[k]? = some q → (q = none → f k = none) ∧ ∀ a, q = some a → a < n ∧ f k = some (ad a)
noncomputable def ai_gC (tyc : Nat → ClassId) (r : Nat → Int) (ad : Nat → Nat) (N n : Nat) (c : ai_C) (e : va_E) : Prop := match c with
  | .inl (ci, fs) => ∃ vs, e = .inr (ci, vs) ∧ ai_gF r ad N n fs vs
  | .inr (.inl (ty, m, lo, hi, l)) => (ty = 1 ∧ ∃ f : Nat → Int64, e = .inl (tyc 1, m, .inr (.inl f)) ∧ ai_gK r N lo hi l m (fun j => (f j).toInt)) ∨ ((ty = 0 ∨ ty = 2) ∧ ∃ f : Nat → Int32, e = .inl (tyc ty, m, .inl f) ∧ ai_gK r N lo hi l m (fun j => (f j).toInt))
  | .inr (.inr (ty, l)) => (ty = 3 ∨ ty = 4 ∨ ty = 5) ∧ ∃ f : Nat → Option Nat, e = .inl (tyc ty, l.length, .inr (.inr (.inr (.inr f)))) ∧ ai_gR ad n l f
theorem ai_gK.mono {r r' : Nat → Int} {N N' : Nat} (hr : ai_ext N r r') (hN : N ≤ N') {lo hi : Int} {l : List (ai_X × ai_X)} {m : Nat} {g : Nat → Int} (h : ai_gK r N lo hi l m g) : ai_gK r' N' lo hi l m g :=
  ⟨fun q hq => ⟨Nat.lt_of_lt_of_le (h.1 q hq).1 hN, Nat.lt_of_lt_of_le (h.1 q hq).2 hN⟩, fun j hj => ai_ov_ext hr h.1 (h.2 j hj)⟩
theorem ai_gC.mono {tyc : Nat → ClassId} {r r' : Nat → Int} {ad ad' : Nat → Nat} {N N' n n' : Nat} (hr : ai_ext N r r') (ha : ai_ext n ad ad') (hN : N ≤ N') (hn : n ≤ n') {c : ai_C} {e : va_E} (h : ai_gC tyc r ad N n c e) : ai_gC tyc r' ad' N' n' c e := by
  rcases c with ⟨ci, fs⟩ | ⟨ty, m, lo, hi, l⟩ | ⟨ty, l⟩
  · obtain ⟨vs, h1, h2⟩ := h
    exact ⟨vs, h1, h2.mono hr ha hN hn⟩
  · rcases h with ⟨h1, f, h2, h3⟩ | ⟨h1, f, h2, h3⟩
    · exact Or.inl ⟨h1, f, h2, h3.mono hr hN⟩
    · exact Or.inr ⟨h1, f, h2, h3.mono hr hN⟩
  · obtain ⟨h1, f, h2, h3⟩ := h
    exact ⟨h1, f, h2, fun k q hk => ⟨(h3 k q hk).1, fun a e => ⟨Nat.lt_of_lt_of_le ((h3 k q hk).2 a e).1 hn, by rw [ha a ((h3 k q hk).2 a e).1]; exact ((h3 k q hk).2 a e).2⟩⟩⟩
/-- the heap; cells that the domain doesn't speak of are as they were -/
noncomputable def ai_gH (tyc : Nat → ClassId) (r : Nat → Int) (ad : Nat → Nat) (N : Nat) (ws0 : va_W) (h : ai_H) (ws : va_W) : Prop :=
  (16 ≤ h.1 ∧ h.1 ≤ 512 ∧ ws.length + 16 = h.1) ∧ (∀ k q, ws[k]? = some q → q.1 = ad (k + 16)) ∧ (∀ k, k + 16 < h.1 → ∀ c, ai_cell h (k + 16) = some c → ∃ e, ws[k]? = some (ad (k + 16), e) ∧ ai_gC tyc r ad N h.1 c e) ∧ ∀ k, k + 16 < h.1 → ai_cell h (k + 16) = none → ws[k]? = ws0[k]?
theorem ai_gH.mono {tyc : Nat → ClassId} {r r' : Nat → Int} {ad : Nat → Nat} {N N' : Nat} (hr : ai_ext N r r') (hN : N ≤ N') {ws0 ws : va_W} {h : ai_H} (g : ai_gH tyc r ad N ws0 h ws) : ai_gH tyc r' ad N' ws0 h ws :=
  ⟨g.1, g.2.1, fun k hk c hc => by
    obtain ⟨e, h1, h2⟩ := g.2.2.1 k hk c hc
    exact ⟨e, h1, h2.mono hr ai_ext.rfl' hN (Nat.le_refl _)⟩, g.2.2.2⟩
/-- a cell that stands in the domain's heap, by its number -/
theorem ai_gH.at {tyc : Nat → ClassId} {r : Nat → Int} {ad : Nat → Nat} {N : Nat} {ws0 ws : va_W} {h : ai_H} (g : ai_gH tyc r ad N ws0 h ws) {q : Nat} (hq : 16 ≤ q) (hn : q < h.1) {c : ai_C} (hc : ai_cell h q = some c) : ∃ e, ws[q - 16]? = some (ad q, e) ∧ ai_gC tyc r ad N h.1 c e := by
  obtain ⟨k, rfl⟩ : ∃ k, q = k + 16 := ⟨q - 16, by omega⟩
  rw [Nat.add_sub_cancel]
  exact g.2.2.1 k hn c hc
theorem ai_put_ok {h h' : ai_H} {q : Nat} {c : ai_C} (e : ai_put h q c = some h') : 16 ≤ q ∧ q < h.1 ∧ h'.1 = h.1 ∧ (h.1 ≤ 512 → ∀ k, k < 512 → ai_cell h' k = if k = q then some c else ai_cell h k) := by
  obtain ⟨n, t⟩ := h
  unfold ai_put at e
  dsimp only at e
  split at e
  · rename_i e1 e2
    have e1 := Nat.le_of_ble_eq_true e1
    have e2 := Nat.le_of_ble_eq_true e2
    cases e
    refine ⟨e1, e2, rfl, fun hn k hk => ?_⟩
    have hn : n ≤ 512 := hn
    exact ai_tget_set (some c) 9 t q k (show q < 512 by omega) hk
  · cases e
theorem ai_push_ok {h h' : ai_H} {c : ai_C} (e : ai_push h c = some h') : h.1 < 512 ∧ h'.1 = h.1 + 1 ∧ ∀ k, k < 512 → ai_cell h' k = if k = h.1 then some c else ai_cell h k := by
  obtain ⟨n, t⟩ := h
  unfold ai_push at e
  dsimp only at e
  split at e
  · rename_i e1
    cases e
    have e1 : n < 512 := by
      by_cases g : 512 ≤ n
      · rw [Nat.ble_eq_true_of_le g] at e1; cases e1
      · omega
    exact ⟨e1, rfl, fun k hk => ai_tget_set (some c) 9 t n k e1 hk⟩
  · cases e
theorem ai_gH.put {tyc : Nat → ClassId} {r : Nat → Int} {ad : Nat → Nat} {N : Nat} {ws0 ws : va_W} {h h' : ai_H} (g : ai_gH tyc r ad N ws0 h ws) {q : Nat} {c : ai_C} (e : ai_put h q c = some h') {x : va_E} (hx : ai_gC tyc r ad N h.1 c x) : ai_gH tyc r ad N ws0 h' (ws.set (q - 16) (ad q, x)) := by
  obtain ⟨p1, p2, p3, p4⟩ := ai_put_ok e
  obtain ⟨⟨g1, g2, g3⟩, g4, g5, g6⟩ := g
  have p4 := p4 g2
  refine ⟨⟨by omega, by omega, by rw [List.length_set]; omega⟩, fun k z hk => ?_, fun k hk d hd => ?_, fun k hk hd => ?_⟩
  · by_cases ek : k = q - 16
    · subst ek
      rw [List.getElem?_set_self (by omega)] at hk
      cases hk
      show ad q = ad (q - 16 + 16)
      rw [show q - 16 + 16 = q by omega]
    · rw [List.getElem?_set_ne (Ne.symm ek)] at hk
      exact g4 k z hk
  · rw [p3] at hk ⊢
    rw [p4 _ (by omega)] at hd
    by_cases ek : k + 16 = q
    · rw [if_pos ek] at hd
      cases hd
      subst ek
      exact ⟨x, by rw [Nat.add_sub_cancel, List.getElem?_set_self (by omega)], hx⟩
    · rw [if_neg ek] at hd
      obtain ⟨x2, h1, h2⟩ := g5 k hk d hd
      exact ⟨x2, by rw [List.getElem?_set_ne (by omega)]; exact h1, h2⟩
  · rw [p3] at hk
    rw [p4 _ (by omega)] at hd
    by_cases ek : k + 16 = q
    · rw [if_pos ek] at hd; cases hd
    · rw [if_neg ek] at hd
      rw [List.getElem?_set_ne (by omega)]
      exact g6 k hk hd
noncomputable def ai_updA (ad : Nat → Nat) (n a : Nat) : Nat → Nat := fun t => if t = n then a else ad t
theorem ai_updA_ext (ad : Nat → Nat) (n a : Nat) : ai_ext n ad (ai_updA ad n a) := fun t ht => if_neg (by omega)
theorem ai_updA_at (ad : Nat → Nat) (n a : Nat) : ai_updA ad n a n = a := if_pos rfl
theorem ai_gH.push {tyc : Nat → ClassId} {r : Nat → Int} {ad : Nat → Nat} {N : Nat} {ws0 ws : va_W} {h h' : ai_H} (g : ai_gH tyc r ad N ws0 h ws) {c : ai_C} (e : ai_push h c = some h') {x : va_E} {a : Nat} (hx : ai_gC tyc r (ai_updA ad h.1 a) N h'.1 c x) : ai_gH tyc r (ai_updA ad h.1 a) N ws0 h' (ws ++ [(a, x)]) := by
  obtain ⟨p1, p2, p3⟩ := ai_push_ok e
  obtain ⟨⟨g1, g2, g3⟩, g4, g5, g6⟩ := g
  have ext := ai_updA_ext ad h.1 a
  refine ⟨⟨by omega, by omega, by rw [List.length_append]; show _ + 1 + 16 = _; omega⟩, fun k z hk => ?_, fun k hk d hd => ?_, fun k hk hd => ?_⟩
  · by_cases el : k < ws.length
    · rw [List.getElem?_append_left el] at hk
      rw [g4 k z hk]
      exact (ext _ (by omega)).symm
    · rw [List.getElem?_append_right (by omega)] at hk
      have h0 : k - ws.length < 1 := (List.getElem?_eq_some_iff.mp hk).1
      have h1 : k = ws.length := by omega
      subst h1
      rw [Nat.sub_self] at hk
      cases hk
      rw [g3, ai_updA_at]
  · rw [p3 _ (by omega)] at hd
    by_cases ek : k + 16 = h.1
    · rw [if_pos ek] at hd
      cases hd
      have h1 : k = ws.length := by omega
      subst h1
      refine ⟨x, ?_, hx⟩
      rw [List.getElem?_append_right (Nat.le_refl _), Nat.sub_self, g3, ai_updA_at]
      rfl
    · rw [if_neg ek] at hd
      obtain ⟨x2, h1, h2⟩ := g5 k (by omega) d hd
      have el : k < ws.length := (List.getElem?_eq_some_iff.mp h1).1
      refine ⟨x2, ?_, h2.mono ai_ext.rfl' ext (Nat.le_refl _) (by omega)⟩
      rw [List.getElem?_append_left el, h1, ext _ (by omega)]
  · rw [p3 _ (by omega)] at hd
    by_cases ek : k + 16 = h.1
    · rw [if_pos ek] at hd; cases hd
    · rw [if_neg ek] at hd
      rw [List.getElem?_append_left (by omega)]
      exact g6 k (by omega) hd
/-- old cells: the script -/
abbrev ai_B : Type := (Nat → Nat) × List (Nat × Nat × Nat × (Nat → Int32))
noncomputable def ai_Xo (xo : List (Nat × Nat × Nat × (Nat → Int32))) (A : Nat → Prop) (s : State) : Prop := ∀ z ∈ xo, va_X z.2.1 z.2.2.1 z.2.2.2 s s.heap ∧ z.2.1 < s.heap.size ∧ ¬ A z.2.1
noncomputable def ai_gO (xo : List (Nat × Nat × Nat × (Nat → Int32))) (r : Nat → Int) (ad : Nat → Nat) (N : Nat) (h : ai_H) : Prop := ∀ q, q < 16 → ∀ c, ai_cell h q = some c → ∃ z ∈ xo, ∃ (lo hi : Int) (l : List (ai_X × ai_X)), c = .inr (.inl (0, z.2.2.1, lo, hi, l)) ∧ ad q = z.2.1 ∧ ai_gK r N lo hi l z.2.2.1 (fun j => (z.2.2.2 j).toInt)
theorem ai_gO.mono {xo : List (Nat × Nat × Nat × (Nat → Int32))} {r r' : Nat → Int} {ad ad' : Nat → Nat} {N N' n : Nat} (hn : 16 ≤ n) (hr : ai_ext N r r') (ha : ai_ext n ad ad') (hN : N ≤ N') {h : ai_H} (g : ai_gO xo r ad N h) : ai_gO xo r' ad' N' h := fun q hq c hc => by
  obtain ⟨z, hz, lo, hi, l, h1, h2, h5⟩ := g q hq c hc
  have e := ha q (by omega)
  exact ⟨z, hz, lo, hi, l, h1, by rw [e]; exact h2, h5.mono hr hN⟩
theorem ai_gO.heap {xo : List (Nat × Nat × Nat × (Nat → Int32))} {r : Nat → Int} {ad : Nat → Nat} {N : Nat} {h h' : ai_H} (g : ai_gO xo r ad N h) (e : ∀ k, k < 16 → ai_cell h' k = ai_cell h k) : ai_gO xo r ad N h' := fun q hq c hc => g q hq c (by rw [← e q hq]; exact hc)
/-- what the script is, as the domain has it -/
theorem ai_gO.use {xo : List (Nat × Nat × Nat × (Nat → Int32))} {A : Nat → Prop} {s : State} {r : Nat → Int} {ad : Nat → Nat} {N : Nat} {h : ai_H} (g : ai_gO xo r ad N h) (hX : ai_Xo xo A s) : ∀ q, q < 16 → ∀ c, ai_cell h q = some c → ∃ (m : Nat) (lo hi : Int) (l : List (ai_X × ai_X)) (xs : Nat → Int32), c = .inr (.inl (0, m, lo, hi, l)) ∧ va_X (ad q) m xs s s.heap ∧ ad q < s.heap.size ∧ ¬ A (ad q) ∧ ai_gK r N lo hi l m (fun j => (xs j).toInt) := fun q hq c hc => by
  obtain ⟨z, hz, lo, hi, l, h1, h2, h5⟩ := g q hq c hc
  obtain ⟨x1, x2, x3⟩ := hX z hz
  exact ⟨_, lo, hi, l, _, h1, by rw [h2]; exact x1, by rw [h2]; exact x2, by rw [h2]; exact x3, h5⟩
/-- locals and the operand stack -/
noncomputable def ai_gL (r : Nat → Int) (ad : Nat → Nat) (N n nL : Nat) (L : List ai_V) (ls : Array Slot) : Prop := L.length = nL ∧ ls.size = nL ∧ lv_wf ls ∧ ∀ i, ai_lget L i ≠ .inr (.inr none) → ∃ v, ls[i]? = some (.val v) ∧ ai_gV r ad N n (ai_lget L i) v
theorem ai_gL.mono {r r' : Nat → Int} {ad ad' : Nat → Nat} {N N' n n' nL : Nat} (hr : ai_ext N r r') (ha : ai_ext n ad ad') (hN : N ≤ N') (hn : n ≤ n') {L : List ai_V} {ls : Array Slot} (h : ai_gL r ad N n nL L ls) : ai_gL r' ad' N' n' nL L ls :=
  ⟨h.1, h.2.1, h.2.2.1, fun i hi => by
    obtain ⟨v, h1, h2⟩ := h.2.2.2 i hi
    exact ⟨v, h1, h2.mono hr ha hN hn⟩⟩
theorem ai_gV.cat {r : Nat → Int} {ad : Nat → Nat} {N n : Nat} {a : ai_V} {v : Value} (h : ai_gV r ad N n a v) : (ai_one a = true → v.category = 1) ∧ (ai_lng a = true → v.category = 2) := by
  rcases a with x | x | _ | _ | q
  · obtain ⟨-, i, rfl, -⟩ := h
    exact ⟨fun _ => rfl, fun e => by cases e⟩
  · obtain ⟨-, i, rfl, -⟩ := h
    exact ⟨fun e => (by cases e), fun _ => rfl⟩
  · exact ⟨fun e => (by cases e), fun e => by cases e⟩
  · have h : v = .null := h
    subst h
    exact ⟨fun _ => rfl, fun e => by cases e⟩
  · obtain ⟨-, rfl⟩ := h
    exact ⟨fun _ => rfl, fun e => by cases e⟩
theorem ai_lget_len : ∀ {L : List ai_V} {i : Nat}, ai_lget L i ≠ .inr (.inr none) → i < L.length
  | [], _, h => absurd rfl h
  | _ :: _, 0, _ => Nat.succ_pos _
  | _ :: L, i + 1, h => Nat.succ_lt_succ (ai_lget_len (L := L) (i := i) h)
theorem ai_lset_len : ∀ (L : List ai_V) (i : Nat) (v : ai_V), (ai_lset L i v).length = L.length
  | [], _, _ => rfl
  | _ :: _, 0, _ => rfl
  | _ :: L, 1, v => congrArg Nat.succ (ai_lset_len L 0 v)
  | _ :: L, i + 2, v => congrArg Nat.succ (ai_lset_len L (i + 1) v)
theorem ai_lget_set : ∀ (L : List ai_V) (i : Nat) (v : ai_V), i < L.length → ∀ j, ai_lget (ai_lset L i v) j = if j = i then v else if j + 1 = i then ai_kill (ai_lget L j) else ai_lget L j
  | [], i, v, h, j => by cases h
  | w :: L, 0, v, h, j => by
    cases j with
    | zero => rfl
    | succ j => simp [ai_lset_z, ai_lset_o, ai_lset_s, ai_lget_z, ai_lget_s]
  | w :: L, 1, v, h, j => by
    have h : 0 < L.length := Nat.lt_of_succ_lt_succ h
    cases j with
    | zero => simp [ai_lset_z, ai_lset_o, ai_lset_s, ai_lget_z, ai_lget_s]
    | succ j =>
      have := ai_lget_set L 0 v h j
      simp only [ai_lset_z, ai_lset_o, ai_lset_s, ai_lget_z, ai_lget_s]
      rw [this]
      simp
  | w :: L, i + 2, v, h, j => by
    have h : i + 1 < L.length := Nat.lt_of_succ_lt_succ h
    cases j with
    | zero => simp [ai_lset_z, ai_lset_o, ai_lset_s, ai_lget_z, ai_lget_s]
    | succ j =>
      have := ai_lget_set L (i + 1) v h j
      simp only [ai_lset_z, ai_lset_o, ai_lset_s, ai_lget_z, ai_lget_s]
      rw [this]
      simp
/-- the pairs that the kit's rows speak of -/
noncomputable def ai_unk (a : ai_V) : Bool := match a with
  | .inr (.inr none) => true
  | _ => false
theorem ai_unk_iff {a : ai_V} : ai_unk a = false ↔ a ≠ .inr (.inr none) := by
  rcases a with x | x | _ | x
  · exact ⟨fun _ q => (by cases q), fun _ => rfl⟩
  · exact ⟨fun _ q => (by cases q), fun _ => rfl⟩
  · exact ⟨fun h => (by cases h), fun h => absurd rfl h⟩
  · exact ⟨fun _ q => (by cases q), fun _ => rfl⟩
noncomputable def ai_pair (ls : Array Slot) (L : List ai_V) (i : Nat) : Option (Nat × Value) := match ai_unk (ai_lget L i) with
  | true => none
  | false => match ls[i]? with
    | some (.val v) => some (i, v)
    | _ => none
theorem ai_pair_some {ls : Array Slot} {L : List ai_V} {i : Nat} {q : Nat × Value} (h : ai_pair ls L i = some q) : q.1 = i ∧ ls[i]? = some (.val q.2) := by
  unfold ai_pair at h
  cases e : ai_unk (ai_lget L i) with
  | true => rw [e] at h; cases h
  | false =>
    rw [e] at h
    cases e2 : ls[i]? with
    | none => rw [e2] at h; cases h
    | some x => cases x with
      | unset => rw [e2] at h; cases h
      | second => rw [e2] at h; cases h
      | val v => rw [e2] at h; cases h; exact ⟨rfl, rfl⟩
noncomputable def ai_pairs (ls : Array Slot) (L : List ai_V) : List (Nat × Value) := (List.range L.length).filterMap (ai_pair ls L)
theorem ai_pairs_has {r : Nat → Int} {ad : Nat → Nat} {N n nL : Nat} {L : List ai_V} {ls : Array Slot} (h : ai_gL r ad N n nL L ls) : lv_has ls nL (ai_pairs ls L) := by
  refine ⟨h.2.1, h.2.2.1, fun q hq => ?_⟩
  obtain ⟨i, -, hi⟩ := List.mem_filterMap.mp hq
  obtain ⟨e1, e2⟩ := ai_pair_some hi
  rw [e1]; exact e2
theorem ai_pairs_mem {r : Nat → Int} {ad : Nat → Nat} {N n nL : Nat} {L : List ai_V} {ls : Array Slot} (h : ai_gL r ad N n nL L ls) {i : Nat} (hi : ai_lget L i ≠ .inr (.inr none)) : ∃ v, (i, v) ∈ ai_pairs ls L ∧ ai_gV r ad N n (ai_lget L i) v := by
  obtain ⟨v, h1, h2⟩ := h.2.2.2 i hi
  refine ⟨v, List.mem_filterMap.mpr ⟨i, List.mem_range.mpr (ai_lget_len hi), ?_⟩, h2⟩
  unfold ai_pair
  rw [ai_unk_iff.mpr hi, h1]
/-- behind a store of one word -/
theorem ai_gL.set' {r : Nat → Int} {ad : Nat → Nat} {N n nL : Nat} {L : List ai_V} {ls ls' : Array Slot} (h : ai_gL r ad N n nL L ls) {i : Nat} (hi : i < nL) {a : ai_V} {v : Value} (ha : ai_gV r ad N n a v) (g : lv_has ls' nL ((i, v) :: (ai_pairs ls L).filter (fun q => !(q.1 == i) && !(q.1 + 1 == i && q.2.category == 2)))) : ai_gL r ad N n nL (ai_lset L i a) ls' := by
  refine ⟨(ai_lset_len _ _ _).trans h.1, g.1, g.2.1, fun j hj => ?_⟩
  rw [ai_lget_set L i a (by rw [h.1]; exact hi)] at hj ⊢
  by_cases e : j = i
  · subst e
    rw [if_pos rfl]
    exact ⟨v, g.2.2 _ List.mem_cons_self, ha⟩
  · rw [if_neg e] at hj ⊢
    by_cases e2 : j + 1 = i
    · rw [if_pos e2] at hj ⊢
      have hk : ai_lget L j ≠ .inr (.inr none) ∧ ai_kill (ai_lget L j) = ai_lget L j ∧ ai_lng (ai_lget L j) = false := by
        cases e3 : ai_lget L j with
        | inl x => exact ⟨fun q => (by cases q), rfl, rfl⟩
        | inr x => cases x with
          | inl x => rw [e3] at hj; exact absurd rfl hj
          | inr x => cases x with
            | none => rw [e3] at hj; exact absurd rfl hj
            | some x => exact ⟨fun q => (by cases q), rfl, rfl⟩
      obtain ⟨w, k1, k2⟩ := ai_pairs_mem h hk.1
      rw [hk.2.1]
      refine ⟨w, g.2.2 (j, w) (List.mem_cons_of_mem _ (List.mem_filter.mpr ⟨k1, ?_⟩)), k2⟩
      have c1 : ai_one (ai_lget L j) = true := by
        cases e3 : ai_lget L j with
        | inl x => rfl
        | inr x => cases x with
          | inl x => rw [e3] at hk; exact absurd hk.2.2 (by simp [ai_lng])
          | inr x => cases x with
            | none => exact absurd e3 hk.1
            | some x => rfl
      have c2 := k2.cat.1 c1
      simp [e, c2]
    · rw [if_neg e2] at hj ⊢
      obtain ⟨w, k1, k2⟩ := ai_pairs_mem h hj
      refine ⟨w, g.2.2 (j, w) (List.mem_cons_of_mem _ (List.mem_filter.mpr ⟨k1, ?_⟩)), k2⟩
      simp [e, e2]
theorem ai_gL.set {r : Nat → Int} {ad : Nat → Nat} {N n nL : Nat} {L : List ai_V} {ls ls' : Array Slot} (h : ai_gL r ad N n nL L ls) {i : Nat} (hi : i < nL) {a : ai_V} {v : Value} (ha : ai_gV r ad N n a v) (_ : ai_one a = true) (g : lv_has ls' nL ((i, v) :: (ai_pairs ls L).filter (fun q => !(q.1 == i) && !(q.1 + 1 == i && q.2.category == 2)))) : ai_gL r ad N n nL (ai_lset L i a) ls' := h.set' hi ha g
noncomputable def ai_gS (r : Nat → Int) (ad : Nat → Nat) (N n : Nat) (S : List ai_V) (st : List Value) : Prop := ai_gF r ad N n S st
/-- the machine's frame and world, as the domain has them -/
noncomputable def ai_Rel (D : va_G) (tyc : Nat → ClassId) (A : Nat → Prop) (s : State) (sa : ai_B) (ws0 : va_W) (nL : Nat) (r : Nat → Int) (ad : Nat → Nat) (L S : List ai_V) (G : ai_G) (H : Heap) (locs : List Loc) (ls : Array Slot) (st : List Value) : Prop :=
  ∃ ws, va_P D vwCl ws H ∧ va_D A ws ∧ va_S A s.heap H locs ∧ ai_gE r G.1 ∧ ai_gH tyc r ad G.1.1 ws0 G.2.1 ws ∧ ai_gO sa.2 r ad G.1.1 G.2.1 ∧ (∀ i, i < 10 → ad (i + 1) = sa.1 i) ∧ ai_gL r ad G.1.1 G.2.1.1 nL L ls ∧ ai_gS r ad G.1.1 G.2.1.1 S st
