/-! ONE INSTRUCTION -/
noncomputable def ai_Cn (p : Program) (l : Launch) (e : Env) (R : Room) (s : State) (m : MethodId) (args : Array Value) (below : List Frame) (meth : Method) (c : Code) (Q : State → Prop) (D : va_G) (tyc : Nat → ClassId) (A : Nat → Prop) (sa : ai_B) (ws0 : va_W) (nL : Nat) (r : Nat → Int) (ad : Nat → Nat) (G0 : ai_G) (f : ai_F) : Prop :=
  ∀ (r' : Nat → Int) (ad' : Nat → Nat), ai_ext G0.1.1 r r' → ai_ext G0.2.1.1 ad ad' → G0.1.1 ≤ f.2.2.2.1.1 → G0.2.1.1 ≤ f.2.2.2.2.1.1 → ∀ (H : Heap) (locs : List Loc) (ls : Array Slot) (st : List Value), ai_Rel D tyc A s sa ws0 nL r' ad' f.2.1 f.2.2.1 f.2.2.2 H locs ls st → W p l e R s m args below meth c H locs f.2.2.2.2.2.1 f.2.2.2.2.2.2 Q (F0 m f.1 ls st)
theorem ai_gF.cons {r : Nat → Int} {ad : Nat → Nat} {N n : Nat} {a : ai_V} {l : List ai_V} {m : List Value} (h : ai_gF r ad N n (a :: l) m) : ∃ v t, m = v :: t ∧ ai_gV r ad N n a v ∧ ai_gF r ad N n l t := by
  cases m with
  | nil => exact h.elim
  | cons v t => exact ⟨v, t, rfl, h.1, h.2⟩
theorem ai_gF.int {r : Nat → Int} {ad : Nat → Nat} {N n : Nat} {x : ai_X} {l : List ai_V} {m : List Value} (h : ai_gF r ad N n (.inl x :: l) m) : ∃ (i : Int32) (t : List Value), m = .int i :: t ∧ x.1 < N ∧ i.toInt = ai_vx r x ∧ ai_gF r ad N n l t := by
  obtain ⟨v, t, rfl, ⟨h1, i, rfl, h2⟩, h3⟩ := h.cons
  exact ⟨i, t, rfl, h1, h2, h3⟩
theorem ai_gF.long {r : Nat → Int} {ad : Nat → Nat} {N n : Nat} {x : ai_X} {l : List ai_V} {m : List Value} (h : ai_gF r ad N n (.inr (.inl x) :: l) m) : ∃ (i : Int64) (t : List Value), m = .long i :: t ∧ x.1 < N ∧ i.toInt = ai_vx r x ∧ ai_gF r ad N n l t := by
  obtain ⟨v, t, rfl, ⟨h1, i, rfl, h2⟩, h3⟩ := h.cons
  exact ⟨i, t, rfl, h1, h2, h3⟩
theorem ai_gF.ref {r : Nat → Int} {ad : Nat → Nat} {N n q : Nat} {l : List ai_V} {m : List Value} (h : ai_gF r ad N n (.inr (.inr (some (some q))) :: l) m) : ∃ (t : List Value), m = .ref (ad q) :: t ∧ q < n ∧ ai_gF r ad N n l t := by
  obtain ⟨v, t, rfl, ⟨h1, rfl⟩, h3⟩ := h.cons
  exact ⟨t, rfl, h1, h3⟩
section ST
variable {p : Program} {l : Launch} {e : Env} {R : Room} {s : State} {m : MethodId} {args : Array Value} {below : List Frame} {meth : Method} {c : Code} {Q : State → Prop}
variable {D : va_G} {tyc : Nat → ClassId} {A : Nat → Prop} {sa : ai_B} {ws0 : va_W} {nL : Nat} {cc : ByteArray} {own : String} {Ts : List Cond}
variable {r : Nat → Int} {ad : Nat → Nat} {L S : List ai_V} {G : ai_G} {H : Heap} {locs : List Loc} {ls : Array Slot} {st : List Value} {pc nx : Nat} {fs : List ai_F}
theorem ai_Rel.re {E' : ai_E} {r' : Nat → Int} {S' : List ai_V} {st' : List Value} (hR : ai_Rel D tyc A s sa ws0 nL r ad L S G H locs ls st) (hx : ai_ext G.1.1 r r') (hN : G.1.1 ≤ E'.1) (hE' : ai_gE r' E') (hS' : ai_gF r' ad E'.1 G.2.1.1 S' st') : ai_Rel D tyc A s sa ws0 nL r' ad L S' (E', G.2) H locs ls st' := by
  obtain ⟨ws, hP, hD, hS, hE, hH, hO, hsa, hL, hSt⟩ := hR
  exact ⟨ws, hP, hD, hS, hE', hH.mono hx hN, hO.mono (hH.1.1) hx ai_ext.rfl' hN, hsa, hL.mono hx ai_ext.rfl' hN (Nat.le_refl _), hS'⟩
theorem ai_Rel.st' {S' : List ai_V} {st' : List Value} (hR : ai_Rel D tyc A s sa ws0 nL r ad L S G H locs ls st) (hS' : ai_gF r ad G.1.1 G.2.1.1 S' st') : ai_Rel D tyc A s sa ws0 nL r ad L S' G H locs ls st' := by
  obtain ⟨ws, hP, hD, hS, hE, hH, hO, hsa, hL, hSt⟩ := hR
  exact ⟨ws, hP, hD, hS, hE, hH, hO, hsa, hL, hS'⟩
theorem ai_Rel.stk (hR : ai_Rel D tyc A s sa ws0 nL r ad L S G H locs ls st) : ai_gF r ad G.1.1 G.2.1.1 S st := by
  obtain ⟨ws, hP, hD, hS, hE, hH, hO, hsa, hL, hSt⟩ := hR
  exact hSt
theorem ai_Rel.env (hR : ai_Rel D tyc A s sa ws0 nL r ad L S G H locs ls st) : ai_gE r G.1 := by
  obtain ⟨ws, hP, hD, hS, hE, hH, hO, hsa, hL, hSt⟩ := hR
  exact hE
theorem ai_Cn.use {f : ai_F} (k : ai_Cn p l e R s m args below meth c Q D tyc A sa ws0 nL r ad G f) {r' : Nat → Int} {ad' : Nat → Nat} (h1 : ai_ext G.1.1 r r') (h2 : ai_ext G.2.1.1 ad ad') (h3 : G.1.1 ≤ f.2.2.2.1.1) (h4 : G.2.1.1 ≤ f.2.2.2.2.1.1) (hR : ai_Rel D tyc A s sa ws0 nL r' ad' f.2.1 f.2.2.1 f.2.2.2 H locs ls st) : W p l e R s m args below meth c H locs f.2.2.2.2.2.1 f.2.2.2.2.2.2 Q (F0 m f.1 ls st) := k r' ad' h1 h2 h3 h4 H locs ls st hR
/-- nothing but the stack changes, and the symbols -/
theorem ai_Cn.re {E' : ai_E} {S' : List ai_V} (k : ai_Cn p l e R s m args below meth c Q D tyc A sa ws0 nL r ad G (nx, L, S', (E', G.2))) {r' : Nat → Int} {st' : List Value} (hR : ai_Rel D tyc A s sa ws0 nL r ad L S G H locs ls st) (hx : ai_ext G.1.1 r r') (hN : G.1.1 ≤ E'.1) (hE' : ai_gE r' E') (hS' : ai_gF r' ad E'.1 G.2.1.1 S' st') : W p l e R s m args below meth c H locs G.2.2.1 G.2.2.2 Q (F0 m nx ls st') :=
  k r' ad hx ai_ext.rfl' hN (Nat.le_refl _) H locs ls st' (hR.re hx hN hE' hS')
theorem ai_Cn.st' {S' : List ai_V} (k : ai_Cn p l e R s m args below meth c Q D tyc A sa ws0 nL r ad G (nx, L, S', G)) {st' : List Value} (hR : ai_Rel D tyc A s sa ws0 nL r ad L S G H locs ls st) (hS' : ai_gF r ad G.1.1 G.2.1.1 S' st') : W p l e R s m args below meth c H locs G.2.2.1 G.2.2.2 Q (F0 m nx ls st') :=
  k r ad ai_ext.rfl' ai_ext.rfl' (Nat.le_refl _) (Nat.le_refl _) H locs ls st' (hR.st' hS')
theorem ai_go_eq {nx : Nat} {L S : List ai_V} {G : ai_G} (h : ai_go nx L S G = some (.inl fs)) : fs = [(nx, L, S, G)] := by
  cases h; rfl
theorem ai_s2_Z {o : Nat} (ho : o < 14) {Z : Prop} (row : ∀ (x y : Int32) (rest : List Value), st = .int y :: .int x :: rest → W p l e R s m args below meth c H locs G.2.2.1 G.2.2.2 Q (F0 m nx ls (.int (ai_op32 o x y) :: rest)) → Z)
    (h : ai_s2 o nx L S G = some (.inl fs)) (hR : ai_Rel D tyc A s sa ws0 nL r ad L S G H locs ls st) (k : ∀ f ∈ fs, ai_Cn p l e R s m args below meth c Q D tyc A sa ws0 nL r ad G f) : Z := by
  unfold ai_s2 at h
  split at h
  · rename_i y x S'
    obtain ⟨E, hh, cs, sl⟩ := G
    obtain ⟨j, t1, rfl, hy, ey, h1⟩ := hR.stk.int
    obtain ⟨i, t, rfl, hx, ex, h2⟩ := h1.int
    dsimp only at h
    cases eb : ai_bin E o x y with
    | mk z E' =>
      rw [eb] at h
      have hf := ai_go_eq h
      subst hf
      obtain ⟨r', g1, g2, g3, g4, g5⟩ := ai_bin32 ho hR.env hx hy ex ey eb
      exact row i j t rfl ((k _ List.mem_cons_self).re (G := (E, hh, cs, sl)) hR g1 g2 g3 ⟨⟨g4, _, rfl, g5⟩, h2.mono g1 ai_ext.rfl' g2 (Nat.le_refl _)⟩)
  · cases h
theorem ai_s2_ok {o : Nat} (ho : o < 14) (row : ∀ (x y : Int32) (rest : List Value), st = .int y :: .int x :: rest → W p l e R s m args below meth c H locs G.2.2.1 G.2.2.2 Q (F0 m nx ls (.int (ai_op32 o x y) :: rest)) → W p l e R s m args below meth c H locs G.2.2.1 G.2.2.2 Q (F0 m pc ls (.int y :: .int x :: rest)))
    (h : ai_s2 o nx L S G = some (.inl fs)) (hR : ai_Rel D tyc A s sa ws0 nL r ad L S G H locs ls st) (k : ∀ f ∈ fs, ai_Cn p l e R s m args below meth c Q D tyc A sa ws0 nL r ad G f) : W p l e R s m args below meth c H locs G.2.2.1 G.2.2.2 Q (F0 m pc ls st) :=
  ai_s2_Z ho (fun x y rest e hw => by subst e; exact row x y rest rfl hw) h hR k
theorem ai_l2_Z {o : Nat} (ho : 20 ≤ o ∧ o ≤ 24 ∨ o = 26) {Z : Prop} (row : ∀ (x y : Int64) (rest : List Value), st = .long y :: .long x :: rest → W p l e R s m args below meth c H locs G.2.2.1 G.2.2.2 Q (F0 m nx ls (.long (ai_op64 o x y) :: rest)) → Z)
    (h : ai_l2 o nx L S G = some (.inl fs)) (hR : ai_Rel D tyc A s sa ws0 nL r ad L S G H locs ls st) (k : ∀ f ∈ fs, ai_Cn p l e R s m args below meth c Q D tyc A sa ws0 nL r ad G f) : Z := by
  unfold ai_l2 at h
  split at h
  · rename_i y x S'
    obtain ⟨E, hh, cs, sl⟩ := G
    obtain ⟨j, t1, rfl, hy, ey, h1⟩ := hR.stk.long
    obtain ⟨i, t, rfl, hx, ex, h2⟩ := h1.long
    dsimp only at h
    cases eb : ai_bin E o x y with
    | mk z E' =>
      rw [eb] at h
      have hf := ai_go_eq h
      subst hf
      obtain ⟨r', g1, g2, g3, g4, g5⟩ := ai_bin64 ho hR.env hx hy ex ey eb
      exact row i j t rfl ((k _ List.mem_cons_self).re (G := (E, hh, cs, sl)) hR g1 g2 g3 ⟨⟨g4, _, rfl, g5⟩, h2.mono g1 ai_ext.rfl' g2 (Nat.le_refl _)⟩)
  · cases h
theorem ai_l2_ok {o : Nat} (ho : 20 ≤ o ∧ o ≤ 24 ∨ o = 26) (row : ∀ (x y : Int64) (rest : List Value), st = .long y :: .long x :: rest → W p l e R s m args below meth c H locs G.2.2.1 G.2.2.2 Q (F0 m nx ls (.long (ai_op64 o x y) :: rest)) → W p l e R s m args below meth c H locs G.2.2.1 G.2.2.2 Q (F0 m pc ls (.long y :: .long x :: rest)))
    (h : ai_l2 o nx L S G = some (.inl fs)) (hR : ai_Rel D tyc A s sa ws0 nL r ad L S G H locs ls st) (k : ∀ f ∈ fs, ai_Cn p l e R s m args below meth c Q D tyc A sa ws0 nL r ad G f) : W p l e R s m args below meth c H locs G.2.2.1 G.2.2.2 Q (F0 m pc ls st) :=
  ai_l2_Z ho (fun x y rest e hw => by subst e; exact row x y rest rfl hw) h hR k
/-- a branch: what holds of the numbers is known on each side -/
theorem ai_branch_ok {o tgt : Nat} (ho : o < 6) {x y : ai_X} {S' : List ai_V} {st' : List Value} (hx : x.1 < G.1.1) (hy : y.1 < G.1.1)
    (row : (ai_holds o (ai_vx r x) (ai_vx r y) → W p l e R s m args below meth c H locs G.2.2.1 G.2.2.2 Q (F0 m tgt ls st')) → (¬ ai_holds o (ai_vx r x) (ai_vx r y) → W p l e R s m args below meth c H locs G.2.2.1 G.2.2.2 Q (F0 m nx ls st')) → W p l e R s m args below meth c H locs G.2.2.1 G.2.2.2 Q (F0 m pc ls st))
    (h : ai_branch o tgt nx x y L S' G = some (.inl fs)) (hR : ai_Rel D tyc A s sa ws0 nL r ad L S G H locs ls st) (hS' : ai_gF r ad G.1.1 G.2.1.1 S' st') (k : ∀ f ∈ fs, ai_Cn p l e R s m args below meth c Q D tyc A sa ws0 nL r ad G f) : W p l e R s m args below meth c H locs G.2.2.1 G.2.2.2 Q (F0 m pc ls st) := by
  obtain ⟨E, hh, cs, sl⟩ := G
  have hE : ai_gE r E := hR.env
  unfold ai_branch at h
  dsimp only at h
  cases hp : ai_bxy E x y with
  | mk x' y' =>
  rw [hp] at h
  dsimp only at h
  have h : ai_fork (ai_cmq E o x' y') (ai_cmq E (ai_inv o) x' y') tgt nx L S' hh cs sl = fs := by cases h; rfl
  have key : x'.1 < E.1 ∧ y'.1 < E.1 ∧ (ai_holds o (ai_vx r x) (ai_vx r y) ↔ ai_holds o (ai_vx r x') (ai_vx r y')) := by
    unfold ai_bxy at hp
    split at hp
    · rename_i t
      split at hp
      · rename_i q eq
        subst hp
        have hm := hE.2.2.2.2 _ (ai_lcmp_ok eq)
        refine ⟨hm.2.1, hm.2.2.1, ?_⟩
        have e1 : ai_vx r (t + 1, 0) = ai_op 25 (ai_vx r x') (ai_vx r y') := by
          have := hm.2.2.2
          show r (t + 1) + 0 = _
          rw [Int.add_zero]; exact this
        have e2 : ai_vx r (0, 0) = 0 := by
          show r 0 + 0 = 0
          rw [hE.1]; rfl
        rw [e1, e2]
        exact ai_op25 _ _ _
      · cases hp
        exact ⟨hx, hy, Iff.rfl⟩
    · cases hp
      exact ⟨hx, hy, Iff.rfl⟩
  obtain ⟨hx', hy', hiff⟩ := key
  refine row (fun hc => ?_) (fun hc => ?_)
  · obtain ⟨E1, e1, g1, g2⟩ := ai_cmq_ok hE hx' hy' (hiff.mp hc)
    rw [e1] at h
    have hm : (tgt, L, S', (E1, hh, cs, sl)) ∈ fs := by
      rw [← h]
      cases ai_cmq E (ai_inv o) x' y' with
      | none => exact List.mem_cons_self
      | some E2 => exact List.mem_cons_self
    refine (k _ hm).re (G := (E, hh, cs, sl)) hR ai_ext.rfl' (by rw [g2]; exact Nat.le_refl _) g1 ?_
    show ai_gF r ad E1.1 hh.1 S' st'
    rw [g2]; exact hS'
  · obtain ⟨E1, e1, g1, g2⟩ := ai_cmq_ok hE hx' hy' (ai_inv_ok ho (fun q => hc (hiff.mpr q)))
    rw [e1] at h
    have hm : (nx, L, S', (E1, hh, cs, sl)) ∈ fs := by
      rw [← h]
      cases ai_cmq E o x' y' with
      | none => exact List.mem_cons_self
      | some E2 => exact List.mem_cons_of_mem _ List.mem_cons_self
    refine (k _ hm).re (G := (E, hh, cs, sl)) hR ai_ext.rfl' (by rw [g2]; exact Nat.le_refl _) g1 ?_
    show ai_gF r ad E1.1 hh.1 S' st'
    rw [g2]; exact hS'
theorem ai_load_ok {q : ai_V → Bool} {i : Nat} (hq : ∀ a, q a = true → a ≠ .inr (.inr none)) (row : ∀ (v : Value), ls[i]? = some (.val v) → ai_gV r ad G.1.1 G.2.1.1 (ai_lget L i) v → q (ai_lget L i) = true → W p l e R s m args below meth c H locs G.2.2.1 G.2.2.2 Q (F0 m nx ls (v :: st)) → W p l e R s m args below meth c H locs G.2.2.1 G.2.2.2 Q (F0 m pc ls st))
    (h : ai_load q i nx L S G = some (.inl fs)) (hR : ai_Rel D tyc A s sa ws0 nL r ad L S G H locs ls st) (k : ∀ f ∈ fs, ai_Cn p l e R s m args below meth c Q D tyc A sa ws0 nL r ad G f) : W p l e R s m args below meth c H locs G.2.2.1 G.2.2.2 Q (F0 m pc ls st) := by
  have hR0 := hR
  obtain ⟨ws, hP, hD, hS, hE, hH, hO, hsa, hL, hSt⟩ := hR
  unfold ai_load at h
  dsimp only at h
  split at h
  · rename_i e1
    have hf := ai_go_eq h
    subst hf
    obtain ⟨v, g1, g2⟩ := hL.2.2.2 i (hq _ e1)
    exact row v g1 g2 e1 ((k _ List.mem_cons_self).st' hR0 ⟨g2, hSt⟩)
  · cases h
theorem ai_stor_ok {q : ai_V → Bool} {i : Nat} (hq : ∀ a, q a = true → ai_one a = true) (row : ∀ (a : ai_V) (v : Value) (rest : List Value) (lv' : List (Nat × Value)), ai_gV r ad G.1.1 G.2.1.1 a v → q a = true → i < nL → (i, v) :: (ai_pairs ls L).filter (fun q => !(q.1 == i) && !(q.1 + 1 == i && q.2.category == 2)) = lv' → lv_has ls nL (ai_pairs ls L) → (∀ ls' : Array Slot, lv_has ls' nL lv' → W p l e R s m args below meth c H locs G.2.2.1 G.2.2.2 Q (F0 m nx ls' rest)) → W p l e R s m args below meth c H locs G.2.2.1 G.2.2.2 Q (F0 m pc ls (v :: rest)))
    (h : ai_stor q i nx L S G = some (.inl fs)) (hR : ai_Rel D tyc A s sa ws0 nL r ad L S G H locs ls st) (k : ∀ f ∈ fs, ai_Cn p l e R s m args below meth c Q D tyc A sa ws0 nL r ad G f) : W p l e R s m args below meth c H locs G.2.2.1 G.2.2.2 Q (F0 m pc ls st) := by
  obtain ⟨ws, hP, hD, hS, hE, hH, hO, hsa, hL, hSt⟩ := hR
  unfold ai_stor at h
  split at h
  · rename_i a S'
    obtain ⟨v, t, rfl, g1, g2⟩ := hSt.cons
    split at h
    · rename_i e1 e2
      have hf := ai_go_eq h
      subst hf
      have hi : i < L.length := Nat.le_of_ble_eq_true e2
      rw [hL.1] at hi
      refine row a v t _ g1 e1 hi rfl (ai_pairs_has hL) (fun ls' hl' => ?_)
      exact k _ List.mem_cons_self r ad ai_ext.rfl' ai_ext.rfl' (Nat.le_refl _) (Nat.le_refl _) H locs ls' t ⟨ws, hP, hD, hS, hE, hH, hO, hsa, hL.set hi g1 (hq _ e1) hl', g2⟩
    · cases h
  · cases h
end ST
