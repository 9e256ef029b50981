/-! A NUMBER IN THE PLACE OF ANOTHER that is the same, in all cells (printed by gx.py) -/
noncomputable def tq_x (t : Nat) (u : Nat) (x : ai_X) : ai_X := match Nat.beq x.1 t with
  | true => (u, x.2)
  | false => x
noncomputable def tq_v (t : Nat) (u : Nat) (v : ai_V) : ai_V := match v with
  | .inl x => .inl (tq_x t u x)
  | .inr (.inl x) => .inr (.inl (tq_x t u x))
  | .inr (.inr q) => .inr (.inr q)
noncomputable def tq_c (t : Nat) (u : Nat) (c : ai_C) : ai_C := match c with
  | .inl (ci, fs) => .inl (ci, fs.map (tq_v t u))
  | .inr (.inl (ty, n, lo, hi, l)) => .inr (.inl (ty, n, lo, hi, l.map (fun q => (tq_x t u q.1, tq_x t u q.2))))
  | .inr (.inr q) => .inr (.inr q)
noncomputable def tq_o (t : Nat) (u : Nat) (c : Option ai_C) : Option ai_C := match c with
  | some c => some (tq_c t u c)
  | none => none
noncomputable def tq_t (t : Nat) (u : Nat) : (d : Nat) → ai_T (Option ai_C) d → ai_T (Option ai_C) d
  | 0, c => tq_o t u c
  | d + 1, T => (tq_t t u d T.1, tq_t t u d T.2)
noncomputable def tq_h (t : Nat) (u : Nat) (h : ai_H) : ai_H := (h.1, tq_t t u 9 h.2)
theorem tq_get {t : Nat} {u : Nat} : ∀ (d : Nat) (T : ai_T (Option ai_C) d) (q : Nat), ai_tget d (tq_t t u d T) q = tq_o t u (ai_tget d T q)
  | 0, _, _ => rfl
  | d + 1, T, q => by
    rcases Nat.mod_two_eq_zero_or_one q with hq | hq
    · rw [ai_tget_e (t := tq_t t u (d + 1) T) hq, ai_tget_e (t := T) hq]
      exact tq_get d T.1 _
    · rw [ai_tget_o (t := tq_t t u (d + 1) T) hq, ai_tget_o (t := T) hq]
      exact tq_get d T.2 _
theorem tq_cell {t : Nat} {u : Nat} {h : ai_H} {q : Nat} : ai_cell (tq_h t u h) q = tq_o t u (ai_cell h q) := tq_get 9 h.2 q
section SP
variable {r : Nat → Int} {ad : Nat → Nat} {N n t : Nat} {u : Nat}
theorem tq_vx (h0 : r 0 = 0) (ht : r t = r u) (x : ai_X) : ai_vx r (tq_x t u x) = ai_vx r x := by
  unfold tq_x
  cases e : Nat.beq x.1 t with
  | true =>
    have e := Nat.eq_of_beq_eq_true e
    show r u + x.2 = r x.1 + x.2
    rw [e, ht]
  | false => rfl
theorem tq_lt (hN : u < N) {x : ai_X} (h : x.1 < N) : (tq_x t u x).1 < N := by
  unfold tq_x
  cases Nat.beq x.1 t with
  | true => exact hN
  | false => exact h
theorem tq_gV (h0 : r 0 = 0) (hN : u < N) (ht : r t = r u) {a : ai_V} {v : Value} (h : ai_gV r ad N n a v) : ai_gV r ad N n (tq_v t u a) v := by
  rcases a with x | x | q
  · obtain ⟨h1, i, h2, h3⟩ := h
    exact ⟨tq_lt hN h1, i, h2, h3.trans (tq_vx h0 ht x).symm⟩
  · obtain ⟨h1, i, h2, h3⟩ := h
    exact ⟨tq_lt hN h1, i, h2, h3.trans (tq_vx h0 ht x).symm⟩
  · exact h
theorem tq_gF (h0 : r 0 = 0) (hN : u < N) (ht : r t = r u) : ∀ {l : List ai_V} {m : List Value}, ai_gF r ad N n l m → ai_gF r ad N n (l.map (tq_v t u)) m
  | [], [], _ => trivial
  | _ :: _, _ :: _, h => ⟨tq_gV h0 hN ht h.1, tq_gF h0 hN ht h.2⟩
  | [], _ :: _, h => h.elim
  | _ :: _, [], h => h.elim
theorem tq_ov (h0 : r 0 = 0) (ht : r t = r u) {lo hi v : Int} {j : Nat} : ∀ {l : List (ai_X × ai_X)}, ai_ov r lo hi l j v → ai_ov r lo hi (l.map (fun q => (tq_x t u q.1, tq_x t u q.2))) j v
  | [], g => g
  | (i, x) :: l, g => by
    show (ai_vx r (tq_x t u i) = (j : Int) → v = ai_vx r (tq_x t u x)) ∧ (ai_vx r (tq_x t u i) ≠ (j : Int) → ai_ov r lo hi (l.map (fun q => (tq_x t u q.1, tq_x t u q.2))) j v)
    rw [tq_vx h0 ht i, tq_vx h0 ht x]
    exact ⟨g.1, fun q => tq_ov h0 ht (g.2 q)⟩
theorem tq_gK (h0 : r 0 = 0) (hN : u < N) (ht : r t = r u) {lo hi : Int} {l : List (ai_X × ai_X)} {m : Nat} {g : Nat → Int} (h : ai_gK r N lo hi l m g) : ai_gK r N lo hi (l.map (fun q => (tq_x t u q.1, tq_x t u q.2))) m g :=
  ⟨fun q hq => by
    obtain ⟨z, h1, rfl⟩ := List.mem_map.mp hq
    exact ⟨tq_lt hN (h.1 z h1).1, tq_lt hN (h.1 z h1).2⟩, fun j hj => tq_ov h0 ht (h.2 j hj)⟩
theorem tq_gC (h0 : r 0 = 0) (hN : u < N) (ht : r t = r u) {tyc : Nat → ClassId} {c : ai_C} {e : va_E} (h : ai_gC tyc r ad N n c e) : ai_gC tyc r ad N n (tq_c t u c) e := by
  rcases c with ⟨ci, fs⟩ | ⟨ty, m, lo, hi, l⟩ | q
  · obtain ⟨vs, h1, h2⟩ := h
    exact ⟨vs, h1, tq_gF h0 hN ht h2⟩
  · rcases h with ⟨e0, f, h1, h2⟩ | ⟨e0, f, h1, h2⟩
    · exact Or.inl ⟨e0, f, h1, tq_gK h0 hN ht h2⟩
    · exact Or.inr ⟨e0, f, h1, tq_gK h0 hN ht h2⟩
  · exact h
end SP
noncomputable def tq_G (t u : Nat) (G : ai_G) : ai_G := (G.1, tq_h t u G.2.1, G.2.2)
theorem tq_ok {s : State} {D : va_G} {tyc : Nat → ClassId} {A : Nat → Prop} {sa : ai_B} {ws : va_W} {nL : Nat} {r : Nat → Int} {ad : Nat → Nat} {L S : List ai_V} {G : ai_G} {H : Heap} {locs : List Loc} {ls : Array Slot} {st : List Value} {t : Nat} {u : Nat} (hR : ai_Rel D tyc A s sa ws nL r ad L S G H locs ls st) (ht : r t = r u) (hu : u < G.1.1) (h16 : ∀ q, q < 16 → ai_cell G.2.1 q = none) : ai_Rel D tyc A s sa ws nL r ad L S (tq_G t u G) H locs ls st := by
  obtain ⟨ws2, hP, hD, hS, hE, hH, hO, hsa, hL, hSt⟩ := hR
  refine ⟨ws2, hP, hD, hS, hE, ⟨hH.1, hH.2.1, fun q hq d hd => ?_, fun q hq hd => ?_⟩, fun q hq d hd => ?_, hsa, hL, hSt⟩
  · have hd : ai_cell (tq_h t u G.2.1) (q + 16) = some d := hd
    rw [tq_cell] at hd
    cases ec : ai_cell G.2.1 (q + 16) with
    | none =>
      rw [ec] at hd
      cases hd
    | some c =>
      rw [ec] at hd
      cases hd
      obtain ⟨e, h1, h2⟩ := hH.2.2.1 q hq c ec
      exact ⟨e, h1, tq_gC hE.1 hu ht h2⟩
  · have hd : ai_cell (tq_h t u G.2.1) (q + 16) = none := hd
    rw [tq_cell] at hd
    cases ec : ai_cell G.2.1 (q + 16) with
    | none => exact hH.2.2.2 q hq ec
    | some c =>
      rw [ec] at hd
      cases hd
  · have hd : ai_cell (tq_h t u G.2.1) q = some d := hd
    rw [tq_cell, h16 q hq] at hd
    cases hd
