/-! A NUMBER THAT IS KNOWN is put in for its symbol, in all cells -/
noncomputable def sp_x (t : Nat) (k : Int) (x : ai_X) : ai_X := match Nat.beq x.1 t with
  | true => (0, x.2 + k)
  | false => x
noncomputable def sp_v (t : Nat) (k : Int) (v : ai_V) : ai_V := match v with
  | .inl x => .inl (sp_x t k x)
  | .inr (.inl x) => .inr (.inl (sp_x t k x))
  | .inr (.inr q) => .inr (.inr q)
noncomputable def sp_c (t : Nat) (k : Int) (c : ai_C) : ai_C := match c with
  | .inl (ci, fs) => .inl (ci, fs.map (sp_v t k))
  | .inr (.inl (ty, n, lo, hi, l)) => .inr (.inl (ty, n, lo, hi, l.map (fun q => (sp_x t k q.1, sp_x t k q.2))))
  | .inr (.inr q) => .inr (.inr q)
noncomputable def sp_o (t : Nat) (k : Int) (c : Option ai_C) : Option ai_C := match c with
  | some c => some (sp_c t k c)
  | none => none
noncomputable def sp_t (t : Nat) (k : Int) : (d : Nat) → ai_T (Option ai_C) d → ai_T (Option ai_C) d
  | 0, c => sp_o t k c
  | d + 1, T => (sp_t t k d T.1, sp_t t k d T.2)
noncomputable def sp_h (t : Nat) (k : Int) (h : ai_H) : ai_H := (h.1, sp_t t k 9 h.2)
theorem sp_get {t : Nat} {k : Int} : ∀ (d : Nat) (T : ai_T (Option ai_C) d) (q : Nat), ai_tget d (sp_t t k d T) q = sp_o t k (ai_tget d T q)
  | 0, _, _ => rfl
  | d + 1, T, q => by
    rcases Nat.mod_two_eq_zero_or_one q with hq | hq
    · rw [ai_tget_e (t := sp_t t k (d + 1) T) hq, ai_tget_e (t := T) hq]
      exact sp_get d T.1 _
    · rw [ai_tget_o (t := sp_t t k (d + 1) T) hq, ai_tget_o (t := T) hq]
      exact sp_get d T.2 _
theorem sp_cell {t : Nat} {k : Int} {h : ai_H} {q : Nat} : ai_cell (sp_h t k h) q = sp_o t k (ai_cell h q) := sp_get 9 h.2 q
section SP
variable {r : Nat → Int} {ad : Nat → Nat} {N n t : Nat} {k : Int}
theorem sp_vx (h0 : r 0 = 0) (ht : r t = k) (x : ai_X) : ai_vx r (sp_x t k x) = ai_vx r x := by
  unfold sp_x
  cases e : Nat.beq x.1 t with
  | true =>
    have e := Nat.eq_of_beq_eq_true e
    show r 0 + (x.2 + k) = r x.1 + x.2
    rw [h0, e, ht]
    omega
  | false => rfl
theorem sp_lt (hN : 0 < N) {x : ai_X} (h : x.1 < N) : (sp_x t k x).1 < N := by
  unfold sp_x
  cases Nat.beq x.1 t with
  | true => exact hN
  | false => exact h
theorem sp_gV (h0 : r 0 = 0) (hN : 0 < N) (ht : r t = k) {a : ai_V} {v : Value} (h : ai_gV r ad N n a v) : ai_gV r ad N n (sp_v t k a) v := by
  rcases a with x | x | q
  · obtain ⟨h1, i, h2, h3⟩ := h
    exact ⟨sp_lt hN h1, i, h2, h3.trans (sp_vx h0 ht x).symm⟩
  · obtain ⟨h1, i, h2, h3⟩ := h
    exact ⟨sp_lt hN h1, i, h2, h3.trans (sp_vx h0 ht x).symm⟩
  · exact h
theorem sp_gF (h0 : r 0 = 0) (hN : 0 < N) (ht : r t = k) : ∀ {l : List ai_V} {m : List Value}, ai_gF r ad N n l m → ai_gF r ad N n (l.map (sp_v t k)) m
  | [], [], _ => trivial
  | _ :: _, _ :: _, h => ⟨sp_gV h0 hN ht h.1, sp_gF h0 hN ht h.2⟩
  | [], _ :: _, h => h.elim
  | _ :: _, [], h => h.elim
theorem sp_ov (h0 : r 0 = 0) (ht : r t = k) {lo hi v : Int} {j : Nat} : ∀ {l : List (ai_X × ai_X)}, ai_ov r lo hi l j v → ai_ov r lo hi (l.map (fun q => (sp_x t k q.1, sp_x t k q.2))) j v
  | [], g => g
  | (i, x) :: l, g => by
    show (ai_vx r (sp_x t k i) = (j : Int) → v = ai_vx r (sp_x t k x)) ∧ (ai_vx r (sp_x t k i) ≠ (j : Int) → ai_ov r lo hi (l.map (fun q => (sp_x t k q.1, sp_x t k q.2))) j v)
    rw [sp_vx h0 ht i, sp_vx h0 ht x]
    exact ⟨g.1, fun q => sp_ov h0 ht (g.2 q)⟩
theorem sp_gK (h0 : r 0 = 0) (hN : 0 < N) (ht : r t = k) {lo hi : Int} {l : List (ai_X × ai_X)} {m : Nat} {g : Nat → Int} (h : ai_gK r N lo hi l m g) : ai_gK r N lo hi (l.map (fun q => (sp_x t k q.1, sp_x t k q.2))) m g :=
  ⟨fun q hq => by
    obtain ⟨z, h1, rfl⟩ := List.mem_map.mp hq
    exact ⟨sp_lt hN (h.1 z h1).1, sp_lt hN (h.1 z h1).2⟩, fun j hj => sp_ov h0 ht (h.2 j hj)⟩
theorem sp_gC (h0 : r 0 = 0) (hN : 0 < N) (ht : r t = k) {tyc : Nat → ClassId} {c : ai_C} {e : va_E} (h : ai_gC tyc r ad N n c e) : ai_gC tyc r ad N n (sp_c t k c) e := by
  rcases c with ⟨ci, fs⟩ | ⟨ty, m, lo, hi, l⟩ | q
  · obtain ⟨vs, h1, h2⟩ := h
    exact ⟨vs, h1, sp_gF h0 hN ht h2⟩
  · rcases h with ⟨e0, f, h1, h2⟩ | ⟨e0, f, h1, h2⟩
    · exact Or.inl ⟨e0, f, h1, sp_gK h0 hN ht h2⟩
    · exact Or.inr ⟨e0, f, h1, sp_gK h0 hN ht h2⟩
  · exact h
end SP
theorem sp_ok {s : State} {D : va_G} {tyc : Nat → ClassId} {A : Nat → Prop} {sa : ai_B} {ws : va_W} {nL : Nat} {r : Nat → Int} {ad : Nat → Nat} {L S : List ai_V} {G : ai_G} {H : Heap} {locs : List Loc} {ls : Array Slot} {st : List Value} {t : Nat} {k : Int} (hR : ai_Rel D tyc A s sa ws nL r ad L S G H locs ls st) (ht : r t = k) (h16 : ∀ q, q < 16 → ai_cell G.2.1 q = none) : ai_Rel D tyc A s sa ws nL r ad L S (G.1, sp_h t k G.2.1, G.2.2) H locs ls st := by
  obtain ⟨ws2, hP, hD, hS, hE, hH, hO, hsa, hL, hSt⟩ := hR
  refine ⟨ws2, hP, hD, hS, hE, ⟨hH.1, hH.2.1, fun q hq d hd => ?_, fun q hq hd => ?_⟩, fun q hq d hd => ?_, hsa, hL, hSt⟩
  · have hd : ai_cell (sp_h t k G.2.1) (q + 16) = some d := hd
    rw [sp_cell] at hd
    cases ec : ai_cell G.2.1 (q + 16) with
    | none =>
      rw [ec] at hd
      cases hd
    | some c =>
      rw [ec] at hd
      cases hd
      obtain ⟨e, h1, h2⟩ := hH.2.2.1 q hq c ec
      exact ⟨e, h1, sp_gC hE.1 hE.2.1 ht h2⟩
  · have hd : ai_cell (sp_h t k G.2.1) (q + 16) = none := hd
    rw [sp_cell] at hd
    cases ec : ai_cell G.2.1 (q + 16) with
    | none => exact hH.2.2.2 q hq ec
    | some c =>
      rw [ec] at hd
      cases hd
  · have hd : ai_cell (sp_h t k G.2.1) q = some d := hd
    rw [sp_cell, h16 q hq] at hd
    cases hd
