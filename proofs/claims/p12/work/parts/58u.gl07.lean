/-! GLUE (9): a system's numbers -/
noncomputable def gq_dv (b : Int × Int) : Int := match ai_le b.1 0 && ai_le 0 b.2 with
  | true => 0
  | false => b.1
noncomputable def gq_fx (X : List (Nat × Nat × Nat)) (t : Nat) : Option (Nat × Nat × Nat) := X.find? (fun x => Nat.beq x.1 t)
noncomputable def gq_fa (AL : List (Nat × ai_X)) (t : Nat) : Option (Nat × ai_X) := AL.find? (fun x => Nat.beq x.1 t)
noncomputable def gq_rn (r : Nat → Int) (c : Nat → Nat → Int) (p : Nat → Bool) (X : List (Nat × Nat × Nat)) (AL : List (Nat × ai_X)) (E' : ai_E) : Nat → Int := fun t => match p t with
  | true => r t
  | false => match gq_fx X t with
    | some x => c x.2.1 x.2.2
    | none => match gq_fa AL t with
      | some x => ai_vx r x.2
      | none => gq_dv (fz_look E'.2.1 t)
noncomputable def gq_n1 (E : ai_E) (h : ai_H) (P p : Nat → Bool) (X : List (Nat × Nat × Nat)) (AL : List (Nat × ai_X)) (t : Nat) (b : Int × Int) : Bool := match p t with
  | true => cx_bd E (t, 0) b
  | false => match gq_fx X t with
    | some x => (match ai_cell h x.2.1 with
      | some (.inr (.inl (_, m, lo, hi, l))) => ((Nat.ble 16 x.2.1 && Nat.blt x.2.1 336) && P x.2.1) && (Nat.blt x.2.2 m && (gq_bd E lo hi b.1 b.2 l && (ai_le ai_lo64 b.1 && ai_le b.2 ai_hi64)))
      | _ => false)
    | none => match gq_fa AL t with
      | some x => cx_bd E x.2 b
      | none => (ai_le b.1 (gq_dv b) && ai_le (gq_dv b) b.2) && (ai_le ai_lo64 (gq_dv b) && ai_le (gq_dv b) ai_hi64)
noncomputable def gq_nk (E : ai_E) (h : ai_H) (P p : Nat → Bool) (X : List (Nat × Nat × Nat)) (AL : List (Nat × ai_X)) (E' : ai_E) : Bool := ((p 0 && Nat.blt 0 E'.1) && pt_un E') && (List.range E'.1).all (fun t => gq_n1 E h P p X AL t (fz_look E'.2.1 t))
noncomputable def gq_nx (p : Nat → Bool) (X : List (Nat × Nat × Nat)) (AL : List (Nat × ai_X)) : Bool := X.all (fun x => !(p x.1) && (match gq_fx X x.1 with
  | some y => Nat.beq y.2.1 x.2.1 && Nat.beq y.2.2 x.2.2
  | none => false)) && AL.all (fun a => !(p a.1) && ((gq_fx X a.1).isNone && (match gq_fa AL a.1 with
  | some y => cx_q y.2 a.2
  | none => false)))
section GLI
variable {tyc : Nat → ClassId} {ws : va_W} {r : Nat → Int} {ad : Nat → Nat} {E E' : ai_E} {h : ai_H} {c : Nat → Nat → Int} {P p : Nat → Bool} {X : List (Nat × Nat × Nat)} {AL : List (Nat × ai_X)} {t : Nat}
theorem gq_rn_p (q : p t = true) : gq_rn r c p X AL E' t = r t := by
  unfold gq_rn
  rw [q]
theorem gq_rn_X (q : gq_nx p X AL = true) : ∀ x ∈ X, gq_rn r c p X AL E' x.1 = c x.2.1 x.2.2 := fun x hx => by
  unfold gq_nx at q
  rw [Bool.and_eq_true] at q
  have g := List.all_eq_true.mp q.1 x hx
  rw [Bool.and_eq_true, Bool.not_eq_true'] at g
  obtain ⟨g1, g2⟩ := g
  unfold gq_rn
  rw [g1]
  cases e : gq_fx X x.1 with
  | none =>
    rw [e] at g2
    cases g2
  | some y =>
    rw [e] at g2
    simp only [Bool.and_eq_true] at g2
    show c y.2.1 y.2.2 = _
    rw [Nat.eq_of_beq_eq_true g2.1, Nat.eq_of_beq_eq_true g2.2]
theorem gq_rn_A (q : gq_nx p X AL = true) : ∀ a ∈ AL, gq_rn r c p X AL E' a.1 = ai_vx r a.2 := fun x hx => by
  unfold gq_nx at q
  rw [Bool.and_eq_true] at q
  have g := List.all_eq_true.mp q.2 x hx
  simp only [Bool.and_eq_true, Bool.not_eq_true'] at g
  obtain ⟨g1, g2, g3⟩ := g
  unfold gq_rn
  rw [g1, Option.isNone_iff_eq_none.mp g2]
  cases e : gq_fa AL x.1 with
  | none =>
    rw [e] at g3
    cases g3
  | some y =>
    rw [e] at g3
    have g3 : cx_q y.2 x.2 = true := g3
    show ai_vx r y.2 = _
    rw [cx_q_ok g3]
theorem gq_n1_ok (hE : ai_gE r E) (K : gq_K tyc ws r ad E.1 h c P) {b : Int × Int} (hb : fz_look E'.2.1 t = b) (q : gq_n1 E h P p X AL t b = true) : b.1 ≤ gq_rn r c p X AL E' t ∧ gq_rn r c p X AL E' t ≤ b.2 ∧ ai_lo64 ≤ gq_rn r c p X AL E' t ∧ gq_rn r c p X AL E' t ≤ ai_hi64 := by
  unfold gq_n1 at q
  unfold gq_rn
  cases e1 : p t with
  | true =>
    rw [e1] at q
    have w := cx_bd_ok hE (show cx_bd E (t, 0) b = true from q)
    have z : ai_vx r (t, 0) = r t := Int.add_zero _
    rw [z] at w
    exact w.2
  | false =>
    rw [e1] at q
    cases e2 : gq_fx X t with
    | some x =>
      rw [e2] at q
      have q : (match ai_cell h x.2.1 with
        | some (.inr (.inl (_, m, lo, hi, l))) => ((Nat.ble 16 x.2.1 && Nat.blt x.2.1 336) && P x.2.1) && (Nat.blt x.2.2 m && (gq_bd E lo hi b.1 b.2 l && (ai_le ai_lo64 b.1 && ai_le b.2 ai_hi64)))
        | _ => false) = true := q
      split at q
      · rename_i _ m lo hi l ec
        simp only [Bool.and_eq_true] at q
        obtain ⟨⟨⟨q1, q2⟩, q3⟩, q4, q5, q6, q7⟩ := q
        obtain ⟨-, ga⟩ := K x.2.1 (Nat.le_of_ble_eq_true q1) (Nat.le_of_ble_eq_true q2) q3 _ ec
        obtain ⟨-, a, -⟩ := ga _ _ _ _ _ rfl
        have w := gq_bd_ok hE q5 (a x.2.2 (Nat.le_of_ble_eq_true q4))
        show b.1 ≤ c x.2.1 x.2.2 ∧ c x.2.1 x.2.2 ≤ b.2 ∧ ai_lo64 ≤ c x.2.1 x.2.2 ∧ c x.2.1 x.2.2 ≤ ai_hi64
        exact ⟨w.1, w.2, Int.le_trans (ai_le_iff.mp q6) w.1, Int.le_trans w.2 (ai_le_iff.mp q7)⟩
      · cases q
    | none =>
      rw [e2] at q
      cases e3 : gq_fa AL t with
      | some x =>
        rw [e3] at q
        exact (cx_bd_ok hE (show cx_bd E x.2 b = true from q)).2
      | none =>
        rw [e3] at q
        have q : ((ai_le b.1 (gq_dv b) && ai_le (gq_dv b) b.2) && (ai_le ai_lo64 (gq_dv b) && ai_le (gq_dv b) ai_hi64)) = true := q
        simp only [Bool.and_eq_true] at q
        obtain ⟨⟨q1, q2⟩, q3, q4⟩ := q
        show b.1 ≤ gq_dv (fz_look E'.2.1 t) ∧ gq_dv (fz_look E'.2.1 t) ≤ b.2 ∧ ai_lo64 ≤ gq_dv (fz_look E'.2.1 t) ∧ gq_dv (fz_look E'.2.1 t) ≤ ai_hi64
        rw [hb]
        exact ⟨ai_le_iff.mp q1, ai_le_iff.mp q2, ai_le_iff.mp q3, ai_le_iff.mp q4⟩
theorem gq_rn_E (hE : ai_gE r E) (K : gq_K tyc ws r ad E.1 h c P) (q : gq_nk E h P p X AL E' = true) : ai_gE (gq_rn r c p X AL E') E' := by
  unfold gq_nk at q
  simp only [Bool.and_eq_true] at q
  obtain ⟨⟨⟨q0, qN⟩, qu⟩, q⟩ := q
  have key : ∀ t, t < E'.1 → _ := fun t ht => gq_n1_ok (t := t) hE K rfl (List.all_eq_true.mp q t (List.mem_range.mpr ht))
  unfold pt_un at qu
  rw [Bool.and_eq_true] at qu
  obtain ⟨qu, qd⟩ := qu
  refine ⟨(gq_rn_p q0).trans hE.1, Nat.le_of_ble_eq_true qN, fun t ht => (key t ht).2.2, fun z hz => ?_, fun z hz => ?_⟩
  · have g := List.all_eq_true.mp qu z hz
    cases e : fz_look E'.2.1 z.1 with
    | mk a b =>
      rw [e] at g
      simp only [Bool.and_eq_true] at g
      obtain ⟨g1, g2, g3⟩ := g
      have k := key z.1 (Nat.le_of_ble_eq_true g3)
      rw [e] at k
      rw [← ai_eq_iff.mp g1, ← ai_eq_iff.mp g2]
      exact ⟨Nat.le_of_ble_eq_true g3, k.1, k.2.1⟩
  · rw [List.isEmpty_iff.mp qd] at hz
    cases hz
end GLI
