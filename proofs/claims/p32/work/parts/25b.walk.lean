/-! THE WALK OF TREES OF CELLS, laid out for the kernel -/
/-- the walk of two trees of cells, laid out for the kernel -/
noncomputable def xt_mc (base : Nat) (E : ai_E) (B : List (Nat × Int × Int)) (y : ai_Y) (a b : Option ai_C) : Option ai_Y := Option.rec (motive := fun _ => Option ai_Y) (Option.rec (motive := fun _ => Option ai_Y) (some y) (fun _ => none) b) (fun ca => Option.rec (motive := fun _ => Option ai_Y) none (fun cb => ai_mc base E B y (some ca) (some cb)) b) a
theorem xt_mc_eq {base : Nat} {E : ai_E} {B : List (Nat × Int × Int)} {y : ai_Y} {a b : Option ai_C} : xt_mc base E B y a b = ai_mc base E B y a b := by
  cases a with
  | none => cases b with
    | none => rfl
    | some c => rfl
  | some c => cases b with
    | none => rcases c with ⟨ci, fs⟩ | ⟨ty, k, lo, hi, l⟩ | ⟨ty, l⟩ <;> rfl
    | some d => rfl
noncomputable def xt_mt (base : Nat) (E : ai_E) (B : List (Nat × Int × Int)) (d : Nat) : ai_Y → ai_T (Option ai_C) d → ai_T (Option ai_C) d → Option ai_Y :=
  Nat.rec (motive := fun d => ai_Y → ai_T (Option ai_C) d → ai_T (Option ai_C) d → Option ai_Y) (fun y a b => xt_mc base E B y a b)
    (fun d ih y a b => Prod.rec (motive := fun _ => Option ai_Y) (fun (a1 a2 : ai_T (Option ai_C) d) => Prod.rec (motive := fun _ => Option ai_Y) (fun (b1 b2 : ai_T (Option ai_C) d) => Option.rec (motive := fun _ => Option ai_Y) none (fun y' => ih y' a2 b2) (ih y a1 b1)) (show ai_T (Option ai_C) d × ai_T (Option ai_C) d from b)) (show ai_T (Option ai_C) d × ai_T (Option ai_C) d from a)) d
theorem xt_mt_eq {base : Nat} {E : ai_E} {B : List (Nat × Int × Int)} : ∀ {d : Nat} {y : ai_Y} {a b : ai_T (Option ai_C) d}, xt_mt base E B d y a b = ai_mt base E B d y a b
  | 0, y, a, b => xt_mc_eq
  | d + 1, y, a, b => by
    show Option.rec (motive := fun _ => Option ai_Y) none (fun y' => xt_mt base E B d y' a.2 b.2) (xt_mt base E B d y a.1 b.1) = _
    unfold ai_mt
    rw [xt_mt_eq (d := d)]
    cases ai_mt base E B d y a.1 b.1 with
    | none => rfl
    | some y' => exact xt_mt_eq (d := d)
noncomputable def xt_in (base : Nat) (L S : List ai_V) (G : ai_G) (L' S' : List ai_V) (G' : ai_G) : Option ai_Y := match G, G' with
  | (E, (n, t), c, s), (E', (n', t'), c', s') => match Nat.beq n n', Nat.beq c c', Nat.beq s s' with
    | true, true, true => match ai_mvs base E E'.2.1 [] L L' with
      | none => none
      | some y => match ai_mvs base E E'.2.1 y S S' with
        | none => none
        | some y => xt_mt base E E'.2.1 9 y t t'
    | _, _, _ => none
theorem xt_in_eq {base : Nat} {L S L' S' : List ai_V} {G G' : ai_G} : xt_in base L S G L' S' G' = ai_in base L S G L' S' G' := by
  unfold xt_in ai_in
  simp only [xt_mt_eq]
  rfl
noncomputable def xt_again (act : List ai_P) (pc : Nat) (L S : List ai_V) (G : ai_G) : Bool := match ai_act act pc with
  | none => false
  | some (_, base, t, up, L', S', G') => match xt_in base L S G L' S' G' with
    | some y => ai_near up t y
    | none => false
theorem xt_again_eq {act : List ai_P} {pc : Nat} {L S : List ai_V} {G : ai_G} : xt_again act pc L S G = ai_again act pc L S G := by
  unfold xt_again ai_again
  simp only [xt_in_eq]
  rfl
noncomputable def xt_tall {α : Type} (p : α → Bool) (d : Nat) : ai_T α d → Bool :=
  Nat.rec (motive := fun d => ai_T α d → Bool) (fun t => p t) (fun d ih t => Prod.rec (motive := fun _ => Bool) (fun (a b : ai_T α d) => Bool.rec (motive := fun _ => Bool) false (ih b) (ih a)) (show ai_T α d × ai_T α d from t)) d
theorem xt_tall_eq {α : Type} {p : α → Bool} : ∀ {d : Nat} {t : ai_T α d}, xt_tall p d t = ai_tall p d t
  | 0, t => rfl
  | d + 1, t => by
    show Bool.rec (motive := fun _ => Bool) false (xt_tall p d t.2) (xt_tall p d t.1) = _
    unfold ai_tall
    rw [xt_tall_eq (d := d), xt_tall_eq (d := d)]
    cases ai_tall p d t.1 <;> rfl
