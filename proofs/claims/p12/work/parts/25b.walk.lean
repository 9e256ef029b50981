/-! THE WALK OF TREES OF CELLS, laid out for the kernel -/
noncomputable def xt_mx (base : Nat) (E : ai_E) (B : List (Nat × Int × Int)) (y : ai_Y) (x w : ai_X) : Option ai_Y := Bool.rec (motive := fun _ => Option ai_Y) (Bool.rec (motive := fun _ => Option ai_Y) none (Option.rec (motive := fun _ => Option ai_Y)
    (Prod.rec (motive := fun _ => Option ai_Y) (fun a b => Prod.rec (motive := fun _ => Option ai_Y) (fun c d => Bool.rec (motive := fun _ => Option ai_Y) none (Bool.rec (motive := fun _ => Option ai_Y) none (Bool.rec (motive := fun _ => Option ai_Y) none (Bool.rec (motive := fun _ => Option ai_Y) none (Bool.rec (motive := fun _ => Option ai_Y) none (some ((w.1, x) :: y)) (Nat.blt x.1 E.1)) (ai_le b ai_hi64)) (ai_le ai_lo64 a)) (ai_le b d)) (ai_le c a)) (ai_look B w.1)) (ai_iv E x))
    (fun z => Bool.rec (motive := fun _ => Option ai_Y) none (some y) (ai_xeq x z)) (ai_ylook y w.1)) (ai_eq w.2 0)) (Bool.rec (motive := fun _ => Option ai_Y) none (some y) (ai_xeq x w)) (Nat.blt w.1 base)
theorem xt_mx_eq {base : Nat} {E : ai_E} {B : List (Nat × Int × Int)} {y : ai_Y} {x w : ai_X} : xt_mx base E B y x w = ai_mx base E B y x w := by
  unfold xt_mx ai_mx
  cases Nat.blt w.1 base with
  | true => cases ai_xeq x w <;> rfl
  | false => cases ai_eq w.2 0 with
    | false => rfl
    | true => cases ai_ylook y w.1 with
      | some z =>
        show Bool.rec (motive := fun _ => Option ai_Y) none (some y) (ai_xeq x z) = (match ai_xeq x z with | true => some y | false => none)
        cases ai_xeq x z <;> rfl
      | none => cases ai_iv E x with
        | mk a b => cases ai_look B w.1 with
          | mk c d =>
            dsimp only
            cases ai_le c a <;> cases ai_le b d <;> cases ai_le ai_lo64 a <;> cases ai_le b ai_hi64 <;> cases Nat.blt x.1 E.1 <;> rfl
noncomputable def xt_mv (base : Nat) (E : ai_E) (B : List (Nat × Int × Int)) (y : ai_Y) (v w : ai_V) : Option ai_Y := Sum.rec (motive := fun _ => Option ai_Y)
  (fun u => Sum.rec (motive := fun _ => Option ai_Y) (fun x => xt_mx base E B y x u) (fun _ => none) v)
  (fun w' => Sum.rec (motive := fun _ => Option ai_Y)
    (fun u => Sum.rec (motive := fun _ => Option ai_Y) (fun _ => none) (fun v' => Sum.rec (motive := fun _ => Option ai_Y) (fun x => xt_mx base E B y x u) (fun _ => none) v') v)
    (fun o => Option.rec (motive := fun _ => Option ai_Y) (some y) (fun o' => Sum.rec (motive := fun _ => Option ai_Y) (fun _ => none) (fun v' => Sum.rec (motive := fun _ => Option ai_Y) (fun _ => none) (fun p => Option.rec (motive := fun _ => Option ai_Y) none (fun p' =>
      Option.rec (motive := fun _ => Option ai_Y) (Option.rec (motive := fun _ => Option ai_Y) (some y) (fun _ => none) p') (fun r => Option.rec (motive := fun _ => Option ai_Y) none (fun q => Bool.rec (motive := fun _ => Option ai_Y) none (some y) (Nat.beq q r)) p') o') p) v') v) o) w') w
theorem xt_mv_eq {base : Nat} {E : ai_E} {B : List (Nat × Int × Int)} {y : ai_Y} {v w : ai_V} : xt_mv base E B y v w = ai_mv base E B y v w := by
  rcases w with u | u | _ | _ | r
  · rcases v with x | x | _ | _ | q
    · exact xt_mx_eq
    all_goals rfl
  · rcases v with x | x | _ | _ | q
    · rfl
    · exact xt_mx_eq
    all_goals rfl
  · rfl
  · rcases v with x | x | _ | _ | q <;> rfl
  · rcases v with x | x | _ | _ | q
    · rfl
    · rfl
    · rfl
    · rfl
    · show Bool.rec (motive := fun _ => Option ai_Y) none (some y) (Nat.beq q r) = (match Nat.beq q r with | true => some y | false => none)
      cases Nat.beq q r <;> rfl
noncomputable def xt_mvs (base : Nat) (E : ai_E) (B : List (Nat × Int × Int)) (y : ai_Y) (l m : List ai_V) : Option ai_Y := List.rec (motive := fun _ => ai_Y → List ai_V → Option ai_Y) (fun y m => List.rec (motive := fun _ => Option ai_Y) (some y) (fun _ _ _ => none) m) (fun v _ ih y m => List.rec (motive := fun _ => Option ai_Y) none (fun w m' _ => Option.rec (motive := fun _ => Option ai_Y) none (fun y' => ih y' m') (xt_mv base E B y v w)) m) l y m
theorem xt_mvs_eq {base : Nat} {E : ai_E} {B : List (Nat × Int × Int)} : ∀ {l m : List ai_V} {y : ai_Y}, xt_mvs base E B y l m = ai_mvs base E B y l m
  | [], [], _ => rfl
  | [], _ :: _, _ => rfl
  | _ :: _, [], _ => rfl
  | v :: l, w :: m, y => by
    show Option.rec (motive := fun _ => Option ai_Y) none (fun y' => xt_mvs base E B y' l m) (xt_mv base E B y v w) = _
    unfold ai_mvs
    rw [xt_mv_eq]
    cases ai_mv base E B y v w with
    | none => rfl
    | some y' => exact xt_mvs_eq
noncomputable def xt_mos (base : Nat) (E : ai_E) (B : List (Nat × Int × Int)) (y : ai_Y) (l m : List (ai_X × ai_X)) : Option ai_Y := List.rec (motive := fun _ => ai_Y → List (ai_X × ai_X) → Option ai_Y) (fun y m => List.rec (motive := fun _ => Option ai_Y) (some y) (fun _ _ _ => none) m) (fun a _ ih y m => List.rec (motive := fun _ => Option ai_Y) none (fun b m' _ => Option.rec (motive := fun _ => Option ai_Y) none (fun y1 => Option.rec (motive := fun _ => Option ai_Y) none (fun y2 => ih y2 m') (xt_mx base E B y1 a.2 b.2)) (xt_mx base E B y a.1 b.1)) m) l y m
theorem xt_mos_eq {base : Nat} {E : ai_E} {B : List (Nat × Int × Int)} : ∀ {l m : List (ai_X × ai_X)} {y : ai_Y}, xt_mos base E B y l m = ai_mos base E B y l m
  | [], [], _ => rfl
  | [], _ :: _, _ => rfl
  | _ :: _, [], _ => rfl
  | (i, v) :: l, (j, w) :: m, y => by
    show Option.rec (motive := fun _ => Option ai_Y) none (fun y1 => Option.rec (motive := fun _ => Option ai_Y) none (fun y2 => xt_mos base E B y2 l m) (xt_mx base E B y1 v w)) (xt_mx base E B y i j) = _
    unfold ai_mos
    rw [xt_mx_eq]
    cases ai_mx base E B y i j with
    | none => rfl
    | some y1 =>
      show Option.rec (motive := fun _ => Option ai_Y) none (fun y2 => xt_mos base E B y2 l m) (xt_mx base E B y1 v w) = (match ai_mx base E B y1 v w with | some y => ai_mos base E B y l m | none => none)
      rw [xt_mx_eq]
      cases ai_mx base E B y1 v w with
      | none => rfl
      | some y2 => exact xt_mos_eq
noncomputable def xt_ma (base : Nat) (E : ai_E) (B : List (Nat × Int × Int)) (y : ai_Y) (a a' : Nat × Nat × ai_K) : Option ai_Y := Bool.rec (motive := fun _ => Option ai_Y) none (Bool.rec (motive := fun _ => Option ai_Y) none (Bool.rec (motive := fun _ => Option ai_Y) none (Bool.rec (motive := fun _ => Option ai_Y) none
  (List.rec (motive := fun _ => Option ai_Y) (Bool.rec (motive := fun _ => Option ai_Y) none (some y) (ai_within E a'.2.2.1 a'.2.2.2.1 a.2.2.2.2)) (fun _ _ _ => Option.rec (motive := fun _ => Option ai_Y) (match Nat.blt 0 base, ai_keeps E a.2.2.1 a.2.2.2.1 a.2.2.2.2 a'.2.2.2.2, ai_within E a'.2.2.1 a'.2.2.2.1 a.2.2.2.2 with
    | true, true, true => some y
    | _, _, _ => none) (fun y' => some y') (xt_mos base E B y a.2.2.2.2 a'.2.2.2.2)) a'.2.2.2.2)
  (ai_le a.2.2.2.1 a'.2.2.2.1)) (ai_le a'.2.2.1 a.2.2.1)) (Nat.beq a.2.1 a'.2.1)) (Nat.beq a.1 a'.1)
noncomputable def xt_mcc (base : Nat) (E : ai_E) (B : List (Nat × Int × Int)) (y : ai_Y) (ca cb : ai_C) : Option ai_Y := Sum.rec (motive := fun _ => Option ai_Y)
  (fun o => Sum.rec (motive := fun _ => Option ai_Y) (fun o' => Bool.rec (motive := fun _ => Option ai_Y) none (xt_mvs base E B y o.2 o'.2) (Nat.beq o.1 o'.1)) (fun _ => none) cb)
  (fun z => Sum.rec (motive := fun _ => Option ai_Y) (fun a => Sum.rec (motive := fun _ => Option ai_Y) (fun _ => none) (fun z' => Sum.rec (motive := fun _ => Option ai_Y) (fun a' => xt_ma base E B y a a') (fun _ => none) z') cb) (fun _ => ai_mc base E B y (some ca) (some cb)) z) ca
theorem xt_mcc_eq {base : Nat} {E : ai_E} {B : List (Nat × Int × Int)} {y : ai_Y} {ca cb : ai_C} : xt_mcc base E B y ca cb = ai_mc base E B y (some ca) (some cb) := by
  rcases ca with ⟨ci, fs⟩ | ⟨ty, n, lo, hi, l⟩ | ⟨ty, l⟩
  · rcases cb with ⟨cj, gs⟩ | ⟨tz, k, lo', hi', m⟩ | ⟨tz, m⟩
    · show Bool.rec (motive := fun _ => Option ai_Y) none (xt_mvs base E B y fs gs) (Nat.beq ci cj) = (match Nat.beq ci cj with | true => ai_mvs base E B y fs gs | false => none)
      rw [xt_mvs_eq]
      cases Nat.beq ci cj <;> rfl
    · rfl
    · rfl
  · rcases cb with ⟨cj, gs⟩ | ⟨tz, k, lo', hi', m⟩ | ⟨tz, m⟩
    · rfl
    · show xt_ma base E B y (ty, n, lo, hi, l) (tz, k, lo', hi', m) = _
      unfold xt_ma ai_mc
      dsimp only
      rw [xt_mos_eq]
      cases Nat.beq ty tz <;> cases Nat.beq n k <;> cases ai_le lo' lo <;> cases ai_le hi hi' <;> try rfl
      cases m with
      | nil =>
        dsimp only
        cases ai_within E lo' hi' l <;> rfl
      | cons b m =>
        dsimp only
        cases ai_mos base E B y l (b :: m) <;> rfl
    · rfl
  · rfl
/-- the walk of two trees of cells, laid out for the kernel -/
noncomputable def xt_mc (base : Nat) (E : ai_E) (B : List (Nat × Int × Int)) (y : ai_Y) (a b : Option ai_C) : Option ai_Y := Option.rec (motive := fun _ => Option ai_Y) (Option.rec (motive := fun _ => Option ai_Y) (some y) (fun _ => none) b) (fun ca => Option.rec (motive := fun _ => Option ai_Y) none (fun cb => xt_mcc base E B y ca cb) b) a
theorem xt_mc_eq {base : Nat} {E : ai_E} {B : List (Nat × Int × Int)} {y : ai_Y} {a b : Option ai_C} : xt_mc base E B y a b = ai_mc base E B y a b := by
  cases a with
  | none => cases b with
    | none => rfl
    | some c => rfl
  | some c => cases b with
    | none => rcases c with ⟨ci, fs⟩ | ⟨ty, k, lo, hi, l⟩ | ⟨ty, l⟩ <;> rfl
    | some d => exact xt_mcc_eq
noncomputable def xt_mt (base : Nat) (E : ai_E) (B : List (Nat × Int × Int)) (d : Nat) : ai_Y → ai_T (Option ai_C) d → ai_T (Option ai_C) d → Option ai_Y :=
  Nat.rec (motive := fun d => ai_Y → ai_T (Option ai_C) d → ai_T (Option ai_C) d → Option ai_Y) (fun y a b => xt_mc base E B y a b)
    (fun d ih y a b => Prod.rec (motive := fun _ => Option ai_Y) (fun (a1 a2 : ai_T (Option ai_C) d) => Prod.rec (motive := fun _ => Option ai_Y) (fun (b1 b2 : ai_T (Option ai_C) d) => Option.rec (motive := fun _ => Option ai_Y) none (fun y' => ih y' a2 b2) (ih y a1 b1)) (show ai_T (Option ai_C) d × ai_T (Option ai_C) d from b)) (show ai_T (Option ai_C) d × ai_T (Option ai_C) d from a)) d
theorem xt_mt_eq {base : Nat} {E : ai_E} {B : List (Nat × Int × Int)} : ∀ {d : Nat} {y : ai_Y} {a b : ai_T (Option ai_C) d}, xt_mt base E B d y a b = ai_mt base E B d y a b
  | 0, y, a, b => xt_mc_eq
  | d + 1, y, a, b => by
    show Option.rec (motive := fun _ => Option ai_Y) none (fun y' => xt_mt base E B d y' a.2 b.2) (xt_mt base E B d y a.1 b.1) = _
    unfold ai_mt
    rw [xt_mt_eq (d := d)]
    cases ai_mt base E B d y a.1 b.1 with
    | none => rfl
    | some y' => exact xt_mt_eq (d := d)
noncomputable def xt_in (base : Nat) (L S : List ai_V) (G : ai_G) (L' S' : List ai_V) (G' : ai_G) : Option ai_Y := match G, G' with
  | (E, (n, t), c, s), (E', (n', t'), c', s') => match Nat.beq n n', Nat.beq c c', Nat.beq s s' with
    | true, true, true => match xt_mvs base E E'.2.1 [] L L' with
      | none => none
      | some y => match xt_mvs base E E'.2.1 y S S' with
        | none => none
        | some y => xt_mt base E E'.2.1 9 y t t'
    | _, _, _ => none
theorem xt_in_eq {base : Nat} {L S L' S' : List ai_V} {G G' : ai_G} : xt_in base L S G L' S' G' = ai_in base L S G L' S' G' := by
  unfold xt_in ai_in
  simp only [xt_mt_eq, xt_mvs_eq]
  rfl
noncomputable def xt_again (act : List ai_P) (pc : Nat) (L S : List ai_V) (G : ai_G) : Bool := match ai_act act pc with
  | none => false
  | some (_, base, t, up, L', S', G') => match xt_in base L S G L' S' G' with
    | some y => ai_near up t y
    | none => false
theorem xt_again_eq {act : List ai_P} {pc : Nat} {L S : List ai_V} {G : ai_G} : xt_again act pc L S G = ai_again act pc L S G := by
  unfold xt_again ai_again
  simp only [xt_in_eq]
  rfl
noncomputable def xt_tall {α : Type} (p : α → Bool) (d : Nat) : ai_T α d → Bool :=
  Nat.rec (motive := fun d => ai_T α d → Bool) (fun t => p t) (fun d ih t => Prod.rec (motive := fun _ => Bool) (fun (a b : ai_T α d) => Bool.rec (motive := fun _ => Bool) false (ih b) (ih a)) (show ai_T α d × ai_T α d from t)) d
theorem xt_tall_eq {α : Type} {p : α → Bool} : ∀ {d : Nat} {t : ai_T α d}, xt_tall p d t = ai_tall p d t
  | 0, t => rfl
  | d + 1, t => by
    show Bool.rec (motive := fun _ => Bool) false (xt_tall p d t.2) (xt_tall p d t.1) = _
    unfold ai_tall
    rw [xt_tall_eq (d := d), xt_tall_eq (d := d)]
    cases ai_tall p d t.1 <;> rfl
