/-! A STATE WITHIN A WIDER ONE, laid out for the kernel once more: look-ups by recursors -/
noncomputable def fz_mx (base : Nat) (E : ai_E) (B : List (Nat × Int × Int)) (y : ai_Y) (x w : ai_X) : Option ai_Y := Bool.rec (motive := fun _ => Option ai_Y)
  (Bool.rec (motive := fun _ => Option ai_Y) none
    (Option.rec (motive := fun _ => Option ai_Y)
      (Prod.rec (motive := fun _ => Option ai_Y) (fun a b => Prod.rec (motive := fun _ => Option ai_Y) (fun c d => Bool.rec (motive := fun _ => Option ai_Y) none (some ((w.1, x) :: y)) (ai_le c a && (ai_le b d && (ai_le ai_lo64 a && (ai_le b ai_hi64 && Nat.blt x.1 E.1))))) (fz_look B w.1)) (fz_iv E x))
      (fun z => Bool.rec (motive := fun _ => Option ai_Y) none (some y) (ai_xeq x z)) (fz_ylook y w.1)) (ai_eq w.2 0))
  (Bool.rec (motive := fun _ => Option ai_Y) none (some y) (ai_xeq x w)) (Nat.blt w.1 base)
theorem fz_mx_eq {base : Nat} {E : ai_E} {B : List (Nat × Int × Int)} {y : ai_Y} {x w : ai_X} : fz_mx base E B y x w = ai_mx base E B y x w := by
  unfold fz_mx ai_mx
  rw [fz_look_eq, fz_iv_eq, fz_ylook_eq]
  cases Nat.blt w.1 base with
  | true => cases ai_xeq x w <;> rfl
  | false => cases ai_eq w.2 0 with
    | false => rfl
    | true => cases ai_ylook y w.1 with
      | some z =>
        show Bool.rec (motive := fun _ => Option ai_Y) none (some y) (ai_xeq x z) = (match ai_xeq x z with | true => some y | false => none)
        cases ai_xeq x z <;> rfl
      | none =>
        obtain ⟨a, b⟩ := ai_iv E x
        obtain ⟨c, d⟩ := ai_look B w.1
        dsimp only
        cases ai_le c a <;> cases ai_le b d <;> cases ai_le ai_lo64 a <;> cases ai_le b ai_hi64 <;> cases Nat.blt x.1 E.1 <;> rfl
noncomputable def fz_mv (base : Nat) (E : ai_E) (B : List (Nat × Int × Int)) (y : ai_Y) (v w : ai_V) : Option ai_Y := Sum.rec (motive := fun _ => Option ai_Y)
  (fun u => Sum.rec (motive := fun _ => Option ai_Y) (fun x => fz_mx base E B y x u) (fun _ => none) v)
  (fun w' => ai_mv base E B y v (.inr w')) w
theorem fz_mv_eq {base : Nat} {E : ai_E} {B : List (Nat × Int × Int)} {y : ai_Y} {v w : ai_V} : fz_mv base E B y v w = ai_mv base E B y v w := by
  cases w with
  | inl u =>
    cases v with
    | inl x => exact fz_mx_eq
    | inr _ => rfl
  | inr _ => rfl
noncomputable def fz_mvs (base : Nat) (E : ai_E) (B : List (Nat × Int × Int)) (y : ai_Y) (l m : List ai_V) : Option ai_Y :=
  List.rec (motive := fun _ => ai_Y → List ai_V → Option ai_Y) (fun y m => List.rec (motive := fun _ => Option ai_Y) (some y) (fun _ _ _ => none) m) (fun v _ ih y m => List.rec (motive := fun _ => Option ai_Y) none (fun w m' _ => Option.rec (motive := fun _ => Option ai_Y) none (fun y' => ih y' m') (fz_mv base E B y v w)) m) l y m
theorem fz_mvs_eq {base : Nat} {E : ai_E} {B : List (Nat × Int × Int)} : ∀ {l m : List ai_V} {y : ai_Y}, fz_mvs base E B y l m = ai_mvs base E B y l m
  | [], [], _ => rfl
  | [], _ :: _, _ => rfl
  | _ :: _, [], _ => rfl
  | v :: l, w :: m, y => by
    show Option.rec (motive := fun _ => Option ai_Y) none (fun y' => fz_mvs base E B y' l m) (fz_mv base E B y v w) = _
    rw [fz_mv_eq]
    unfold ai_mvs
    cases ai_mv base E B y v w with
    | none => rfl
    | some y' => exact fz_mvs_eq
noncomputable def fz_mc (base : Nat) (E : ai_E) (B : List (Nat × Int × Int)) (y : ai_Y) (ca cb : ai_C) : Option ai_Y := Sum.rec (motive := fun _ => Option ai_Y)
  (fun a => Sum.rec (motive := fun _ => Option ai_Y) (fun b => Bool.rec (motive := fun _ => Option ai_Y) none (fz_mvs base E B y a.2 b.2) (Nat.beq a.1 b.1)) (fun _ => none) cb)
  (fun a => ai_mc base E B y (some (.inr a)) (some cb)) ca
theorem fz_mc_eq {base : Nat} {E : ai_E} {B : List (Nat × Int × Int)} {y : ai_Y} {ca cb : ai_C} : fz_mc base E B y ca cb = ai_mc base E B y (some ca) (some cb) := by
  rcases ca with ⟨ci, fs⟩ | a
  · rcases cb with ⟨cj, gs⟩ | b
    · show Bool.rec (motive := fun _ => Option ai_Y) none (fz_mvs base E B y fs gs) (Nat.beq ci cj) = _
      rw [fz_mvs_eq]
      show _ = (match Nat.beq ci cj with | true => ai_mvs base E B y fs gs | false => none)
      cases Nat.beq ci cj <;> rfl
    · rcases b with ⟨tz, k, lo', hi', m⟩ | ⟨tz, m⟩ <;> rfl
  · rfl
noncomputable def fz_mo (base : Nat) (E : ai_E) (B : List (Nat × Int × Int)) (y : ai_Y) (a b : Option ai_C) : Option ai_Y := Option.rec (motive := fun _ => Option ai_Y) (Option.rec (motive := fun _ => Option ai_Y) (some y) (fun _ => none) b) (fun ca => Option.rec (motive := fun _ => Option ai_Y) none (fun cb => fz_mc base E B y ca cb) b) a
theorem fz_mo_eq {base : Nat} {E : ai_E} {B : List (Nat × Int × Int)} {y : ai_Y} {a b : Option ai_C} : fz_mo base E B y a b = xt_mc base E B y a b := by
  cases a with
  | none => rfl
  | some ca => cases b with
    | none => rfl
    | some cb => exact fz_mc_eq.trans xt_mcc_eq.symm
noncomputable def fz_mt (base : Nat) (E : ai_E) (B : List (Nat × Int × Int)) (d : Nat) : ai_Y → ai_T (Option ai_C) d → ai_T (Option ai_C) d → Option ai_Y :=
  Nat.rec (motive := fun d => ai_Y → ai_T (Option ai_C) d → ai_T (Option ai_C) d → Option ai_Y) (fun y a b => fz_mo base E B y a b)
    (fun d ih y a b => Prod.rec (motive := fun _ => Option ai_Y) (fun (a1 a2 : ai_T (Option ai_C) d) => Prod.rec (motive := fun _ => Option ai_Y) (fun (b1 b2 : ai_T (Option ai_C) d) => Option.rec (motive := fun _ => Option ai_Y) none (fun y' => ih y' a2 b2) (ih y a1 b1)) (show ai_T (Option ai_C) d × ai_T (Option ai_C) d from b)) (show ai_T (Option ai_C) d × ai_T (Option ai_C) d from a)) d
theorem fz_mt_eq {base : Nat} {E : ai_E} {B : List (Nat × Int × Int)} : ∀ {d : Nat} {y : ai_Y} {a b : ai_T (Option ai_C) d}, fz_mt base E B d y a b = ai_mt base E B d y a b
  | 0, y, a, b => (fz_mo_eq (a := a) (b := b)).trans xt_mc_eq
  | d + 1, y, a, b => by
    show Option.rec (motive := fun _ => Option ai_Y) none (fun y' => fz_mt base E B d y' a.2 b.2) (fz_mt base E B d y a.1 b.1) = _
    unfold ai_mt
    rw [fz_mt_eq (d := d)]
    cases ai_mt base E B d y a.1 b.1 with
    | none => rfl
    | some y' => exact fz_mt_eq (d := d)
noncomputable def fz_in (base : Nat) (L S : List ai_V) (G : ai_G) (L' S' : List ai_V) (G' : ai_G) : Option ai_Y := match G, G' with
  | (E, (n, t), c, s), (E', (n', t'), c', s') => match Nat.beq n n', Nat.beq c c', Nat.beq s s' with
    | true, true, true => match fz_mvs base E E'.2.1 [] L L' with
      | none => none
      | some y => match fz_mvs base E E'.2.1 y S S' with
        | none => none
        | some y => fz_mt base E E'.2.1 9 y t t'
    | _, _, _ => none
theorem fz_in_eq {base : Nat} {L S L' S' : List ai_V} {G G' : ai_G} : fz_in base L S G L' S' G' = ai_in base L S G L' S' G' := by
  unfold fz_in ai_in
  simp only [fz_mt_eq, fz_mvs_eq]
  rfl
noncomputable def fz_cov (y : ai_Y) (t n : Nat) : Bool := Nat.rec (motive := fun _ => Nat → Bool) (fun _ => true) (fun _ ih t => Option.rec (motive := fun _ => Bool) false (fun _ => ih (Nat.succ t)) (fz_ylook y t)) n t
theorem fz_cov_eq {y : ai_Y} : ∀ {n t : Nat}, fz_cov y t n = ai_cov y t n
  | 0, _ => rfl
  | n + 1, t => by
    show Option.rec (motive := fun _ => Bool) false (fun _ => fz_cov y (t + 1) n) (fz_ylook y t) = _
    rw [fz_ylook_eq]
    unfold ai_cov
    cases ai_ylook y t with
    | none => rfl
    | some x => exact fz_cov_eq
