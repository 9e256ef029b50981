/-! LOOK-UPS BY RECURSORS -/
noncomputable def fz_look (l : List (Nat × Int × Int)) (t : Nat) : Int × Int := List.rec (motive := fun _ => Int × Int) (ai_lo64, ai_hi64) (fun q _ ih => Prod.rec (motive := fun _ => Int × Int) (fun u b => Bool.rec (motive := fun _ => Int × Int) ih b (Nat.beq u t)) q) l
theorem fz_look_eq {t : Nat} : ∀ {l : List (Nat × Int × Int)}, fz_look l t = ai_look l t
  | [] => rfl
  | (u, lo, hi) :: l => by
    show Bool.rec (motive := fun _ => Int × Int) (fz_look l t) (lo, hi) (Nat.beq u t) = _
    rw [ai_look_c]
    cases Nat.beq u t with
    | true => rfl
    | false => exact fz_look_eq
noncomputable def fz_ylook (y : ai_Y) (u : Nat) : Option ai_X := List.rec (motive := fun _ => Option ai_X) none (fun q _ ih => Prod.rec (motive := fun _ => Option ai_X) (fun t x => Bool.rec (motive := fun _ => Option ai_X) ih (some x) (Nat.beq t u)) q) y
theorem fz_ylook_eq {u : Nat} : ∀ {y : ai_Y}, fz_ylook y u = ai_ylook y u
  | [] => rfl
  | (t, x) :: y => by
    show Bool.rec (motive := fun _ => Option ai_X) (fz_ylook y u) (some x) (Nat.beq t u) = _
    rw [ai_ylook_c]
    cases Nat.beq t u with
    | true => rfl
    | false => exact fz_ylook_eq
noncomputable def fz_iv (E : ai_E) (x : ai_X) : Int × Int := Prod.rec (motive := fun _ => Int × Int) (fun t c => Bool.rec (motive := fun _ => Int × Int) (Prod.rec (motive := fun _ => Int × Int) (fun lo hi => (lo + c, hi + c)) (fz_look E.2.1 t)) (c, c) (Nat.beq t 0)) x
theorem fz_iv_eq {E : ai_E} {x : ai_X} : fz_iv E x = ai_iv E x := by
  obtain ⟨t, c⟩ := x
  cases t with
  | zero => rfl
  | succ t =>
    show Prod.rec (motive := fun _ => Int × Int) (fun lo hi => (lo + c, hi + c)) (fz_look E.2.1 (t + 1)) = _
    rw [fz_look_eq]
    rfl
