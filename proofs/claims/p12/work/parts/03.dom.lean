/-! THE DOMAIN: an interpreter of the claim's bytecode over symbolic ints with bounds. A value of ints is a symbol and an offset (symbol 0 is 0); cells are numbered. -/
noncomputable def ai_T (α : Type) : Nat → Type
  | 0 => α
  | d + 1 => ai_T α d × ai_T α d
noncomputable def ai_nd {α : Type} (d : Nat) (a b : ai_T α d) : ai_T α (d + 1) := (a, b)
noncomputable def ai_tnew {α : Type} (v : α) : (d : Nat) → ai_T α d
  | 0 => v
  | d + 1 => (ai_tnew v d, ai_tnew v d)
noncomputable def ai_tget {α : Type} (d : Nat) : ai_T α d → Nat → α :=
  Nat.rec (motive := fun d => ai_T α d → Nat → α) (fun t _ => t) (fun d ih t k => Prod.rec (motive := fun _ => α) (fun (a b : ai_T α d) => Nat.rec (motive := fun _ => α) (ih a (Nat.div k 2)) (fun _ _ => ih b (Nat.div k 2)) (Nat.mod k 2)) (show ai_T α d × ai_T α d from t)) d
theorem ai_tget_z {α : Type} {t : ai_T α 0} {k : Nat} : ai_tget 0 t k = t := rfl
theorem ai_tget_c {α : Type} {d : Nat} {t : ai_T α (d + 1)} {k : Nat} : ai_tget (d + 1) t k = (match Nat.mod k 2 with
    | 0 => ai_tget d t.1 (Nat.div k 2)
    | _ + 1 => ai_tget d t.2 (Nat.div k 2)) := by
  show Nat.rec (motive := fun _ => α) (ai_tget d t.1 (Nat.div k 2)) (fun _ _ => ai_tget d t.2 (Nat.div k 2)) (Nat.mod k 2) = _
  cases Nat.mod k 2 <;> rfl
noncomputable def ai_tset {α : Type} (d : Nat) : ai_T α d → Nat → α → ai_T α d :=
  Nat.rec (motive := fun d => ai_T α d → Nat → α → ai_T α d) (fun _ _ v => v) (fun d ih t k v => Prod.rec (motive := fun _ => ai_T α (d + 1)) (fun (a b : ai_T α d) => Nat.rec (motive := fun _ => ai_T α d × ai_T α d) (ih a (Nat.div k 2) v, b) (fun _ _ => (a, ih b (Nat.div k 2) v)) (Nat.mod k 2)) (show ai_T α d × ai_T α d from t)) d
theorem ai_tset_z {α : Type} {t : ai_T α 0} {k : Nat} {v : α} : ai_tset 0 t k v = v := rfl
theorem ai_tset_c {α : Type} {d : Nat} {a b : ai_T α d} {k : Nat} {v : α} : ai_tset (d + 1) (a, b) k v = (match Nat.mod k 2 with
    | 0 => (ai_tset d a (Nat.div k 2) v, b)
    | _ + 1 => (a, ai_tset d b (Nat.div k 2) v)) := by
  show Nat.rec (motive := fun _ => ai_T α d × ai_T α d) (ai_tset d a (Nat.div k 2) v, b) (fun _ _ => (a, ai_tset d b (Nat.div k 2) v)) (Nat.mod k 2) = _
  cases Nat.mod k 2 <;> rfl
theorem ai_tget_e {α : Type} {d : Nat} {t : ai_T α (d + 1)} {k : Nat} (h : k % 2 = 0) : ai_tget (d + 1) t k = ai_tget d t.1 (k / 2) := by
  rw [ai_tget_c, show Nat.mod k 2 = 0 from h]
  rfl
theorem ai_tget_o {α : Type} {d : Nat} {t : ai_T α (d + 1)} {k : Nat} (h : k % 2 = 1) : ai_tget (d + 1) t k = ai_tget d t.2 (k / 2) := by
  rw [ai_tget_c, show Nat.mod k 2 = 1 from h]
  rfl
theorem ai_tset_e {α : Type} {d : Nat} {t : ai_T α (d + 1)} {k : Nat} {v : α} (h : k % 2 = 0) : (ai_tset (d + 1) t k v).1 = ai_tset d t.1 (k / 2) v ∧ (ai_tset (d + 1) t k v).2 = t.2 := by
  obtain ⟨a, b⟩ := t
  have e : ai_tset (d + 1) (a, b) k v = _ := ai_tset_c
  have m : Nat.mod k 2 = 0 := h
  rw [m] at e
  rw [e]
  exact ⟨rfl, rfl⟩
theorem ai_tset_o {α : Type} {d : Nat} {t : ai_T α (d + 1)} {k : Nat} {v : α} (h : k % 2 = 1) : (ai_tset (d + 1) t k v).1 = t.1 ∧ (ai_tset (d + 1) t k v).2 = ai_tset d t.2 (k / 2) v := by
  obtain ⟨a, b⟩ := t
  have e : ai_tset (d + 1) (a, b) k v = _ := ai_tset_c
  have m : Nat.mod k 2 = 1 := h
  rw [m] at e
  rw [e]
  exact ⟨rfl, rfl⟩
noncomputable def ai_tall {α : Type} (p : α → Bool) : (d : Nat) → ai_T α d → Bool
  | 0, t => p t
  | d + 1, t => match ai_tall p d t.1 with
    | true => ai_tall p d t.2
    | false => false
abbrev ai_X : Type := Nat × Int
abbrev ai_V : Type := ai_X ⊕ (ai_X ⊕ Option (Option Nat))
abbrev ai_K : Type := Int × Int × List (ai_X × ai_X)
abbrev ai_C : Type := (Nat × List ai_V) ⊕ ((Nat × Nat × ai_K) ⊕ (Nat × List (Option Nat)))
abbrev ai_D : Type := Nat × Nat × ai_X × ai_X
abbrev ai_E : Type := Nat × List (Nat × Int × Int) × List ai_D
abbrev ai_H : Type := Nat × ai_T (Option ai_C) 9
abbrev ai_G : Type := ai_E × ai_H × Nat × Nat
abbrev ai_I : Type := Nat × ClassFile.Instr × Nat × Nat × Nat
abbrev ai_R : Type := Nat ⊕ Option ai_V
/-- whole numbers, by their signs -/
noncomputable def ai_le (a b : Int) : Bool := match b - a with
  | .ofNat _ => true
  | .negSucc _ => false
noncomputable def ai_eq : Int → Int → Bool
  | .ofNat a, .ofNat b => Nat.beq a b
  | .negSucc a, .negSucc b => Nat.beq a b
  | _, _ => false
noncomputable def ai_min (a b : Int) : Int := match ai_le a b with
  | true => a
  | false => b
noncomputable def ai_max (a b : Int) : Int := match ai_le a b with
  | true => b
  | false => a
noncomputable def ai_xeq : ai_X → ai_X → Bool
  | (t, c), (u, d) => match Nat.beq t u with
    | true => ai_eq c d
    | false => false
noncomputable def ai_lo32 : Int := -2147483648
noncomputable def ai_hi32 : Int := 2147483647
noncomputable def ai_lo64 : Int := -9223372036854775808
noncomputable def ai_hi64 : Int := 9223372036854775807
/-- the bounds of a symbol -/
noncomputable def ai_look (l : List (Nat × Int × Int)) (t : Nat) : Int × Int := List.rec (motive := fun _ => Int × Int) (ai_lo64, ai_hi64) (fun q _ ih => Prod.rec (motive := fun _ => Int × Int) (fun u b => Bool.rec (motive := fun _ => Int × Int) ih b (Nat.beq u t)) q) l
theorem ai_look_c {u t : Nat} {lo hi : Int} {l : List (Nat × Int × Int)} : ai_look ((u, lo, hi) :: l) t = (match Nat.beq u t with
    | true => (lo, hi)
    | false => ai_look l t) := by
  show Bool.rec (motive := fun _ => Int × Int) (ai_look l t) (lo, hi) (Nat.beq u t) = _
  cases Nat.beq u t <;> rfl
noncomputable def ai_iv (E : ai_E) (x : ai_X) : Int × Int := Prod.rec (motive := fun _ => Int × Int) (fun t c => Bool.rec (motive := fun _ => Int × Int) (Prod.rec (motive := fun _ => Int × Int) (fun lo hi => (lo + c, hi + c)) (ai_look E.2.1 t)) (c, c) (Nat.beq t 0)) x
noncomputable def ai_abs (a : Int) : Int := match a with
  | .ofNat n => .ofNat n
  | .negSucc n => .ofNat (n + 1)
/-- what an instruction does, on whole numbers: 0 +, 1 -, 2 *, 3 /, 4 %, 5 &, 6 |, 7 ^, 8 <<, 9 >>, 10 >>>, 11 max, 12 min; from 20 on of longs: 20 +, 21 -, 22 *, 23 /, 24 %, 25 compare -/
noncomputable def ai_op : Nat → Int → Int → Int
  | 0, a, b => (a + b).bmod 4294967296
  | 1, a, b => (a - b).bmod 4294967296
  | 2, a, b => (a * b).bmod 4294967296
  | 3, a, b => (a.tdiv b).bmod 4294967296
  | 4, a, b => (a - a.tdiv b * b).bmod 4294967296
  | 5, a, b => (Int32.ofInt a &&& Int32.ofInt b).toInt
  | 6, a, b => (Int32.ofInt a ||| Int32.ofInt b).toInt
  | 7, a, b => (Int32.ofInt a ^^^ Int32.ofInt b).toInt
  | 8, a, b => (Int32.ofInt a <<< (Int32.ofInt b &&& 31)).toInt
  | 9, a, b => (Int32.ofInt a >>> (Int32.ofInt b &&& 31)).toInt
  | 10, a, b => ((Int32.ofInt a).toUInt32 >>> ((Int32.ofInt b).toUInt32 &&& Int32.toUInt32 31)).toInt32.toInt
  | 11, a, b => ai_max a b
  | 12, a, b => ai_min a b
  | 13, a, _ => (ai_abs a).bmod 4294967296
  | 26, a, _ => (ai_abs a).bmod 18446744073709551616
  | 20, a, b => (a + b).bmod 18446744073709551616
  | 21, a, b => (a - b).bmod 18446744073709551616
  | 22, a, b => (a * b).bmod 18446744073709551616
  | 23, a, b => (a.tdiv b).bmod 18446744073709551616
  | 24, a, b => (a - a.tdiv b * b).bmod 18446744073709551616
  | 25, a, b => match ai_eq a b with
    | true => 0
    | false => match ai_le a b with
      | true => -1
      | false => 1
  | 32, a, b => match ai_le a b with
    | true => 0
    | false => 1
  | 33, a, b => match ai_eq a b with
    | true => 1
    | false => 0
  | _, _, _ => 0
/-- bounds that are kept if they fit, else all -/
noncomputable def ai_fit (b : Bool) (lo hi : Int) : Int × Int := match b with
  | false => match ai_le ai_lo32 lo with
    | false => (ai_lo32, ai_hi32)
    | true => match ai_le hi ai_hi32 with
      | false => (ai_lo32, ai_hi32)
      | true => (lo, hi)
  | true => match ai_le ai_lo64 lo with
    | false => (ai_lo64, ai_hi64)
    | true => match ai_le hi ai_hi64 with
      | false => (ai_lo64, ai_hi64)
      | true => (lo, hi)
/-- the least 2^k - 1 that is no less -/
noncomputable def ai_full (a : Int) : Int := match a with
  | .ofNat n => .ofNat (2 ^ (Nat.log2 n + 1) - 1)
  | .negSucc _ => ai_hi32
/-- bounds of what comes out -/
noncomputable def ai_rmul (w : Bool) (a b c d : Int) : Int × Int := ai_fit w (ai_min (ai_min (a * c) (a * d)) (ai_min (b * c) (b * d))) (ai_max (ai_max (a * c) (a * d)) (ai_max (b * c) (b * d)))
noncomputable def ai_rdiv (w : Bool) (a b c : Int) : Int × Int := match ai_le 0 a, ai_le 1 c with
  | true, true => (0, b)
  | _, _ => match ai_max (ai_abs a) (ai_abs b) with
    | m => ai_fit w (-m) m
noncomputable def ai_rrem (w : Bool) (a b c d : Int) : Int × Int := match ai_le 0 a with
  | true => match ai_le 1 c with
    | true => (0, ai_min b (d - 1))
    | false => (0, b)
  | false => match ai_le 1 c with
    | true => ai_fit w (1 - d) (d - 1)
    | false => match w with
      | true => (ai_lo64, ai_hi64)
      | false => (ai_lo32, ai_hi32)
noncomputable def ai_rand (a b c d : Int) : Int × Int := match ai_le 0 a with
  | true => match ai_le 0 c with
    | true => (0, ai_min b d)
    | false => (0, b)
  | false => match ai_le 0 c with
    | true => (0, d)
    | false => (ai_lo32, ai_hi32)
noncomputable def ai_ror (a b c d : Int) : Int × Int := match ai_le 0 a with
  | true => match ai_le 0 c with
    | true => (0, ai_full (ai_max b d))
    | false => (ai_lo32, ai_hi32)
  | false => (ai_lo32, ai_hi32)
noncomputable def ai_rshr (a b c d : Int) : Int × Int := match ai_eq c d, c with
  | true, .ofNat k => match Nat.blt k 32 with
    | true => (a >>> k, b >>> k)
    | false => (ai_lo32, ai_hi32)
  | _, _ => (ai_lo32, ai_hi32)
noncomputable def ai_rshl (a b c d : Int) : Int × Int := match ai_le 0 a, ai_le 0 c, ai_le d 30 with
  | true, true, true => match ai_le (b * Int.ofNat (2 ^ d.toNat)) ai_hi32 with
    | true => (a * Int.ofNat (2 ^ c.toNat), b * Int.ofNat (2 ^ d.toNat))
    | false => (ai_lo32, ai_hi32)
  | _, _, _ => (ai_lo32, ai_hi32)
noncomputable def ai_rng (o : Nat) (x y : Int × Int) : Int × Int := match o, x, y with
  | 0, (a, b), (c, d) => ai_fit false (a + c) (b + d)
  | 1, (a, b), (c, d) => ai_fit false (a - d) (b - c)
  | 2, (a, b), (c, d) => ai_rmul false a b c d
  | 3, (a, b), (c, _) => ai_rdiv false a b c
  | 4, (a, b), (c, d) => ai_rrem false a b c d
  | 5, (a, b), (c, d) => ai_rand a b c d
  | 6, (a, b), (c, d) => ai_ror a b c d
  | 7, (a, b), (c, d) => ai_ror a b c d
  | 8, (a, b), (c, d) => ai_rshl a b c d
  | 9, (a, b), (c, d) => ai_rshr a b c d
  | 11, (a, b), (c, d) => (ai_max a c, ai_max b d)
  | 12, (a, b), (c, d) => (ai_min a c, ai_min b d)
  | 20, (a, b), (c, d) => ai_fit true (a + c) (b + d)
  | 21, (a, b), (c, d) => ai_fit true (a - d) (b - c)
  | 22, (a, b), (c, d) => ai_rmul true a b c d
  | 23, (a, b), (c, _) => ai_rdiv true a b c
  | 24, (a, b), (c, d) => ai_rrem true a b c d
  | 25, _, _ => (-1, 1)
  | n, _, _ => match Nat.ble 20 n with
    | true => (ai_lo64, ai_hi64)
    | false => (ai_lo32, ai_hi32)
noncomputable def ai_find (o : Nat) (x y : ai_X) (l : List ai_D) : Option Nat := List.rec (motive := fun _ => Option Nat) none (fun d _ ih => Bool.rec (motive := fun _ => Option Nat) ih (Bool.rec (motive := fun _ => Option Nat) ih (Bool.rec (motive := fun _ => Option Nat) ih (some d.2.1) (ai_xeq y d.2.2.2)) (ai_xeq x d.2.2.1)) (Nat.beq o d.1)) l
theorem ai_find_c {o q t : Nat} {x y u v : ai_X} {l : List ai_D} : ai_find o x y ((q, t, u, v) :: l) = (match Nat.beq o q with
    | false => ai_find o x y l
    | true => match ai_xeq x u with
      | false => ai_find o x y l
      | true => match ai_xeq y v with
        | false => ai_find o x y l
        | true => some t) := by
  show Bool.rec (motive := fun _ => Option Nat) (ai_find o x y l) (Bool.rec (motive := fun _ => Option Nat) (ai_find o x y l) (Bool.rec (motive := fun _ => Option Nat) (ai_find o x y l) (some t) (ai_xeq y v)) (ai_xeq x u)) (Nat.beq o q) = _
  cases Nat.beq o q <;> cases ai_xeq x u <;> cases ai_xeq y v <;> rfl
/-- a new symbol -/
noncomputable def ai_new (E : ai_E) (b : Int × Int) : ai_X × ai_E := match E with
  | (N, l, ds) => ((N, 0), (N + 1, (N, b) :: l, ds))
noncomputable def ai_def (E : ai_E) (o : Nat) (x y : ai_X) (b : Int × Int) : ai_X × ai_E := match ai_find o x y E.2.2 with
  | some t => ((t, 0), E)
  | none => match ai_eq b.1 b.2 with
    | true => ((0, b.1), E)
    | false => match E with
      | (N, l, ds) => ((N, 0), (N + 1, (N, b) :: l, (o, N, x, y) :: ds))
noncomputable def ai_pm (o : Nat) (c b : Int) : Int := match o with
  | 0 => c + b
  | _ + 1 => c - b
/-- an instruction of two numbers -/
noncomputable def ai_bin (E : ai_E) (o : Nat) (x y : ai_X) : ai_X × ai_E := match x, y with
  | (0, a), (0, b) => ((0, ai_op o a b), E)
  | (0, a), (u + 1, d) => match Nat.beq o 0 with
    | true => match ai_iv E (u + 1, d + a) with
      | (lo, hi) => match ai_le ai_lo32 lo, ai_le hi ai_hi32 with
        | true, true => ((u + 1, d + a), E)
        | _, _ => ai_def E o (0, a) (u + 1, d) (ai_rng o (a, a) (ai_iv E (u + 1, d)))
    | false => ai_def E o (0, a) (u + 1, d) (ai_rng o (a, a) (ai_iv E (u + 1, d)))
  | (t + 1, c), (0, b) => match Nat.ble o 1 with
    | true => match ai_pm o c b with
      | e => match ai_iv E (t + 1, e) with
        | (lo, hi) => match ai_le ai_lo32 lo, ai_le hi ai_hi32 with
          | true, true => ((t + 1, e), E)
          | _, _ => ai_def E o (t + 1, c) (0, b) (ai_rng o (ai_iv E (t + 1, c)) (b, b))
    | false => ai_def E o (t + 1, c) (0, b) (ai_rng o (ai_iv E (t + 1, c)) (b, b))
  | (t + 1, c), (u + 1, d) => ai_def E o (t + 1, c) (u + 1, d) (ai_rng o (ai_iv E (t + 1, c)) (ai_iv E (u + 1, d)))
/-- a bound more for a symbol -/
noncomputable def ai_cap (E : ai_E) (t : Nat) (lo hi : Int) : Option ai_E := match t with
  | 0 => match ai_le lo 0, ai_le 0 hi with
    | true, true => some E
    | _, _ => none
  | _ + 1 => match ai_look E.2.1 t with
    | (a, b) => match ai_max a lo, ai_min b hi with
      | lo', hi' => match ai_le lo' hi' with
        | true => some (E.1, (t, lo', hi') :: E.2.1, E.2.2)
        | false => none
/-- x no more than y + k: what is known then -/
noncomputable def ai_leq (E : ai_E) (x y : ai_X) (k : Int) : Option ai_E := match Nat.beq x.1 y.1 with
  | true => match ai_le x.2 (y.2 + k) with
    | true => some E
    | false => none
  | false => match ai_iv E x, ai_iv E y with
    | (a, b), (c, d) => match ai_le b (c + k) with
      | true => some E
      | false => match ai_cap E x.1 ai_lo64 (d + k - x.2) with
        | none => none
        | some E1 => ai_cap E1 y.1 (a - k - y.2) ai_hi64
noncomputable def ai_same (E : ai_E) (x y : ai_X) : Option ai_E := match ai_leq E x y 0 with
  | none => none
  | some E1 => ai_leq E1 y x 0
/-- a symbol isn't a number: at its bounds' ends -/
noncomputable def ai_off (E : ai_E) (t : Nat) (v : Int) : Option ai_E := match t with
  | 0 => match ai_eq v 0 with
    | true => none
    | false => some E
  | _ + 1 => match ai_look E.2.1 t with
    | (a, b) => match ai_eq a v with
      | true => ai_cap E t (a + 1) ai_hi64
      | false => match ai_eq b v with
        | true => ai_cap E t ai_lo64 (b - 1)
        | false => some E
noncomputable def ai_differ (E : ai_E) (x y : ai_X) : Option ai_E := match Nat.beq x.1 y.1 with
  | true => match ai_eq x.2 y.2 with
    | true => none
    | false => some E
  | false => match x, y with
    | (0, a), (u, d) => ai_off E u (a - d)
    | (t, c), (0, b) => ai_off E t (b - c)
    | _, _ => some E
/-- a comparison that holds: 0 =, 1 ≠, 2 <, 3 ≥, 4 >, 5 ≤ -/
noncomputable def ai_cmp (E : ai_E) (o : Nat) (x y : ai_X) : Option ai_E := match o with
  | 0 => ai_same E x y
  | 1 => ai_differ E x y
  | 2 => ai_leq E x y (-1)
  | 3 => ai_leq E y x 0
  | 4 => ai_leq E y x (-1)
  | _ => ai_leq E x y 0
noncomputable def ai_cno : ClassFile.Cond → Nat
  | .eq => 0
  | .ne => 1
  | .lt => 2
  | .ge => 3
  | .gt => 4
  | .le => 5
noncomputable def ai_inv : Nat → Nat
  | 0 => 1
  | 1 => 0
  | 2 => 3
  | 3 => 2
  | 4 => 5
  | _ => 4
/-- the comparison of two longs whose sign a symbol is -/
noncomputable def ai_lcmp (t : Nat) : List ai_D → Option (ai_X × ai_X)
  | [] => none
  | (o, u, x, y) :: l => match Nat.beq u t with
    | false => ai_lcmp t l
    | true => match Nat.beq o 25 with
      | true => some (x, y)
      | false => ai_lcmp t l
/-- locals -/
noncomputable def ai_lget (l : List ai_V) : Nat → ai_V := List.rec (motive := fun _ => Nat → ai_V) (fun _ => .inr (.inr none)) (fun v _ ih i => Nat.rec (motive := fun _ => ai_V) v (fun j _ => ih j) i) l
theorem ai_lget_z {v : ai_V} {l : List ai_V} : ai_lget (v :: l) 0 = v := rfl
theorem ai_lget_s {v : ai_V} {l : List ai_V} {i : Nat} : ai_lget (v :: l) (i + 1) = ai_lget l i := rfl
noncomputable def ai_kill : ai_V → ai_V
  | .inr (.inl _) => .inr (.inr none)
  | v => v
noncomputable def ai_lset (l : List ai_V) : Nat → ai_V → List ai_V := List.rec (motive := fun _ => Nat → ai_V → List ai_V) (fun _ _ => []) (fun w l ih i v => Nat.rec (motive := fun _ => List ai_V) (v :: l) (fun j _ => Nat.rec (motive := fun _ => List ai_V) (ai_kill w :: ih 0 v) (fun _ _ => w :: ih j v) j) i) l
theorem ai_lset_z {w v : ai_V} {l : List ai_V} : ai_lset (w :: l) 0 v = v :: l := rfl
theorem ai_lset_o {w v : ai_V} {l : List ai_V} : ai_lset (w :: l) 1 v = ai_kill w :: ai_lset l 0 v := rfl
theorem ai_lset_s {w v : ai_V} {l : List ai_V} {i : Nat} : ai_lset (w :: l) (i + 2) v = w :: ai_lset l (i + 1) v := rfl
noncomputable def ai_lset2 (L : List ai_V) (i : Nat) (v : ai_V) : List ai_V := ai_lset (ai_lset L (i + 1) (.inr (.inr none))) i v
/-- what stands at a place of an array -/
noncomputable def ai_kgo (E : ai_E) (i j v : ai_X) (g : ai_X ⊕ (Int × Int)) : ai_X ⊕ (Int × Int) := match ai_iv E i, ai_iv E j, Nat.beq i.1 j.1 with
  | (a, b), (c, d), q => match q || !(ai_le a d) || !(ai_le c b) with
    | true => g
    | false => match g with
      | .inl w => match ai_iv E v, ai_iv E w with
        | (a, b), (c, d) => .inr (ai_min a c, ai_max b d)
      | .inr (c, d) => match ai_iv E v with
        | (a, b) => .inr (ai_min a c, ai_max b d)
noncomputable def ai_kget (E : ai_E) (lo hi : Int) (i : ai_X) (l : List (ai_X × ai_X)) : ai_X ⊕ (Int × Int) := List.rec (motive := fun _ => ai_X ⊕ (Int × Int)) (Bool.rec (motive := fun _ => ai_X ⊕ (Int × Int)) (.inr (lo, hi)) (.inl (0, lo)) (ai_eq lo hi)) (fun q _ ih => Bool.rec (motive := fun _ => ai_X ⊕ (Int × Int)) (ai_kgo E i q.1 q.2 ih) (.inl q.2) (ai_xeq i q.1)) l
theorem ai_kget_n {E : ai_E} {lo hi : Int} {i : ai_X} : ai_kget E lo hi i [] = (match ai_eq lo hi with
    | true => .inl (0, lo)
    | false => .inr (lo, hi)) := by
  show Bool.rec (motive := fun _ => ai_X ⊕ (Int × Int)) (.inr (lo, hi)) (.inl (0, lo)) (ai_eq lo hi) = _
  cases ai_eq lo hi <;> rfl
theorem ai_kget_c {E : ai_E} {lo hi : Int} {i j v : ai_X} {l : List (ai_X × ai_X)} : ai_kget E lo hi i ((j, v) :: l) = (match ai_xeq i j with
    | true => .inl v
    | false => match ai_iv E i, ai_iv E j, Nat.beq i.1 j.1 with
      | (a, b), (c, d), q => match q || !(ai_le a d) || !(ai_le c b) with
        | true => ai_kget E lo hi i l
        | false => match ai_kget E lo hi i l with
          | .inl w => match ai_iv E v, ai_iv E w with
            | (a, b), (c, d) => .inr (ai_min a c, ai_max b d)
          | .inr (c, d) => match ai_iv E v with
            | (a, b) => .inr (ai_min a c, ai_max b d)) := by
  show Bool.rec (motive := fun _ => ai_X ⊕ (Int × Int)) (ai_kgo E i j v (ai_kget E lo hi i l)) (.inl v) (ai_xeq i j) = _
  cases ai_xeq i j <;> rfl
noncomputable def ai_kdrop (i : ai_X) : List (ai_X × ai_X) → List (ai_X × ai_X)
  | [] => []
  | (j, v) :: l => match ai_xeq i j with
    | true => l
    | false => (j, v) :: ai_kdrop i l
noncomputable def ai_inb (E : ai_E) (i : ai_X) (n : Nat) : Bool := match ai_iv E i with
  | (a, b) => match ai_le 0 a with
    | true => ai_le b (Int.ofNat n - 1)
    | false => false
noncomputable def ai_geta (l : List (Option Nat)) (i : Nat) : Option (Option Nat) := match l, i with
  | [], _ => none
  | v :: _, 0 => some v
  | _ :: l, i + 1 => ai_geta l i
noncomputable def ai_seta : List (Option Nat) → Nat → Option Nat → List (Option Nat)
  | [], _, _ => []
  | _ :: l, 0, v => v :: l
  | w :: l, i + 1, v => w :: ai_seta l i v
noncomputable def ai_getv (l : List ai_V) (i : Nat) : Option ai_V := match l, i with
  | [], _ => none
  | v :: _, 0 => some v
  | _ :: l, i + 1 => ai_getv l i
noncomputable def ai_setv : List ai_V → Nat → ai_V → List ai_V
  | [], _, _ => []
  | _ :: l, 0, v => v :: l
  | w :: l, i + 1, v => w :: ai_setv l i v
/-- cells 0 to 15 are old ones, never written; the others are the world's -/
noncomputable def ai_cell (h : ai_H) (r : Nat) : Option ai_C := ai_tget 9 h.2 r
noncomputable def ai_put (h : ai_H) (r : Nat) (c : ai_C) : Option ai_H := match h with
  | (n, t) => match Nat.ble 16 r, Nat.ble (r + 1) n with
    | true, true => some (n, ai_tset 9 t r (some c))
    | _, _ => none
noncomputable def ai_push (h : ai_H) (c : ai_C) : Option ai_H := match h with
  | (n, t) => match Nat.ble 512 n with
    | false => some (n + 1, ai_tset 9 t n (some c))
    | true => none
abbrev ai_F : Type := Nat × List ai_V × List ai_V × ai_G
abbrev ai_S : Type := List ai_F ⊕ ((Nat × List ai_V × List ai_V × Nat) ⊕ ai_R)
noncomputable def ai_go (pc : Nat) (L S : List ai_V) (G : ai_G) : Option ai_S := some (.inl [(pc, L, S, G)])
noncomputable def ai_s2 (o pc : Nat) (L S : List ai_V) (G : ai_G) : Option ai_S := match S with
  | .inl y :: .inl x :: S => match G with
    | (E, h, c, s) => match ai_bin E o x y with
      | (z, E) => ai_go pc L (.inl z :: S) (E, h, c, s)
  | _ => none
noncomputable def ai_l2 (o pc : Nat) (L S : List ai_V) (G : ai_G) : Option ai_S := match S with
  | .inr (.inl y) :: .inr (.inl x) :: S => match G with
    | (E, h, c, s) => match ai_bin E o x y with
      | (z, E) => ai_go pc L (.inr (.inl z) :: S) (E, h, c, s)
  | _ => none
noncomputable def ai_nz (E : ai_E) (x : ai_X) : Bool := match ai_iv E x with
  | (a, b) => match ai_le 1 a with
    | true => true
    | false => ai_le b (-1)
/-- a comparison of a sign with 0 is that of the two longs -/
noncomputable def ai_bxy (E : ai_E) (x y : ai_X) : ai_X × ai_X := match x, y with
  | (t + 1, 0), (0, 0) => match ai_lcmp (t + 1) E.2.2 with
    | some p => p
    | none => (x, y)
  | _, _ => (x, y)
/-- facts that are remembered stand among the definitions, as if symbol 0 came of them: 32: x is no more than y; 33: x is not y -/
noncomputable def ai_lef (x y : ai_X) (k : Int) (l : List ai_D) : Bool := List.rec (motive := fun _ => Bool) false (fun d _ ih => Bool.rec (motive := fun _ => Bool) ih (Bool.rec (motive := fun _ => Bool) ih (Bool.rec (motive := fun _ => Bool) ih (Bool.rec (motive := fun _ => Bool) ih (Bool.rec (motive := fun _ => Bool) ih true (ai_le (d.2.2.2.2 - d.2.2.1.2) (y.2 + k - x.2))) (Nat.beq d.2.1 0)) (Nat.beq d.2.2.2.1 y.1)) (Nat.beq d.2.2.1.1 x.1)) (Nat.beq d.1 32)) l
theorem ai_lef_c {x y u v : ai_X} {k : Int} {o t : Nat} {l : List ai_D} : ai_lef x y k ((o, t, u, v) :: l) = (match Nat.beq o 32 with
    | false => ai_lef x y k l
    | true => match Nat.beq u.1 x.1, Nat.beq v.1 y.1, Nat.beq t 0 with
      | true, true, true => match ai_le (v.2 - u.2) (y.2 + k - x.2) with
        | true => true
        | false => ai_lef x y k l
      | _, _, _ => ai_lef x y k l) := by
  show Bool.rec (motive := fun _ => Bool) (ai_lef x y k l) (Bool.rec (motive := fun _ => Bool) (ai_lef x y k l) (Bool.rec (motive := fun _ => Bool) (ai_lef x y k l) (Bool.rec (motive := fun _ => Bool) (ai_lef x y k l) (Bool.rec (motive := fun _ => Bool) (ai_lef x y k l) true (ai_le (v.2 - u.2) (y.2 + k - x.2))) (Nat.beq t 0)) (Nat.beq v.1 y.1)) (Nat.beq u.1 x.1)) (Nat.beq o 32) = _
  cases Nat.beq o 32 <;> cases Nat.beq u.1 x.1 <;> cases Nat.beq v.1 y.1 <;> cases Nat.beq t 0 <;> cases ai_le (v.2 - u.2) (y.2 + k - x.2) <;> rfl
noncomputable def ai_nef (x y : ai_X) (l : List ai_D) : Bool := List.rec (motive := fun _ => Bool) false (fun d _ ih => Bool.rec (motive := fun _ => Bool) ih (Bool.rec (motive := fun _ => Bool) ih
  (Bool.rec (motive := fun _ => Bool) (Bool.rec (motive := fun _ => Bool) ih (Bool.rec (motive := fun _ => Bool) ih (Bool.rec (motive := fun _ => Bool) ih true (ai_eq (y.2 - d.2.2.1.2) (x.2 - d.2.2.2.2))) (Nat.beq d.2.2.2.1 x.1)) (Nat.beq d.2.2.1.1 y.1))
    true (Nat.beq d.2.2.1.1 x.1 && (Nat.beq d.2.2.2.1 y.1 && ai_eq (x.2 - d.2.2.1.2) (y.2 - d.2.2.2.2)))) (Nat.beq d.2.1 0)) (Nat.beq d.1 33)) l
theorem ai_nef_c {x y u v : ai_X} {o t : Nat} {l : List ai_D} : ai_nef x y ((o, t, u, v) :: l) = (match Nat.beq o 33 with
    | false => ai_nef x y l
    | true => match Nat.beq t 0, Nat.beq u.1 x.1, Nat.beq v.1 y.1, ai_eq (x.2 - u.2) (y.2 - v.2) with
      | true, true, true, true => true
      | false, _, _, _ => ai_nef x y l
      | true, _, _, _ => match Nat.beq u.1 y.1, Nat.beq v.1 x.1, ai_eq (y.2 - u.2) (x.2 - v.2) with
        | true, true, true => true
        | _, _, _ => ai_nef x y l) := by
  show Bool.rec (motive := fun _ => Bool) (ai_nef x y l) (Bool.rec (motive := fun _ => Bool) (ai_nef x y l)
    (Bool.rec (motive := fun _ => Bool) (Bool.rec (motive := fun _ => Bool) (ai_nef x y l) (Bool.rec (motive := fun _ => Bool) (ai_nef x y l) (Bool.rec (motive := fun _ => Bool) (ai_nef x y l) true (ai_eq (y.2 - u.2) (x.2 - v.2))) (Nat.beq v.1 x.1)) (Nat.beq u.1 y.1))
      true (Nat.beq u.1 x.1 && (Nat.beq v.1 y.1 && ai_eq (x.2 - u.2) (y.2 - v.2)))) (Nat.beq t 0)) (Nat.beq o 33) = _
  cases Nat.beq o 33 <;> cases Nat.beq t 0 <;> cases Nat.beq u.1 x.1 <;> cases Nat.beq v.1 y.1 <;> cases ai_eq (x.2 - u.2) (y.2 - v.2) <;> cases Nat.beq u.1 y.1 <;> cases Nat.beq v.1 x.1 <;> cases ai_eq (y.2 - u.2) (x.2 - v.2) <;> rfl
noncomputable def ai_two (x y : ai_X) : Bool := match Nat.blt 0 x.1 with
  | true => Nat.blt 0 y.1
  | false => false
/-- a comparison that can't hold by what is remembered -/
noncomputable def ai_kno (ds : List ai_D) (o : Nat) (x y : ai_X) : Bool := match Nat.beq x.1 y.1 with
  | true => false
  | false => match o with
    | 0 => match ai_nef x y ds with
      | true => true
      | false => match ai_two x y with
        | false => false
        | true => match ai_lef x y (-1) ds with
          | true => true
          | false => ai_lef y x (-1) ds
    | 1 => match ai_two x y with
      | false => false
      | true => match ai_lef x y 0 ds with
        | true => ai_lef y x 0 ds
        | false => false
    | 2 => match ai_two x y with
      | false => false
      | true => ai_lef y x 0 ds
    | 3 => match ai_two x y with
      | false => false
      | true => ai_lef x y (-1) ds
    | 4 => match ai_two x y with
      | false => false
      | true => ai_lef x y 0 ds
    | _ => match ai_two x y with
      | false => false
      | true => ai_lef y x (-1) ds
noncomputable def ai_fct (E : ai_E) (k : Nat) (x y : ai_X) : ai_E := match ai_find k x y E.2.2 with
  | some _ => E
  | none => (E.1, E.2.1, (k, 0, x, y) :: E.2.2)
noncomputable def ai_adk (E E1 : ai_E) (t : Nat) (v : Int) : ai_E := match ai_look E.2.1 t with
  | (a, b) => match ai_le (a + 1) v, ai_le (v + 1) b with
    | true, true => ai_fct E1 33 (t, 0) (0, v)
    | _, _ => E1
noncomputable def ai_add (E E1 : ai_E) (o : Nat) (x y : ai_X) : ai_E := match Nat.beq x.1 y.1 with
  | true => E1
  | false => match ai_two x y with
    | false => match o with
      | 1 => match Nat.blt 0 x.1 with
        | true => ai_adk E E1 x.1 (y.2 - x.2)
        | false => ai_adk E E1 y.1 (x.2 - y.2)
      | _ => E1
    | true => match o with
      | 0 => ai_fct (ai_fct E1 32 x y) 32 y x
      | 1 => ai_fct E1 33 x y
      | 2 => ai_fct E1 32 x (y.1, y.2 - 1)
      | 3 => ai_fct E1 32 y x
      | 4 => ai_fct E1 32 y (x.1, x.2 - 1)
      | _ => ai_fct E1 32 x y
/-- a comparison that holds, remembered -/
noncomputable def ai_cmq (E : ai_E) (o : Nat) (x y : ai_X) : Option ai_E := match ai_kno E.2.2 o x y with
  | true => none
  | false => match ai_cmp E o x y with
    | none => none
    | some E1 => some (ai_add E E1 o x y)
noncomputable def ai_fork (a b : Option ai_E) (tgt nxt : Nat) (L S : List ai_V) (h : ai_H) (c s : Nat) : List ai_F := match a with
  | some E1 => match b with
    | some E2 => [(tgt, L, S, (E1, h, c, s)), (nxt, L, S, (E2, h, c, s))]
    | none => [(tgt, L, S, (E1, h, c, s))]
  | none => match b with
    | some E2 => [(nxt, L, S, (E2, h, c, s))]
    | none => []
noncomputable def ai_branch (o tgt nxt : Nat) (x y : ai_X) (L S : List ai_V) (G : ai_G) : Option ai_S := match G with
  | (E, h, c, s) => match ai_bxy E x y with
    | (x, y) => some (.inl (ai_fork (ai_cmq E o x y) (ai_cmq E (ai_inv o) x y) tgt nxt L S h c s))
noncomputable def ai_int (v : ai_V) : Bool := match v with
  | .inl _ => true
  | _ => false
noncomputable def ai_lng (v : ai_V) : Bool := match v with
  | .inr (.inl _) => true
  | _ => false
/-- of one word: an int, a reference, null -/
noncomputable def ai_one (v : ai_V) : Bool := match v with
  | .inl _ => true
  | .inr (.inr (some _)) => true
  | _ => false
noncomputable def ai_ref (v : ai_V) : Bool := match v with
  | .inr (.inr (some (some _))) => true
  | _ => false
noncomputable def ai_load (p : ai_V → Bool) (i pc : Nat) (L S : List ai_V) (G : ai_G) : Option ai_S := match ai_lget L i with
  | v => match p v with
    | true => ai_go pc L (v :: S) G
    | false => none
noncomputable def ai_stor (p : ai_V → Bool) (i pc : Nat) (L S : List ai_V) (G : ai_G) : Option ai_S := match S with
  | v :: S => match p v, Nat.blt i L.length with
    | true, true => ai_go pc (ai_lset L i v) S G
    | _, _ => none
  | _ => none
noncomputable def ai_stol (i pc : Nat) (L S : List ai_V) (G : ai_G) : Option ai_S := match S with
  | .inr (.inl x) :: S => match Nat.blt (i + 1) L.length with
    | true => ai_go pc (ai_lset2 L i (.inr (.inl x))) S G
    | _ => none
  | _ => none
noncomputable def ai_num (ty : Nat) (z : ai_X) : ai_V := match ty with
  | 1 => .inr (.inl z)
  | _ => .inl z
noncomputable def ai_read (ty pc : Nat) (L S : List ai_V) (G : ai_G) : Option ai_S := match S with
  | .inl i :: .inr (.inr (some (some r))) :: S => match G with
    | (E, h, c, s) => match ai_cell h r with
      | some (.inr (.inl (q, n, lo, hi, l))) => match Nat.beq q ty, ai_inb E i n with
        | true, true => match ai_kget E lo hi i l with
          | .inl z => ai_go pc L (ai_num ty z :: S) G
          | .inr b => match ai_new E b with
            | (z, E) => ai_go pc L (ai_num ty z :: S) (E, h, c, s)
        | _, _ => none
      | _ => none
  | _ => none
noncomputable def ai_cut (ty : Nat) (v : ai_V) : Option ai_X := match v with
  | .inl z => match ty with
    | 1 => none
    | _ => some z
  | .inr (.inl z) => match ty with
    | 1 => some z
    | _ => none
  | _ => none
noncomputable def ai_bit (E : ai_E) (z : ai_X) : Bool := match ai_iv E z with
  | (a, b) => match ai_le 0 a with
    | true => ai_le b 1
    | false => false
noncomputable def ai_writ (ty pc : Nat) (L S : List ai_V) (G : ai_G) : Option ai_S := match S with
  | v :: .inl i :: .inr (.inr (some (some r))) :: S => match ai_cut ty v with
    | none => none
    | some z => match G with
      | (E, h, c, s) => match ai_cell h r with
        | some (.inr (.inl (q, n, lo, hi, l))) => match Nat.beq q ty, ai_inb E i n, (match ty with | 2 => ai_bit E z | _ => true) with
          | true, true, true => match ai_put h r (.inr (.inl (q, n, lo, hi, (i, z) :: ai_kdrop i l))) with
            | some h => ai_go pc L S (E, h, c, s)
            | none => none
          | _, _, _ => none
        | _ => none
  | _ => none
/-- a reference out of an array of references: each place that it may be -/
noncomputable def ai_aall (E : ai_E) (i : ai_X) (rs : List (Option Nat)) (pc : Nat) (L S : List ai_V) (h : ai_H) (c s : Nat) : Nat → List (Option Nat) → List ai_F
  | _, [] => []
  | j, r :: l => match ai_same E i (0, .ofNat j) with
    | some E1 => (pc, L, .inr (.inr (some r)) :: S, (E1, h, c, s)) :: ai_aall E i rs pc L S h c s (j + 1) l
    | none => ai_aall E i rs pc L S h c s (j + 1) l
noncomputable def ai_aget (pc : Nat) (L S : List ai_V) (G : ai_G) : Option ai_S := match S with
  | .inl i :: .inr (.inr (some (some r))) :: S => match G with
    | (E, h, c, s) => match ai_cell h r with
      | some (.inr (.inr (_, rs))) => match i with
        | (0, .ofNat k) => match ai_geta rs k with
          | some v => ai_go pc L (.inr (.inr (some v)) :: S) G
          | none => none
        | _ => match ai_inb E i rs.length with
          | true => some (.inl (ai_aall E i rs pc L S h c s 0 rs))
          | false => none
      | _ => none
  | _ => none
/-- may an array of references of a kind hold it: mills, texts -/
noncomputable def ai_oka (h : ai_H) (ty v : Nat) : Bool := match ty with
  | 4 => match ai_cell h v with
    | some (.inl (4, _)) => Nat.ble 16 v
    | _ => false
  | 5 => match Nat.ble 1 v with
    | true => Nat.ble v 10
    | false => false
  | _ => false
noncomputable def ai_aput (pc : Nat) (L S : List ai_V) (G : ai_G) : Option ai_S := match S with
  | .inr (.inr (some (some v))) :: .inl (0, .ofNat k) :: .inr (.inr (some (some r))) :: S => match G with
    | (E, h, c, s) => match ai_cell h r with
      | some (.inr (.inr (ty, rs))) => match Nat.blt k rs.length, ai_oka h ty v with
        | true, true => match ai_put h r (.inr (.inr (ty, ai_seta rs k (some v)))) with
          | some h => ai_go pc L S (E, h, c, s)
          | none => none
        | _, _ => none
      | _ => none
  | _ => none
noncomputable def ai_size (c : Option ai_C) : Option Nat := match c with
  | some (.inr (.inl (_, n, _))) => some n
  | some (.inr (.inr (_, rs))) => some rs.length
  | _ => none
noncomputable def ai_alen (pc : Nat) (L S : List ai_V) (G : ai_G) : Option ai_S := match S with
  | .inr (.inr (some (some r))) :: S => match G with
    | (E, h, c, s) => match ai_size (ai_cell h r) with
      | some n => match Nat.blt n 1000000 with
        | true => ai_go pc L (.inl (0, .ofNat n) :: S) (E, h, c, s)
        | false => none
      | none => none
  | _ => none
noncomputable def ai_getf (ci k pc : Nat) (L S : List ai_V) (G : ai_G) : Option ai_S := match S with
  | .inr (.inr (some (some r))) :: S => match G with
    | (_, h, _, _) => match ai_cell h r with
      | some (.inl (cj, fs)) => match Nat.beq ci cj, ai_getv fs k with
        | true, some v => ai_go pc L (v :: S) G
        | _, _ => none
      | _ => none
  | _ => none
/-- may a field of this kind hold it: 0 int, 1 long, 2 boolean, 3 a reference -/
noncomputable def ai_okf (E : ai_E) (ty : Nat) (v : ai_V) : Bool := match v with
  | .inl z => match ty with
    | 0 => true
    | 2 => ai_bit E z
    | _ => false
  | .inr (.inl _) => Nat.beq ty 1
  | .inr (.inr none) => false
  | .inr (.inr (some _)) => Nat.beq ty 3
noncomputable def ai_putf (kind : Nat → Nat → Nat) (ci k pc : Nat) (L S : List ai_V) (G : ai_G) : Option ai_S := match S with
  | v :: .inr (.inr (some (some r))) :: S => match G with
    | (E, h, c, s) => match ai_cell h r with
      | some (.inl (cj, fs)) => match Nat.beq ci cj, Nat.blt k fs.length, ai_okf E (kind ci k) v with
        | true, true, true => match ai_put h r (.inl (cj, ai_setv fs k v)) with
          | some h => ai_go pc L S (E, h, c, s)
          | none => none
        | _, _, _ => none
      | _ => none
  | _ => none
noncomputable def ai_take : Nat → List ai_V → List ai_V → Option (List ai_V × List ai_V)
  | 0, a, S => some (a, S)
  | n + 1, a, S => match S with
    | [] => none
    | v :: S => ai_take n (v :: a) S
/-- words on the operand stack, at most -/
noncomputable def ai_words : List ai_V → Nat
  | [] => 0
  | v :: l => match ai_one v with
    | true => ai_words l + 1
    | false => match ai_lng v with
      | true => ai_words l + 2
      | false => ai_words l + 100
noncomputable def ai_call (mi n pc : Nat) (S : List ai_V) : Option ai_S := match ai_take n [] S with
  | some (a, S) => match Nat.ble (ai_words S) 8 with
    | true => some (.inr (.inl (mi, a, S, pc)))
    | false => none
  | none => none
noncomputable def ai_icall (mi n pc : Nat) (S : List ai_V) : Option ai_S := match ai_take n [] S with
  | some (a, S) => match a with
    | .inr (.inr (some (some _))) :: _ => match Nat.ble (ai_words S) 8 with
      | true => some (.inr (.inl (mi, a, S, pc)))
      | false => none
    | _ => none
  | none => none
noncomputable def ai_vcall (mi n ci pc : Nat) (S : List ai_V) (h : ai_H) : Option ai_S := match ai_take n [] S with
  | some (a, S) => match a with
    | .inr (.inr (some (some q))) :: _ => match ai_cell h q with
      | some (.inl (cj, _)) => match Nat.beq ci cj, Nat.ble (ai_words S) 8 with
        | true, true => some (.inr (.inl (mi, a, S, pc)))
        | _, _ => none
      | _ => none
    | _ => none
  | none => none
noncomputable def ai_make (bud : Nat × Nat) (cell : ai_C) (n pc : Nat) (L S : List ai_V) (G : ai_G) : Option ai_S := match G with
  | (E, h, c, s) => match Nat.ble (c + 1) bud.1, Nat.ble (s + n) bud.2, ai_push h cell with
    | true, true, some h1 => ai_go pc L (.inr (.inr (some (some h.1))) :: S) (E, h1, c + 1, s + n)
    | _, _, _ => none
noncomputable def ai_ids : Nat → Nat → List (Option Nat)
  | _, 0 => []
  | a, n + 1 => some a :: ai_ids (a + 1) n
noncomputable def ai_pushes : ai_H → List ai_C → Option ai_H
  | h, [] => some h
  | h, c :: l => match ai_push h c with
    | some h1 => ai_pushes h1 l
    | none => none
noncomputable def ai_mult (bud : Nat × Nat) (pc : Nat) (L S : List ai_V) (G : ai_G) : Option ai_S := match S with
  | .inl (0, .ofNat k) :: .inl (0, .ofNat n) :: S => match G with
    | (E, h, c, s) => match Nat.ble (c + (1 + n)) bud.1, Nat.ble (s + (n + n * k)) bud.2, Nat.blt n 512, Nat.blt k 1000000 with
      | true, true, true, true => match ai_pushes h (.inr (.inr (3, ai_ids (h.1 + 1) n)) :: List.replicate n (.inr (.inl (0, k, 0, 0, [])))) with
        | some h2 => ai_go pc L (.inr (.inr (some (some h.1))) :: S) (E, h2, c + 1 + n, s + n + n * k)
        | none => none
      | _, _, _, _ => none
  | _ => none
noncomputable def ai_sw1 (E : ai_E) (x : ai_X) (L S : List ai_V) (h : ai_H) (c s : Nat) (pc : Nat) : Int → List Int → List ai_F
  | _, [] => []
  | v, off :: l => match ai_same E x (0, v) with
    | some E1 => ((Int.ofNat pc + off).toNat, L, S, (E1, h, c, s)) :: ai_sw1 E x L S h c s pc (v + 1) l
    | none => ai_sw1 E x L S h c s pc (v + 1) l
noncomputable def ai_some (o : Option ai_E) (pc : Nat) (L S : List ai_V) (h : ai_H) (c s : Nat) : List ai_F := match o with
  | some E => [(pc, L, S, (E, h, c, s))]
  | none => []
noncomputable def ai_tsw (dflt lo hi : Int) (offs : List Int) (pc : Nat) (L S : List ai_V) (G : ai_G) : Option ai_S := match S with
  | .inl x :: S => match G with
    | (E, h, c, s) => some (.inl (ai_some (ai_leq E x (0, lo) (-1)) (Int.ofNat pc + dflt).toNat L S h c s ++ (ai_some (ai_leq E (0, hi) x (-1)) (Int.ofNat pc + dflt).toNat L S h c s ++ ai_sw1 E x L S h c s pc lo offs)))
  | _ => none
noncomputable def ai_lsw1 (x : ai_X) (L S : List ai_V) (h : ai_H) (c s : Nat) (pc : Nat) (dflt : Int) : ai_E → List (Int × Int) → List ai_F
  | E, [] => [((Int.ofNat pc + dflt).toNat, L, S, (E, h, c, s))]
  | E, (v, off) :: l => match ai_same E x (0, v), ai_differ E x (0, v) with
    | some E1, some E2 => ((Int.ofNat pc + off).toNat, L, S, (E1, h, c, s)) :: ai_lsw1 x L S h c s pc dflt E2 l
    | some E1, none => [((Int.ofNat pc + off).toNat, L, S, (E1, h, c, s))]
    | none, some E2 => ai_lsw1 x L S h c s pc dflt E2 l
    | none, none => []
/-- what a part of an array is, place by place, laid from a place on -/
noncomputable def ai_part (lo hi : Int) (l : List (ai_X × ai_X)) : Nat → Nat → Nat → ai_E → List (ai_X × ai_X) → ai_E × List (ai_X × ai_X)
  | 0, _, _, E, a => (E, a)
  | n + 1, sp, dp, E, a => match ai_kget E lo hi (0, .ofNat sp) l with
    | .inl z => ai_part lo hi l n (sp + 1) (dp + 1) E (((0, .ofNat dp), z) :: a)
    | .inr b => match ai_new E b with
      | (z, E) => ai_part lo hi l n (sp + 1) (dp + 1) E (((0, .ofNat dp), z) :: a)
noncomputable def ai_lay : List (ai_X × ai_X) → List (ai_X × ai_X) → List (ai_X × ai_X)
  | [], l => l
  | (i, v) :: a, l => ai_lay a ((i, v) :: ai_kdrop i l)
noncomputable def ai_copy (pc : Nat) (L S : List ai_V) (G : ai_G) : Option ai_S := match S with
  | .inl (0, .ofNat n) :: .inl (0, .ofNat dp) :: .inr (.inr (some (some q))) :: .inl (0, .ofNat sp) :: .inr (.inr (some (some r))) :: S => match G with
    | (E, h, c, s) => match ai_cell h r, ai_cell h q with
      | some (.inr (.inl (ty, k, lo, hi, l))), some (.inr (.inl (tz, m, lo', hi', l'))) => match Nat.beq ty 0, Nat.beq tz 0, Nat.ble (sp + n) k, Nat.ble (dp + n) m, Nat.ble 16 r with
        | true, true, true, true, true => match ai_part lo hi l n sp dp E [] with
          | (E, a) => match ai_put h q (.inr (.inl (tz, m, lo', hi', ai_lay a l'))) with
            | some h => ai_go pc L S (E, h, c, s)
            | none => none
        | _, _, _, _, _ => none
      | _, _ => none
  | _ => none
/-- bounds of all that stands in an array -/
noncomputable def ai_cont (E : ai_E) (lo hi : Int) : List (ai_X × ai_X) → Int × Int
  | [] => (lo, hi)
  | (_, v) :: l => match ai_iv E v, ai_cont E lo hi l with
    | (a, b), (c, d) => (ai_min a c, ai_max b d)
/-- a part of an array whose places aren't known -/
noncomputable def ai_copyw (pc : Nat) (L S : List ai_V) (G : ai_G) : Option ai_S := match S with
  | .inl n :: .inl dp :: .inr (.inr (some (some q))) :: .inl sp :: .inr (.inr (some (some r))) :: S => match G with
    | (E, h, c, s) => match ai_cell h r, ai_cell h q with
      | some (.inr (.inl (ty, k, lo, hi, l))), some (.inr (.inl (tz, m, lo', hi', l'))) => match ai_iv E n, ai_iv E dp, ai_iv E sp with
        | (n1, n2), (d1, d2), (s1, s2) => match Nat.beq ty 0 && Nat.beq tz 0, ai_le 0 n1 && (ai_le 0 d1 && ai_le 0 s1), ai_le (s2 + n2) (Int.ofNat k) && ai_le (d2 + n2) (Int.ofNat m), Nat.ble 16 r with
          | true, true, true, true => match ai_put h q (.inr (.inl (tz, m, ai_min (ai_cont E lo hi l).1 (ai_cont E lo' hi' l').1, ai_max (ai_cont E lo hi l).2 (ai_cont E lo' hi' l').2, []))) with
            | some h => ai_go pc L S (E, h, c, s)
            | none => none
          | _, _, _, _ => none
      | _, _ => none
  | _ => none
noncomputable def ai_copyx (pc : Nat) (L S : List ai_V) (G : ai_G) : Option ai_S := match ai_copy pc L S G with
  | some x => some x
  | none => ai_copyw pc L S G
noncomputable def ai_l2i (E : ai_E) (x : ai_X) : ai_X × ai_E := match ai_iv E x with
  | (lo, hi) => match ai_le ai_lo32 lo with
    | true => match ai_le hi ai_hi32 with
      | true => (x, E)
      | false => ai_new E (ai_lo32, ai_hi32)
    | false => ai_new E (ai_lo32, ai_hi32)
noncomputable def ai_i2s (E : ai_E) (x : ai_X) : ai_X × ai_E := match ai_iv E x with
  | (lo, hi) => match ai_le (-32768) lo with
    | true => match ai_le hi 32767 with
      | true => (x, E)
      | false => ai_new E (-32768, 32767)
    | false => ai_new E (-32768, 32767)
noncomputable def ai_lsw (d : Int) (ps : List (Int × Int)) (pc : Nat) (L S : List ai_V) (G : ai_G) : Option ai_S := match S with
  | .inl x :: S => match G with
    | (E, h, c, s) => some (.inl (ai_lsw1 x L S h c s pc d E ps))
  | _ => none
noncomputable def ai_fin (bud : Nat × Nat) (G : ai_G) (x : ai_R) : Option ai_S := match G with
  | (_, _, c, s) => match Nat.ble c bud.1, Nat.ble s bud.2 with
    | true, true => some (.inr (.inr x))
    | _, _ => none
noncomputable def ai_room (bud : Nat × Nat) (S : List ai_V) (G : ai_G) : Bool := match G with
  | (_, _, c, s) => match Nat.ble (ai_words S) 40, Nat.ble c bud.1, Nat.ble s bud.2 with
    | true, true, true => true
    | _, _, _ => false
noncomputable def ai_step (i : ClassFile.Instr) : (Nat × Nat) → (Nat → List ai_V) → (Nat → Nat → Nat) → Nat → Nat → Nat → Nat → List ai_V → List ai_V → ai_G → Option ai_S := match i with
  | .iconst n => fun bud dflt kind pc nx a b L S G => ai_go nx L (.inl (0, n) :: S) G
  | .bipush n => fun bud dflt kind pc nx a b L S G => ai_go nx L (.inl (0, n) :: S) G
  | .sipush n => fun bud dflt kind pc nx a b L S G => ai_go nx L (.inl (0, n) :: S) G
  | .lconst n => fun bud dflt kind pc nx a b L S G => ai_go nx L (.inr (.inl (0, .ofNat n.val)) :: S) G
  | .ldc _ => fun bud dflt kind pc nx a b L S G => match a with
    | 0 => ai_go nx L (.inl (0, Int.ofNat b - 2147483648) :: S) G
    | _ + 1 => ai_go nx L (.inr (.inr (some (some b))) :: S) G
  | .ldc_w _ => fun bud dflt kind pc nx a b L S G => match a with
    | 0 => ai_go nx L (.inl (0, Int.ofNat b - 2147483648) :: S) G
    | _ + 1 => ai_go nx L (.inr (.inr (some (some b))) :: S) G
  | .iload n => fun bud dflt kind pc nx a b L S G => ai_load ai_int n nx L S G
  | .iload_n n => fun bud dflt kind pc nx a b L S G => ai_load ai_int n.val nx L S G
  | .lload n => fun bud dflt kind pc nx a b L S G => ai_load ai_lng n nx L S G
  | .lload_n n => fun bud dflt kind pc nx a b L S G => ai_load ai_lng n.val nx L S G
  | .aload n => fun bud dflt kind pc nx a b L S G => ai_load ai_ref n nx L S G
  | .aload_n n => fun bud dflt kind pc nx a b L S G => ai_load ai_ref n.val nx L S G
  | .istore n => fun bud dflt kind pc nx a b L S G => ai_stor ai_int n nx L S G
  | .istore_n n => fun bud dflt kind pc nx a b L S G => ai_stor ai_int n.val nx L S G
  | .astore n => fun bud dflt kind pc nx a b L S G => ai_stor ai_ref n nx L S G
  | .astore_n n => fun bud dflt kind pc nx a b L S G => ai_stor ai_ref n.val nx L S G
  | .lstore n => fun bud dflt kind pc nx a b L S G => ai_stol n nx L S G
  | .lstore_n n => fun bud dflt kind pc nx a b L S G => ai_stol n.val nx L S G
  | .iinc n k => fun bud dflt kind pc nx a b L S G => match ai_lget L n with
    | .inl x => match G with
      | (E, h, c, s) => match ai_bin E 0 x (0, k) with
        | (z, E) => match Nat.blt n L.length with
          | true => ai_go nx (ai_lset L n (.inl z)) S (E, h, c, s)
          | false => none
    | _ => none
  | .iadd => fun bud dflt kind pc nx a b L S G => ai_s2 0 nx L S G
  | .isub => fun bud dflt kind pc nx a b L S G => ai_s2 1 nx L S G
  | .imul => fun bud dflt kind pc nx a b L S G => ai_s2 2 nx L S G
  | .idiv => fun bud dflt kind pc nx a b L S G => match S with
    | .inl y :: _ => match ai_nz G.1 y with
      | true => ai_s2 3 nx L S G
      | false => none
    | _ => none
  | .irem => fun bud dflt kind pc nx a b L S G => match S with
    | .inl y :: _ => match ai_nz G.1 y with
      | true => ai_s2 4 nx L S G
      | false => none
    | _ => none
  | .iand => fun bud dflt kind pc nx a b L S G => ai_s2 5 nx L S G
  | .ior => fun bud dflt kind pc nx a b L S G => ai_s2 6 nx L S G
  | .ixor => fun bud dflt kind pc nx a b L S G => ai_s2 7 nx L S G
  | .ishl => fun bud dflt kind pc nx a b L S G => ai_s2 8 nx L S G
  | .ishr => fun bud dflt kind pc nx a b L S G => ai_s2 9 nx L S G
  | .iushr => fun bud dflt kind pc nx a b L S G => ai_s2 10 nx L S G
  | .ineg => fun bud dflt kind pc nx a b L S G => match S with
    | .inl y :: S => ai_s2 1 nx L (.inl y :: .inl (0, 0) :: S) G
    | _ => none
  | .ladd => fun bud dflt kind pc nx a b L S G => ai_l2 20 nx L S G
  | .lsub => fun bud dflt kind pc nx a b L S G => ai_l2 21 nx L S G
  | .lmul => fun bud dflt kind pc nx a b L S G => ai_l2 22 nx L S G
  | .ldiv => fun bud dflt kind pc nx a b L S G => match S with
    | .inr (.inl y) :: _ => match ai_nz G.1 y with
      | true => ai_l2 23 nx L S G
      | false => none
    | _ => none
  | .lrem => fun bud dflt kind pc nx a b L S G => match S with
    | .inr (.inl y) :: _ => match ai_nz G.1 y with
      | true => ai_l2 24 nx L S G
      | false => none
    | _ => none
  | .lneg => fun bud dflt kind pc nx a b L S G => match S with
    | .inr (.inl y) :: S => ai_l2 21 nx L (.inr (.inl y) :: .inr (.inl (0, 0)) :: S) G
    | _ => none
  | .lcmp => fun bud dflt kind pc nx a b L S G => match S with
    | .inr (.inl y) :: .inr (.inl x) :: S => match G with
      | (E, h, c, s) => match ai_bin E 25 x y with
        | (z, E) => ai_go nx L (.inl z :: S) (E, h, c, s)
    | _ => none
  | .i2l => fun bud dflt kind pc nx a b L S G => match S with
    | .inl x :: S => ai_go nx L (.inr (.inl x) :: S) G
    | _ => none
  | .l2i => fun bud dflt kind pc nx a b L S G => match S with
    | .inr (.inl x) :: S => match G with
      | (E, h, c, s) => match ai_l2i E x with
        | (z, E) => ai_go nx L (.inl z :: S) (E, h, c, s)
    | _ => none
  | .i2s => fun bud dflt kind pc nx a b L S G => match S with
    | .inl x :: S => match G with
      | (E, h, c, s) => match ai_i2s E x with
        | (z, E) => ai_go nx L (.inl z :: S) (E, h, c, s)
    | _ => none
  | .lookupswitch d ps => fun bud dflt kind pc nx a b L S G => ai_lsw d ps.toList pc L S G
  | .dup => fun bud dflt kind pc nx a b L S G => match S with
    | v :: S => match ai_one v with
      | false => none
      | true => ai_go nx L (v :: v :: S) G
    | _ => none
  | .dup2 => fun bud dflt kind pc nx a b L S G => match S with
    | v :: S => match ai_lng v with
      | true => ai_go nx L (v :: v :: S) G
      | false => match S with
        | w :: S => match ai_one v, ai_one w with
          | true, true => ai_go nx L (v :: w :: v :: w :: S) G
          | _, _ => none
        | _ => none
    | _ => none
  | .pop => fun bud dflt kind pc nx a b L S G => match S with
    | v :: S => match ai_one v with
      | false => none
      | true => ai_go nx L S G
    | _ => none
  | .goto _ => fun bud dflt kind pc nx a b L S G => ai_go a L S G
  | .ifCond o _ => fun bud dflt kind pc nx a b L S G => match S with
    | .inl x :: S => ai_branch (ai_cno o) a nx x (0, 0) L S G
    | _ => none
  | .if_icmp o _ => fun bud dflt kind pc nx a b L S G => match S with
    | .inl y :: .inl x :: S => ai_branch (ai_cno o) a nx x y L S G
    | _ => none
  | .tableswitch d lo hi offs => fun bud dflt kind pc nx a b L S G => ai_tsw d lo hi offs.toList pc L S G
  | .getfield _ => fun bud dflt kind pc nx a b L S G => ai_getf a b nx L S G
  | .putfield _ => fun bud dflt kind pc nx a b L S G => ai_putf kind a b nx L S G
  | .iaload => fun bud dflt kind pc nx a b L S G => ai_read 0 nx L S G
  | .laload => fun bud dflt kind pc nx a b L S G => ai_read 1 nx L S G
  | .baload => fun bud dflt kind pc nx a b L S G => ai_read 2 nx L S G
  | .iastore => fun bud dflt kind pc nx a b L S G => ai_writ 0 nx L S G
  | .lastore => fun bud dflt kind pc nx a b L S G => ai_writ 1 nx L S G
  | .bastore => fun bud dflt kind pc nx a b L S G => ai_writ 2 nx L S G
  | .aaload => fun bud dflt kind pc nx a b L S G => ai_aget nx L S G
  | .aastore => fun bud dflt kind pc nx a b L S G => ai_aput nx L S G
  | .arraylength => fun bud dflt kind pc nx a b L S G => ai_alen nx L S G
  | .new _ => fun bud dflt kind pc nx a b L S G => match Nat.ble 2000 a with
    | true => match S with
      | [] => match G with
        | (_, _, c, s) => match Nat.ble (c + 1) bud.1, Nat.ble (s + 6) bud.2 with
          | true, true => some (.inr (.inr (.inl (Nat.sub a 2000))))
          | _, _ => none
      | _ :: _ => none
    | false => match dflt a with
      | fs => ai_make bud (.inl (a, fs)) fs.length nx L S G
  | .newarray _ => fun bud dflt kind pc nx a b L S G => match S with
    | .inl (0, .ofNat n) :: S => match Nat.blt n 1000000 with
      | true => ai_make bud (.inr (.inl (a, n, 0, 0, []))) n nx L S G
      | false => none
    | _ => none
  | .anewarray _ => fun bud dflt kind pc nx a b L S G => match S with
    | .inl (0, .ofNat n) :: S => match Nat.blt n 1000000 with
      | true => ai_make bud (.inr (.inr (a, List.replicate n none))) n nx L S G
      | false => none
    | _ => none
  | .multianewarray _ _ => fun bud dflt kind pc nx a b L S G => ai_mult bud nx L S G
  | .invokevirtual _ => fun bud dflt kind pc nx a b L S G => match Nat.blt a 1000 with
    | true => ai_vcall a (Nat.mod b 64) (Nat.div b 64) nx S G.2.1
    | false => none
  | .invokespecial _ => fun bud dflt kind pc nx a b L S G => match Nat.beq a 1004 with
    | true => match S with
      | .inr (.inr (some (some _))) :: S => match Nat.ble (ai_words S) 40 with
        | true => ai_go nx L S G
        | false => none
      | _ => none
    | false => match Nat.blt a 1000 with
      | true => ai_icall a b nx S
      | false => none
  | .invokestatic _ => fun bud dflt kind pc nx a b L S G => match Nat.blt a 1000 with
    | true => ai_call a b nx S
    | false => match ai_room bud S G with
      | true => match Nat.sub a 1000 with
        | 0 => ai_s2 11 nx L S G
        | 1 => ai_s2 12 nx L S G
        | 2 => match S with
          | .inl x :: S => ai_s2 13 nx L (.inl (0, 0) :: .inl x :: S) G
          | _ => none
        | 3 => match S with
          | .inr (.inl x) :: S => ai_l2 26 nx L (.inr (.inl (0, 0)) :: .inr (.inl x) :: S) G
          | _ => none
        | 5 => ai_copyx nx L S G
        | _ => none
      | false => none
  | .ireturn => fun bud dflt kind pc nx a b L S G => match S with
    | [.inl x] => match a with
      | 2 => match ai_bit G.1 x with
        | true => ai_fin bud G (.inr (some (.inl x)))
        | false => none
      | _ => ai_fin bud G (.inr (some (.inl x)))
    | _ => none
  | .lreturn => fun bud dflt kind pc nx a b L S G => match S with
    | [.inr (.inl x)] => ai_fin bud G (.inr (some (.inr (.inl x))))
    | _ => none
  | .areturn => fun bud dflt kind pc nx a b L S G => match S with
    | [.inr (.inr (some (some r)))] => ai_fin bud G (.inr (some (.inr (.inr (some (some r))))))
    | _ => none
  | .return_ => fun bud dflt kind pc nx a b L S G => match S with
    | [] => ai_fin bud G (.inr none)
    | _ => none
  | _ => fun _ _ _ _ _ _ _ _ _ _ => none
/-! RUNNING: a state may be made wider at a marked place (the head of a loop); behind it a state at the same place must be within the wider one, its measure nearer the end -/
/-- what is made wider: locals (place, bounds), locals that are forgotten, fields (cell, place, bounds), arrays (cell, bounds); the measure: a local, whether it grows -/
abbrev ai_A : Type := List (Nat × Int × Int) × List Nat × List (Nat × Nat × Int × Int) × List (Nat × Int × Int × List (Nat × Int)) × Nat × Bool
/-- a loop that is under way: its place, the first of its own symbols, the measure's symbol, whether it grows, the wider state -/
abbrev ai_P : Type := Nat × Nat × Nat × Bool × List ai_V × List ai_V × ai_G
abbrev ai_Q : Type := Option (List (ai_R × ai_G))
noncomputable def ai_genL : List (Nat × Int × Int) → ai_E → List ai_V → ai_E × List ai_V
  | [], E, L => (E, L)
  | (i, lo, hi) :: l, E, L => match ai_new E (lo, hi) with
    | (z, E) => ai_genL l E (ai_lset L i (.inl z))
noncomputable def ai_genU : List Nat → List ai_V → List ai_V
  | [], L => L
  | i :: l, L => ai_genU l (ai_lset L i (.inr (.inr none)))
noncomputable def ai_genF : List (Nat × Nat × Int × Int) → ai_E → ai_H → Option (ai_E × ai_H)
  | [], E, h => some (E, h)
  | (r, k, lo, hi) :: l, E, h => match ai_new E (lo, hi) with
    | (z, E) => match ai_cell h r with
      | some (.inl (ci, fs)) => match ai_put h r (.inl (ci, ai_setv fs k (.inl z))) with
        | some h => ai_genF l E h
        | none => none
      | _ => none
noncomputable def ai_kp : List (Nat × Int) → List (ai_X × ai_X)
  | [] => []
  | (j, v) :: l => ((0, .ofNat j), (0, v)) :: ai_kp l
noncomputable def ai_genA : List (Nat × Int × Int × List (Nat × Int)) → ai_H → Option ai_H
  | [], h => some h
  | (r, lo, hi, kp) :: l, h => match ai_cell h r with
    | some (.inr (.inl (ty, n, _))) => match ai_put h r (.inr (.inl (ty, n, lo, hi, ai_kp kp))) with
      | some h => ai_genA l h
      | none => none
    | _ => none
noncomputable def ai_gen (A : ai_A) (L : List ai_V) (G : ai_G) : Option (List ai_V × ai_G) := match G with
  | (E, h, c, s) => match ai_genL A.1 E L with
    | (E, L) => match ai_genF A.2.2.1 E h with
      | none => none
      | some (E, h) => match ai_genA A.2.2.2.1 h with
        | none => none
        | some h => some (ai_genU A.2.1 L, (E, h, c, s))
abbrev ai_Y : Type := List (Nat × ai_X)
noncomputable def ai_ylook (y : ai_Y) (u : Nat) : Option ai_X := List.rec (motive := fun _ => Option ai_X) none (fun q _ ih => Prod.rec (motive := fun _ => Option ai_X) (fun t x => Bool.rec (motive := fun _ => Option ai_X) ih (some x) (Nat.beq t u)) q) y
theorem ai_ylook_c {t u : Nat} {x : ai_X} {l : ai_Y} : ai_ylook ((t, x) :: l) u = (match Nat.beq t u with
    | true => some x
    | false => ai_ylook l u) := by
  show Bool.rec (motive := fun _ => Option ai_X) (ai_ylook l u) (some x) (Nat.beq t u) = _
  cases Nat.beq t u <;> rfl
/-- a number within the wider state's: old symbols are the same, new ones stand for what is there now -/
noncomputable def ai_mx (base : Nat) (E : ai_E) (B : List (Nat × Int × Int)) (y : ai_Y) (x w : ai_X) : Option ai_Y := match Nat.blt w.1 base with
  | true => match ai_xeq x w with
    | true => some y
    | false => none
  | false => match ai_eq w.2 0 with
    | false => none
    | true => match ai_ylook y w.1 with
      | some z => match ai_xeq x z with
        | true => some y
        | false => none
      | none => match ai_iv E x, ai_look B w.1 with
        | (a, b), (c, d) => match ai_le c a, ai_le b d, ai_le ai_lo64 a, ai_le b ai_hi64, Nat.blt x.1 E.1 with
          | true, true, true, true, true => some ((w.1, x) :: y)
          | _, _, _, _, _ => none
noncomputable def ai_mv (base : Nat) (E : ai_E) (B : List (Nat × Int × Int)) (y : ai_Y) (v w : ai_V) : Option ai_Y := match w with
  | .inr (.inr none) => some y
  | .inl u => match v with
    | .inl x => ai_mx base E B y x u
    | _ => none
  | .inr (.inl u) => match v with
    | .inr (.inl x) => ai_mx base E B y x u
    | _ => none
  | .inr (.inr (some none)) => match v with
    | .inr (.inr (some none)) => some y
    | _ => none
  | .inr (.inr (some (some r))) => match v with
    | .inr (.inr (some (some q))) => match Nat.beq q r with
      | true => some y
      | false => none
    | _ => none
noncomputable def ai_mvs (base : Nat) (E : ai_E) (B : List (Nat × Int × Int)) : ai_Y → List ai_V → List ai_V → Option ai_Y
  | y, [], [] => some y
  | y, v :: l, w :: m => match ai_mv base E B y v w with
    | some y => ai_mvs base E B y l m
    | none => none
  | _, _, _ => none
noncomputable def ai_mos (base : Nat) (E : ai_E) (B : List (Nat × Int × Int)) : ai_Y → List (ai_X × ai_X) → List (ai_X × ai_X) → Option ai_Y
  | y, [], [] => some y
  | y, (i, v) :: l, (j, w) :: m => match ai_mx base E B y i j with
    | none => none
    | some y => match ai_mx base E B y v w with
      | some y => ai_mos base E B y l m
      | none => none
  | _, _, _ => none
noncomputable def ai_within (E : ai_E) (lo hi : Int) : List (ai_X × ai_X) → Bool
  | [] => true
  | (_, v) :: l => match ai_iv E v with
    | (a, b) => match ai_le lo a, ai_le b hi with
      | true, true => ai_within E lo hi l
      | _, _ => false
noncomputable def ai_mrs : List (Option Nat) → List (Option Nat) → Bool
  | [], [] => true
  | none :: l, none :: m => ai_mrs l m
  | some a :: l, some b :: m => match Nat.beq a b with
    | true => ai_mrs l m
    | false => false
  | _, _ => false
/-- places of an array whose numbers are known, and stay -/
noncomputable def ai_keeps (E : ai_E) (lo hi : Int) (l : List (ai_X × ai_X)) : List (ai_X × ai_X) → Bool
  | [] => true
  | ((0, .ofNat k), (0, w)) :: m => match ai_kget E lo hi (0, .ofNat k) l with
    | .inl z => match ai_xeq z (0, w) with
      | true => ai_keeps E lo hi l m
      | false => false
    | .inr _ => false
  | _ :: _ => false
noncomputable def ai_mc (base : Nat) (E : ai_E) (B : List (Nat × Int × Int)) (y : ai_Y) : Option ai_C → Option ai_C → Option ai_Y
  | none, none => some y
  | some (.inl (ci, fs)), some (.inl (cj, gs)) => match Nat.beq ci cj with
    | true => ai_mvs base E B y fs gs
    | false => none
  | some (.inr (.inl (ty, n, lo, hi, l))), some (.inr (.inl (tz, k, lo', hi', m))) => match Nat.beq ty tz, Nat.beq n k, ai_le lo' lo, ai_le hi hi' with
    | true, true, true, true => match m with
      | [] => match ai_within E lo' hi' l with
        | true => some y
        | false => none
      | _ :: _ => match ai_mos base E B y l m with
        | some y => some y
        | none => match Nat.blt 0 base, ai_keeps E lo hi l m, ai_within E lo' hi' l with
          | true, true, true => some y
          | _, _, _ => none
    | _, _, _, _ => none
  | some (.inr (.inr (ty, l))), some (.inr (.inr (tz, m))) => match Nat.beq ty tz, ai_mrs l m with
    | true, true => some y
    | _, _ => none
  | _, _ => none
noncomputable def ai_mt (base : Nat) (E : ai_E) (B : List (Nat × Int × Int)) : (d : Nat) → ai_Y → ai_T (Option ai_C) d → ai_T (Option ai_C) d → Option ai_Y
  | 0, y, a, b => ai_mc base E B y a b
  | d + 1, y, a, b => match ai_mt base E B d y a.1 b.1 with
    | some y => ai_mt base E B d y a.2 b.2
    | none => none
noncomputable def ai_in (base : Nat) (L S : List ai_V) (G : ai_G) (L' S' : List ai_V) (G' : ai_G) : Option ai_Y := match G, G' with
  | (E, (n, t), c, s), (E', (n', t'), c', s') => match Nat.beq n n', Nat.beq c c', Nat.beq s s' with
    | true, true, true => match ai_mvs base E E'.2.1 [] L L' with
      | none => none
      | some y => match ai_mvs base E E'.2.1 y S S' with
        | none => none
        | some y => ai_mt base E E'.2.1 9 y t t'
    | _, _, _ => none
noncomputable def ai_act : List ai_P → Nat → Option ai_P
  | [], _ => none
  | a :: l, pc => match Nat.beq a.1 pc with
    | true => some a
    | false => ai_act l pc
noncomputable def ai_near (up : Bool) (t : Nat) (y : ai_Y) : Bool := match ai_ylook y t with
  | some (u, c) => match Nat.beq u t with
    | true => match up with
      | true => ai_le 1 c
      | false => ai_le c (-1)
    | false => false
  | none => false
noncomputable def ai_many (go : ai_F → ai_Q) : List ai_F → ai_Q
  | [] => some []
  | f :: l => match l with
    | [] => go f
    | _ :: _ => match go f with
      | none => none
      | some a => match ai_many go l with
        | none => none
        | some b => some (a ++ b)
noncomputable def ai_each (go : ai_R × ai_G → ai_Q) : List (ai_R × ai_G) → ai_Q
  | [] => some []
  | f :: l => match l with
    | [] => go f
    | _ :: _ => match go f with
      | none => none
      | some a => match ai_each go l with
        | none => none
        | some b => some (a ++ b)
/-- every symbol of the wider state stands for something -/
noncomputable def ai_cov (y : ai_Y) (t : Nat) : Nat → Bool
  | 0 => true
  | k + 1 => match ai_ylook y t with
    | some _ => ai_cov y (t + 1) k
    | none => false
noncomputable def ai_mild : List (ai_R × ai_G) → Bool
  | [] => true
  | (x, _) :: l => match x with
    | .inl _ => false
    | .inr _ => ai_mild l
/-- a call that may be: one of a method of an object may throw, others not -/
noncomputable def ai_calm (i : ClassFile.Instr) (outs : List (ai_R × ai_G)) : Bool := match i with
  | .invokevirtual _ => true
  | .invokespecial _ => ai_mild outs
  | .invokestatic _ => ai_mild outs
  | _ => false
noncomputable def ai_ends (i : ClassFile.Instr) : Bool := match i with
  | .ireturn => true
  | .lreturn => true
  | .areturn => true
  | .return_ => true
  | .new _ => true
  | _ => false
noncomputable def ai_base (G : ai_G) : Nat := G.1.1
/-- a mark: what is made wider there; a local that is cut off at a number (behind it the mark is passed by); locals that must hold certain cells, else it is passed by -/
abbrev ai_AA : Type := ai_A × Option (Nat × Int) × List (Nat × Nat) × List (Nat × Int)
noncomputable def ai_guard (L : List ai_V) : List (Nat × Nat) → Bool
  | [] => true
  | (i, r) :: l => match ai_lget L i with
    | .inr (.inr (some (some q))) => match Nat.beq q r with
      | true => ai_guard L l
      | false => false
    | _ => false
/-- none of these locals is that number -/
noncomputable def ai_nots (L : List ai_V) : List (Nat × Int) → Bool
  | [] => true
  | (i, v) :: l => match ai_lget L i with
    | .inl (0, c) => match ai_eq c v with
      | true => false
      | false => ai_nots L l
    | _ => ai_nots L l
noncomputable def ai_past (act : List ai_P) (pc : Nat) (L : List ai_V) (cut : Option (Nat × Int)) : Bool := match cut with
  | none => false
  | some (i, _) => match Nat.blt i 1000 with
    | true => match ai_lget L i with
      | .inl (0, _) => match ai_act act pc with
        | some _ => true
        | none => false
      | _ => false
    | false => match ai_lget L (i - 1000) with
      | .inl (0, _) => true
      | _ => false
noncomputable def ai_pick (o : Option ai_AA) (skip : Bool) (act : List ai_P) (pc : Nat) (L : List ai_V) : Option ai_AA := match o with
  | none => none
  | some q => match skip with
    | true => none
    | false => match ai_guard L q.2.2.1, ai_nots L q.2.2.2 with
      | true, true => match ai_past act pc L q.2.1 with
        | true => none
        | false => some q
      | _, _ => none
noncomputable def ai_again (act : List ai_P) (pc : Nat) (L S : List ai_V) (G : ai_G) : Bool := match ai_act act pc with
  | none => false
  | some (_, base, t, up, L', S', G') => match ai_in base L S G L' S' G' with
    | some y => ai_near up t y
    | none => false
noncomputable def ai_opt (o : Option ai_E) (pc : Nat) (L S : List ai_V) (h : ai_H × Nat × Nat) : List ai_F := match o with
  | some E => [(pc, L, S, (E, h))]
  | none => []
/-- a local's numbers one by one -/
noncomputable def ai_enum (E : ai_E) (x : ai_X) (i pc : Nat) (L S : List ai_V) (h : ai_H × Nat × Nat) : Nat → Int → List ai_F
  | 0, _ => []
  | n + 1, u => ai_opt (ai_same E x (0, u)) pc (ai_setv L i (.inl (0, u))) S h ++ ai_enum E x i pc L S h n (u + 1)
/-- a cut of a local (by 1000 more: below 0, above the number, each from 0 to it) -/
noncomputable def ai_slit (cut : Option (Nat × Int)) (pc : Nat) (L S : List ai_V) (G : ai_G) : List ai_F := match cut with
  | none => [(pc, L, S, G)]
  | some (i, v) => match Nat.blt i 1000 with
    | true => match ai_getv L i with
      | some (.inl x) => match G with
        | (E, h) => ai_opt (ai_same E x (0, v)) pc (ai_setv L i (.inl (0, v))) S h ++ ai_opt (ai_differ E x (0, v)) pc L S h
      | _ => [(pc, L, S, G)]
    | false => match ai_getv L (i - 1000) with
      | some (.inl x) => match G with
        | (E, h) => ai_opt (ai_leq E x (0, 0) (-1)) pc L S h ++ (ai_opt (ai_leq E (0, v) x (-1)) pc L S h ++ ai_enum E x (i - 1000) pc L S h (v.toNat + 1) 0)
      | _ => [(pc, L, S, G)]
noncomputable def ai_run (code : Nat → Option (ClassFile.Instr × Nat × Nat × Nat)) (hand : Nat → Nat → Option (Nat × Nat)) (bud : Nat × Nat) (cbud : Nat → Nat × Nat) (dflt : Nat → List ai_V) (kind : Nat → Nat → Nat) (callee : Nat → List ai_V → ai_G → ai_Q) (ann : Nat → Option ai_AA) : Nat → List ai_P → Bool → Nat → List ai_V → List ai_V → ai_G → ai_Q
  | 0, _, _, _, _, _, _ => none
  | n + 1, act, skip, pc, L, S, G => match ai_pick (ann pc) skip act pc L with
    | some (A, cut, _) => match ai_again act pc L S G with
      | true => some []
      | false => match ai_gen A L G with
        | none => none
        | some (L', G') => match ai_in (ai_base G) L S G L' S G' with
          | none => none
          | some y => match ai_cov y (ai_base G) (Nat.sub G'.1.1 (ai_base G)) with
            | false => none
            | true => match ai_lget L' A.2.2.2.2.1 with
              | .inl (t, 0) => ai_many (fun f => ai_run code hand bud cbud dflt kind callee ann n ((pc, ai_base G, t, A.2.2.2.2.2, L', S, G') :: act) true f.1 f.2.1 f.2.2.1 f.2.2.2) (ai_slit cut pc L' S G')
              | _ => none
    | none => match code pc with
      | none => none
      | some (i, len, a, b) => match ai_step i bud dflt kind pc (pc + len) a b L S G with
        | none => none
        | some (.inl fs) => ai_many (fun f => ai_run code hand bud cbud dflt kind callee ann n act false f.1 f.2.1 f.2.2.1 f.2.2.2) fs
        | some (.inr (.inl (mi, args, S', pc'))) => match G with
          | (E, h, c, s) => match cbud mi with
            | (bc, bs) => match Nat.ble (c + bc) bud.1, Nat.ble (s + bs) bud.2 with
              | true, true => match callee mi args (E, h, 0, 0) with
                | none => none
                | some outs => match ai_calm i outs with
                  | false => none
                  | true => ai_each (fun f => match f with
                    | (r, (E, h, _, _)) => match r with
                      | .inr none => ai_run code hand bud cbud dflt kind callee ann n act false pc' L S' (E, h, c + bc, s + bs)
                      | .inr (some v) => ai_run code hand bud cbud dflt kind callee ann n act false pc' L (v :: S') (E, h, c + bc, s + bs)
                      | .inl e => match hand pc e with
                        | some (k, pcn) => ai_run code hand bud cbud dflt kind callee ann n act false pcn (ai_lset L k (.inr (.inr none))) [] (E, h, c + bc, s + bs)
                        | none => some [(.inl e, (E, h, c + bc, s + bs))]) outs
              | _, _ => none
        | some (.inr (.inr r)) => match ai_ends i with
          | true => some [(r, G)]
          | false => none
/-- a method: its number of locals, code, handlers, room, marked places -/
abbrev ai_M : Type := Nat × (Nat → Option (ClassFile.Instr × Nat × Nat × Nat)) × (Nat → Nat → Option (Nat × Nat)) × (Nat × Nat) × (Nat → Option ai_AA)
noncomputable def ai_pad : Nat → List ai_V → Option (List ai_V)
  | 0, [] => some []
  | 0, _ :: _ => none
  | n + 1, [] => match ai_pad n [] with
    | some l => some (.inr (.inr none) :: l)
    | none => none
  | n + 1, v :: l => match ai_pad n l, ai_one v with
    | some l, true => some (v :: l)
    | _, _ => none
noncomputable def ai_meth (prog : Nat → Option ai_M) (cbud : Nat → Nat × Nat) (dflt : Nat → List ai_V) (kind : Nat → Nat → Nat) (fuel : Nat) : Nat → Nat → List ai_V → ai_G → ai_Q
  | 0, _, _, _ => none
  | d + 1, mi, args, G => match prog mi with
    | none => none
    | some (nl, code, hand, bud, ann) => match ai_pad nl args with
      | none => none
      | some L => ai_run code hand bud cbud dflt kind (ai_meth prog cbud dflt kind fuel d) ann fuel [] false 0 L [] G
noncomputable def ai_seek (pc : Nat) : List ai_I → Option (ClassFile.Instr × Nat × Nat × Nat)
  | [] => none
  | (q, i) :: l => match Nat.beq q pc with
    | true => some i
    | false => ai_seek pc l
noncomputable def ai_code (d : Nat) (t : ai_T (List ai_I) d) (pc : Nat) : Option (ClassFile.Instr × Nat × Nat × Nat) := ai_seek pc (ai_tget d t (Nat.div pc 16))
noncomputable def ai_hand (l : List (Nat × Nat × Nat × Nat × Nat)) (pc e : Nat) : Option (Nat × Nat) := match l with
  | [] => none
  | (a, b, x, k, q) :: l => match Nat.ble a pc, Nat.blt pc b, Nat.beq x e with
    | true, true, true => some (k, q)
    | _, _, _ => ai_hand l pc e
noncomputable def ai_mark (l : List (Nat × ai_AA)) (pc : Nat) : Option ai_AA := match l with
  | [] => none
  | (q, A) :: l => match Nat.beq q pc with
    | true => some A
    | false => ai_mark l pc
