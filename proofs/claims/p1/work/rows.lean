section
/-! THE DOMAIN: an interpreter of the claim's bytecode over symbolic ints with bounds. A value of ints is a symbol and an offset (symbol 0 is 0); cells are numbered. -/
noncomputable def ai_T (α : Type) : Nat → Type
  | 0 => α
  | d + 1 => ai_T α d × ai_T α d
noncomputable def ai_nd {α : Type} (d : Nat) (a b : ai_T α d) : ai_T α (d + 1) := (a, b)
noncomputable def ai_tnew {α : Type} (v : α) : (d : Nat) → ai_T α d
  | 0 => v
  | d + 1 => (ai_tnew v d, ai_tnew v d)
noncomputable def ai_tget {α : Type} : (d : Nat) → ai_T α d → Nat → α
  | 0, t, _ => t
  | d + 1, t, k => match Nat.mod k 2 with
    | 0 => ai_tget d t.1 (Nat.div k 2)
    | _ + 1 => ai_tget d t.2 (Nat.div k 2)
noncomputable def ai_tset {α : Type} : (d : Nat) → ai_T α d → Nat → α → ai_T α d
  | 0, _, _, v => v
  | d + 1, t, k, v => match t with
    | (a, b) => match Nat.mod k 2 with
      | 0 => (ai_tset d a (Nat.div k 2) v, b)
      | _ + 1 => (a, ai_tset d b (Nat.div k 2) v)
noncomputable def ai_tall {α : Type} (p : α → Bool) : (d : Nat) → ai_T α d → Bool
  | 0, t => p t
  | d + 1, t => match ai_tall p d t.1 with
    | true => ai_tall p d t.2
    | false => false
abbrev ai_X : Type := Nat × Int
abbrev ai_V : Type := ai_X ⊕ (ai_X ⊕ Option (Option Nat))
abbrev ai_K : Type := Int × Int × List (ai_X × ai_X)
abbrev ai_C : Type := (Nat × List ai_V) ⊕ ((Nat × Nat × ai_K) ⊕ (Nat × List (Option Nat)))
abbrev ai_D : Type := Nat × Nat × ai_X × ai_X
abbrev ai_E : Type := Nat × List (Nat × Int × Int) × List ai_D
abbrev ai_H : Type := Nat × ai_T (Option ai_C) 9
abbrev ai_G : Type := ai_E × ai_H × Nat × Nat
abbrev ai_I : Type := Nat × ClassFile.Instr × Nat × Nat × Nat
abbrev ai_R : Type := Nat ⊕ Option ai_V
/-- whole numbers, by their signs -/
noncomputable def ai_le (a b : Int) : Bool := match b - a with
  | .ofNat _ => true
  | .negSucc _ => false
noncomputable def ai_eq : Int → Int → Bool
  | .ofNat a, .ofNat b => Nat.beq a b
  | .negSucc a, .negSucc b => Nat.beq a b
  | _, _ => false
noncomputable def ai_min (a b : Int) : Int := match ai_le a b with
  | true => a
  | false => b
noncomputable def ai_max (a b : Int) : Int := match ai_le a b with
  | true => b
  | false => a
noncomputable def ai_xeq : ai_X → ai_X → Bool
  | (t, c), (u, d) => match Nat.beq t u with
    | true => ai_eq c d
    | false => false
noncomputable def ai_lo32 : Int := -2147483648
noncomputable def ai_hi32 : Int := 2147483647
noncomputable def ai_lo64 : Int := -9223372036854775808
noncomputable def ai_hi64 : Int := 9223372036854775807
/-- the bounds of a symbol -/
noncomputable def ai_look : List (Nat × Int × Int) → Nat → Int × Int
  | [], _ => (ai_lo64, ai_hi64)
  | (u, lo, hi) :: l, t => match Nat.beq u t with
    | true => (lo, hi)
    | false => ai_look l t
noncomputable def ai_iv (E : ai_E) : ai_X → Int × Int
  | (0, c) => (c, c)
  | (t + 1, c) => match ai_look E.2.1 (t + 1) with
    | (lo, hi) => (lo + c, hi + c)
noncomputable def ai_abs (a : Int) : Int := match a with
  | .ofNat n => .ofNat n
  | .negSucc n => .ofNat (n + 1)
/-- what an instruction does, on whole numbers: 0 +, 1 -, 2 *, 3 /, 4 %, 5 &, 6 |, 7 ^, 8 <<, 9 >>, 10 >>>, 11 max, 12 min; from 20 on of longs: 20 +, 21 -, 22 *, 23 /, 24 %, 25 compare -/
noncomputable def ai_op : Nat → Int → Int → Int
  | 0, a, b => (a + b).bmod 4294967296
  | 1, a, b => (a - b).bmod 4294967296
  | 2, a, b => (a * b).bmod 4294967296
  | 3, a, b => (a.tdiv b).bmod 4294967296
  | 4, a, b => (a - a.tdiv b * b).bmod 4294967296
  | 5, a, b => (Int32.ofInt a &&& Int32.ofInt b).toInt
  | 6, a, b => (Int32.ofInt a ||| Int32.ofInt b).toInt
  | 7, a, b => (Int32.ofInt a ^^^ Int32.ofInt b).toInt
  | 8, a, b => (Int32.ofInt a <<< (Int32.ofInt b &&& 31)).toInt
  | 9, a, b => (Int32.ofInt a >>> (Int32.ofInt b &&& 31)).toInt
  | 10, a, b => ((Int32.ofInt a).toUInt32 >>> ((Int32.ofInt b).toUInt32 &&& Int32.toUInt32 31)).toInt32.toInt
  | 11, a, b => ai_max a b
  | 12, a, b => ai_min a b
  | 13, a, _ => (ai_abs a).bmod 4294967296
  | 26, a, _ => (ai_abs a).bmod 18446744073709551616
  | 20, a, b => (a + b).bmod 18446744073709551616
  | 21, a, b => (a - b).bmod 18446744073709551616
  | 22, a, b => (a * b).bmod 18446744073709551616
  | 23, a, b => (a.tdiv b).bmod 18446744073709551616
  | 24, a, b => (a - a.tdiv b * b).bmod 18446744073709551616
  | 25, a, b => match ai_eq a b with
    | true => 0
    | false => match ai_le a b with
      | true => -1
      | false => 1
  | _, _, _ => 0
/-- bounds that are kept if they fit, else all -/
noncomputable def ai_fit (b : Bool) (lo hi : Int) : Int × Int := match b with
  | false => match ai_le ai_lo32 lo with
    | false => (ai_lo32, ai_hi32)
    | true => match ai_le hi ai_hi32 with
      | false => (ai_lo32, ai_hi32)
      | true => (lo, hi)
  | true => match ai_le ai_lo64 lo with
    | false => (ai_lo64, ai_hi64)
    | true => match ai_le hi ai_hi64 with
      | false => (ai_lo64, ai_hi64)
      | true => (lo, hi)
/-- the least 2^k - 1 that is no less -/
noncomputable def ai_full (a : Int) : Int := match a with
  | .ofNat n => .ofNat (2 ^ (Nat.log2 n + 1) - 1)
  | .negSucc _ => ai_hi32
/-- bounds of what comes out -/
noncomputable def ai_rmul (w : Bool) (a b c d : Int) : Int × Int := ai_fit w (ai_min (ai_min (a * c) (a * d)) (ai_min (b * c) (b * d))) (ai_max (ai_max (a * c) (a * d)) (ai_max (b * c) (b * d)))
noncomputable def ai_rdiv (w : Bool) (a b c : Int) : Int × Int := match ai_le 0 a, ai_le 1 c with
  | true, true => (0, b)
  | _, _ => match ai_max (ai_abs a) (ai_abs b) with
    | m => ai_fit w (-m) m
noncomputable def ai_rrem (w : Bool) (a b c d : Int) : Int × Int := match ai_le 0 a with
  | true => match ai_le 1 c with
    | true => (0, ai_min b (d - 1))
    | false => (0, b)
  | false => match ai_le 1 c with
    | true => ai_fit w (1 - d) (d - 1)
    | false => match w with
      | true => (ai_lo64, ai_hi64)
      | false => (ai_lo32, ai_hi32)
noncomputable def ai_rand (a b c d : Int) : Int × Int := match ai_le 0 a with
  | true => match ai_le 0 c with
    | true => (0, ai_min b d)
    | false => (0, b)
  | false => match ai_le 0 c with
    | true => (0, d)
    | false => (ai_lo32, ai_hi32)
noncomputable def ai_ror (a b c d : Int) : Int × Int := match ai_le 0 a with
  | true => match ai_le 0 c with
    | true => (0, ai_full (ai_max b d))
    | false => (ai_lo32, ai_hi32)
  | false => (ai_lo32, ai_hi32)
noncomputable def ai_rshr (a b c d : Int) : Int × Int := match ai_eq c d, c with
  | true, .ofNat k => match Nat.blt k 32 with
    | true => (a >>> k, b >>> k)
    | false => (ai_lo32, ai_hi32)
  | _, _ => (ai_lo32, ai_hi32)
noncomputable def ai_rng (o : Nat) (x y : Int × Int) : Int × Int := match o, x, y with
  | 0, (a, b), (c, d) => ai_fit false (a + c) (b + d)
  | 1, (a, b), (c, d) => ai_fit false (a - d) (b - c)
  | 2, (a, b), (c, d) => ai_rmul false a b c d
  | 3, (a, b), (c, _) => ai_rdiv false a b c
  | 4, (a, b), (c, d) => ai_rrem false a b c d
  | 5, (a, b), (c, d) => ai_rand a b c d
  | 6, (a, b), (c, d) => ai_ror a b c d
  | 7, (a, b), (c, d) => ai_ror a b c d
  | 9, (a, b), (c, d) => ai_rshr a b c d
  | 11, (a, b), (c, d) => (ai_max a c, ai_max b d)
  | 12, (a, b), (c, d) => (ai_min a c, ai_min b d)
  | 20, (a, b), (c, d) => ai_fit true (a + c) (b + d)
  | 21, (a, b), (c, d) => ai_fit true (a - d) (b - c)
  | 22, (a, b), (c, d) => ai_rmul true a b c d
  | 23, (a, b), (c, _) => ai_rdiv true a b c
  | 24, (a, b), (c, d) => ai_rrem true a b c d
  | 25, _, _ => (-1, 1)
  | n, _, _ => match Nat.ble 20 n with
    | true => (ai_lo64, ai_hi64)
    | false => (ai_lo32, ai_hi32)
noncomputable def ai_find (o : Nat) (x y : ai_X) : List ai_D → Option Nat
  | [] => none
  | (q, t, u, v) :: l => match Nat.beq o q with
    | false => ai_find o x y l
    | true => match ai_xeq x u with
      | false => ai_find o x y l
      | true => match ai_xeq y v with
        | false => ai_find o x y l
        | true => some t
/-- a new symbol -/
noncomputable def ai_new (E : ai_E) (b : Int × Int) : ai_X × ai_E := match E with
  | (N, l, ds) => ((N, 0), (N + 1, (N, b) :: l, ds))
noncomputable def ai_def (E : ai_E) (o : Nat) (x y : ai_X) (b : Int × Int) : ai_X × ai_E := match ai_find o x y E.2.2 with
  | some t => ((t, 0), E)
  | none => match E with
    | (N, l, ds) => ((N, 0), (N + 1, (N, b) :: l, (o, N, x, y) :: ds))
noncomputable def ai_pm (o : Nat) (c b : Int) : Int := match o with
  | 0 => c + b
  | _ + 1 => c - b
/-- an instruction of two numbers -/
noncomputable def ai_bin (E : ai_E) (o : Nat) (x y : ai_X) : ai_X × ai_E := match x, y with
  | (0, a), (0, b) => ((0, ai_op o a b), E)
  | (0, a), (u + 1, d) => match Nat.beq o 0 with
    | true => match ai_iv E (u + 1, d + a) with
      | (lo, hi) => match ai_le ai_lo32 lo, ai_le hi ai_hi32 with
        | true, true => ((u + 1, d + a), E)
        | _, _ => ai_def E o (0, a) (u + 1, d) (ai_rng o (a, a) (ai_iv E (u + 1, d)))
    | false => ai_def E o (0, a) (u + 1, d) (ai_rng o (a, a) (ai_iv E (u + 1, d)))
  | (t + 1, c), (0, b) => match Nat.ble o 1 with
    | true => match ai_pm o c b with
      | e => match ai_iv E (t + 1, e) with
        | (lo, hi) => match ai_le ai_lo32 lo, ai_le hi ai_hi32 with
          | true, true => ((t + 1, e), E)
          | _, _ => ai_def E o (t + 1, c) (0, b) (ai_rng o (ai_iv E (t + 1, c)) (b, b))
    | false => ai_def E o (t + 1, c) (0, b) (ai_rng o (ai_iv E (t + 1, c)) (b, b))
  | (t + 1, c), (u + 1, d) => ai_def E o (t + 1, c) (u + 1, d) (ai_rng o (ai_iv E (t + 1, c)) (ai_iv E (u + 1, d)))
/-- a bound more for a symbol -/
noncomputable def ai_cap (E : ai_E) (t : Nat) (lo hi : Int) : Option ai_E := match t with
  | 0 => match ai_le lo 0, ai_le 0 hi with
    | true, true => some E
    | _, _ => none
  | _ + 1 => match ai_look E.2.1 t with
    | (a, b) => match ai_max a lo, ai_min b hi with
      | lo', hi' => match ai_le lo' hi' with
        | true => some (E.1, (t, lo', hi') :: E.2.1, E.2.2)
        | false => none
/-- x no more than y + k: what is known then -/
noncomputable def ai_leq (E : ai_E) (x y : ai_X) (k : Int) : Option ai_E := match Nat.beq x.1 y.1 with
  | true => match ai_le x.2 (y.2 + k) with
    | true => some E
    | false => none
  | false => match ai_iv E x, ai_iv E y with
    | (a, b), (c, d) => match ai_le b (c + k) with
      | true => some E
      | false => match ai_cap E x.1 ai_lo64 (d + k - x.2) with
        | none => none
        | some E1 => ai_cap E1 y.1 (a - k - y.2) ai_hi64
noncomputable def ai_same (E : ai_E) (x y : ai_X) : Option ai_E := match ai_leq E x y 0 with
  | none => none
  | some E1 => ai_leq E1 y x 0
/-- a symbol isn't a number: at its bounds' ends -/
noncomputable def ai_off (E : ai_E) (t : Nat) (v : Int) : Option ai_E := match t with
  | 0 => match ai_eq v 0 with
    | true => none
    | false => some E
  | _ + 1 => match ai_look E.2.1 t with
    | (a, b) => match ai_eq a v with
      | true => ai_cap E t (a + 1) ai_hi64
      | false => match ai_eq b v with
        | true => ai_cap E t ai_lo64 (b - 1)
        | false => some E
noncomputable def ai_differ (E : ai_E) (x y : ai_X) : Option ai_E := match Nat.beq x.1 y.1 with
  | true => match ai_eq x.2 y.2 with
    | true => none
    | false => some E
  | false => match x, y with
    | (0, a), (u, d) => ai_off E u (a - d)
    | (t, c), (0, b) => ai_off E t (b - c)
    | _, _ => some E
/-- a comparison that holds: 0 =, 1 ≠, 2 <, 3 ≥, 4 >, 5 ≤ -/
noncomputable def ai_cmp (E : ai_E) (o : Nat) (x y : ai_X) : Option ai_E := match o with
  | 0 => ai_same E x y
  | 1 => ai_differ E x y
  | 2 => ai_leq E x y (-1)
  | 3 => ai_leq E y x 0
  | 4 => ai_leq E y x (-1)
  | _ => ai_leq E x y 0
noncomputable def ai_cno : ClassFile.Cond → Nat
  | .eq => 0
  | .ne => 1
  | .lt => 2
  | .ge => 3
  | .gt => 4
  | .le => 5
noncomputable def ai_inv : Nat → Nat
  | 0 => 1
  | 1 => 0
  | 2 => 3
  | 3 => 2
  | 4 => 5
  | _ => 4
/-- the comparison of two longs whose sign a symbol is -/
noncomputable def ai_lcmp (t : Nat) : List ai_D → Option (ai_X × ai_X)
  | [] => none
  | (o, u, x, y) :: l => match Nat.beq u t with
    | false => ai_lcmp t l
    | true => match Nat.beq o 25 with
      | true => some (x, y)
      | false => ai_lcmp t l
/-- locals -/
noncomputable def ai_lget : List ai_V → Nat → ai_V
  | [], _ => .inr (.inr none)
  | v :: _, 0 => v
  | _ :: l, i + 1 => ai_lget l i
noncomputable def ai_kill : ai_V → ai_V
  | .inr (.inl _) => .inr (.inr none)
  | v => v
noncomputable def ai_lset : List ai_V → Nat → ai_V → List ai_V
  | [], _, _ => []
  | _ :: l, 0, v => v :: l
  | w :: l, 1, v => ai_kill w :: ai_lset l 0 v
  | w :: l, i + 2, v => w :: ai_lset l (i + 1) v
noncomputable def ai_lset2 (L : List ai_V) (i : Nat) (v : ai_V) : List ai_V := ai_lset (ai_lset L (i + 1) (.inr (.inr none))) i v
/-- what stands at a place of an array -/
noncomputable def ai_kget (E : ai_E) (lo hi : Int) (i : ai_X) : List (ai_X × ai_X) → ai_X ⊕ (Int × Int)
  | [] => match ai_eq lo hi with
    | true => .inl (0, lo)
    | false => .inr (lo, hi)
  | (j, v) :: l => match ai_xeq i j with
    | true => .inl v
    | false => match ai_iv E i, ai_iv E j, Nat.beq i.1 j.1 with
      | (a, b), (c, d), q => match q || !(ai_le a d) || !(ai_le c b) with
        | true => ai_kget E lo hi i l
        | false => match ai_kget E lo hi i l with
          | .inl w => match ai_iv E v, ai_iv E w with
            | (a, b), (c, d) => .inr (ai_min a c, ai_max b d)
          | .inr (c, d) => match ai_iv E v with
            | (a, b) => .inr (ai_min a c, ai_max b d)
noncomputable def ai_kdrop (i : ai_X) : List (ai_X × ai_X) → List (ai_X × ai_X)
  | [] => []
  | (j, v) :: l => match ai_xeq i j with
    | true => l
    | false => (j, v) :: ai_kdrop i l
noncomputable def ai_inb (E : ai_E) (i : ai_X) (n : Nat) : Bool := match ai_iv E i with
  | (a, b) => match ai_le 0 a with
    | true => ai_le b (Int.ofNat n - 1)
    | false => false
noncomputable def ai_geta (l : List (Option Nat)) (i : Nat) : Option (Option Nat) := match l, i with
  | [], _ => none
  | v :: _, 0 => some v
  | _ :: l, i + 1 => ai_geta l i
noncomputable def ai_seta : List (Option Nat) → Nat → Option Nat → List (Option Nat)
  | [], _, _ => []
  | _ :: l, 0, v => v :: l
  | w :: l, i + 1, v => w :: ai_seta l i v
noncomputable def ai_getv (l : List ai_V) (i : Nat) : Option ai_V := match l, i with
  | [], _ => none
  | v :: _, 0 => some v
  | _ :: l, i + 1 => ai_getv l i
noncomputable def ai_setv : List ai_V → Nat → ai_V → List ai_V
  | [], _, _ => []
  | _ :: l, 0, v => v :: l
  | w :: l, i + 1, v => w :: ai_setv l i v
/-- cells 0 to 15 are old ones, never written; the others are the world's -/
noncomputable def ai_cell (h : ai_H) (r : Nat) : Option ai_C := ai_tget 9 h.2 r
noncomputable def ai_put (h : ai_H) (r : Nat) (c : ai_C) : Option ai_H := match h with
  | (n, t) => match Nat.ble 16 r, Nat.ble (r + 1) n with
    | true, true => some (n, ai_tset 9 t r (some c))
    | _, _ => none
noncomputable def ai_push (h : ai_H) (c : ai_C) : Option ai_H := match h with
  | (n, t) => match Nat.ble 512 n with
    | false => some (n + 1, ai_tset 9 t n (some c))
    | true => none
abbrev ai_F : Type := Nat × List ai_V × List ai_V × ai_G
abbrev ai_S : Type := List ai_F ⊕ ((Nat × List ai_V × List ai_V × Nat) ⊕ ai_R)
noncomputable def ai_go (pc : Nat) (L S : List ai_V) (G : ai_G) : Option ai_S := some (.inl [(pc, L, S, G)])
noncomputable def ai_s2 (o pc : Nat) (L S : List ai_V) (G : ai_G) : Option ai_S := match S with
  | .inl y :: .inl x :: S => match G with
    | (E, h, c, s) => match ai_bin E o x y with
      | (z, E) => ai_go pc L (.inl z :: S) (E, h, c, s)
  | _ => none
noncomputable def ai_l2 (o pc : Nat) (L S : List ai_V) (G : ai_G) : Option ai_S := match S with
  | .inr (.inl y) :: .inr (.inl x) :: S => match G with
    | (E, h, c, s) => match ai_bin E o x y with
      | (z, E) => ai_go pc L (.inr (.inl z) :: S) (E, h, c, s)
  | _ => none
noncomputable def ai_nz (E : ai_E) (x : ai_X) : Bool := match ai_iv E x with
  | (a, b) => match ai_le 1 a with
    | true => true
    | false => ai_le b (-1)
noncomputable def ai_branch (o tgt nxt : Nat) (x y : ai_X) (L S : List ai_V) (G : ai_G) : Option ai_S := match G with
  | (E, h, c, s) => match (match x, y with
      | (t + 1, 0), (0, 0) => match ai_lcmp (t + 1) E.2.2 with
        | some p => p
        | none => (x, y)
      | _, _ => (x, y)) with
    | (x, y) => match ai_cmp E o x y, ai_cmp E (ai_inv o) x y with
      | some E1, some E2 => some (.inl [(tgt, L, S, (E1, h, c, s)), (nxt, L, S, (E2, h, c, s))])
      | some E1, none => some (.inl [(tgt, L, S, (E1, h, c, s))])
      | none, some E2 => some (.inl [(nxt, L, S, (E2, h, c, s))])
      | none, none => some (.inl [])
noncomputable def ai_int (v : ai_V) : Bool := match v with
  | .inl _ => true
  | _ => false
noncomputable def ai_lng (v : ai_V) : Bool := match v with
  | .inr (.inl _) => true
  | _ => false
/-- of one word: an int, a reference, null -/
noncomputable def ai_one (v : ai_V) : Bool := match v with
  | .inl _ => true
  | .inr (.inr (some _)) => true
  | _ => false
noncomputable def ai_ref (v : ai_V) : Bool := match v with
  | .inr (.inr (some (some _))) => true
  | _ => false
noncomputable def ai_load (p : ai_V → Bool) (i pc : Nat) (L S : List ai_V) (G : ai_G) : Option ai_S := match ai_lget L i with
  | v => match p v with
    | true => ai_go pc L (v :: S) G
    | false => none
noncomputable def ai_stor (p : ai_V → Bool) (i pc : Nat) (L S : List ai_V) (G : ai_G) : Option ai_S := match S with
  | v :: S => match p v, Nat.blt i L.length with
    | true, true => ai_go pc (ai_lset L i v) S G
    | _, _ => none
  | _ => none
noncomputable def ai_stol (i pc : Nat) (L S : List ai_V) (G : ai_G) : Option ai_S := match S with
  | .inr (.inl x) :: S => match Nat.blt (i + 1) L.length with
    | true => ai_go pc (ai_lset2 L i (.inr (.inl x))) S G
    | _ => none
  | _ => none
noncomputable def ai_num (ty : Nat) (z : ai_X) : ai_V := match ty with
  | 1 => .inr (.inl z)
  | _ => .inl z
noncomputable def ai_read (ty pc : Nat) (L S : List ai_V) (G : ai_G) : Option ai_S := match S with
  | .inl i :: .inr (.inr (some (some r))) :: S => match G with
    | (E, h, c, s) => match ai_cell h r with
      | some (.inr (.inl (q, n, lo, hi, l))) => match Nat.beq q ty, ai_inb E i n with
        | true, true => match ai_kget E lo hi i l with
          | .inl z => ai_go pc L (ai_num ty z :: S) G
          | .inr b => match ai_new E b with
            | (z, E) => ai_go pc L (ai_num ty z :: S) (E, h, c, s)
        | _, _ => none
      | _ => none
  | _ => none
noncomputable def ai_cut (ty : Nat) (v : ai_V) : Option ai_X := match v with
  | .inl z => match ty with
    | 1 => none
    | _ => some z
  | .inr (.inl z) => match ty with
    | 1 => some z
    | _ => none
  | _ => none
noncomputable def ai_bit (E : ai_E) (z : ai_X) : Bool := match ai_iv E z with
  | (a, b) => match ai_le 0 a with
    | true => ai_le b 1
    | false => false
noncomputable def ai_writ (ty pc : Nat) (L S : List ai_V) (G : ai_G) : Option ai_S := match S with
  | v :: .inl i :: .inr (.inr (some (some r))) :: S => match ai_cut ty v with
    | none => none
    | some z => match G with
      | (E, h, c, s) => match ai_cell h r with
        | some (.inr (.inl (q, n, lo, hi, l))) => match Nat.beq q ty, ai_inb E i n, (match ty with | 2 => ai_bit E z | _ => true) with
          | true, true, true => match ai_put h r (.inr (.inl (q, n, lo, hi, (i, z) :: ai_kdrop i l))) with
            | some h => ai_go pc L S (E, h, c, s)
            | none => none
          | _, _, _ => none
        | _ => none
  | _ => none
/-- a reference out of an array of references: each place that it may be -/
noncomputable def ai_aall (E : ai_E) (i : ai_X) (rs : List (Option Nat)) (pc : Nat) (L S : List ai_V) (h : ai_H) (c s : Nat) : Nat → List (Option Nat) → List ai_F
  | _, [] => []
  | j, r :: l => match ai_same E i (0, .ofNat j) with
    | some E1 => (pc, L, .inr (.inr (some r)) :: S, (E1, h, c, s)) :: ai_aall E i rs pc L S h c s (j + 1) l
    | none => ai_aall E i rs pc L S h c s (j + 1) l
noncomputable def ai_aget (pc : Nat) (L S : List ai_V) (G : ai_G) : Option ai_S := match S with
  | .inl i :: .inr (.inr (some (some r))) :: S => match G with
    | (E, h, c, s) => match ai_cell h r with
      | some (.inr (.inr (_, rs))) => match i with
        | (0, .ofNat k) => match ai_geta rs k with
          | some v => ai_go pc L (.inr (.inr (some v)) :: S) G
          | none => none
        | _ => match ai_inb E i rs.length with
          | true => some (.inl (ai_aall E i rs pc L S h c s 0 rs))
          | false => none
      | _ => none
  | _ => none
noncomputable def ai_aput (pc : Nat) (L S : List ai_V) (G : ai_G) : Option ai_S := match S with
  | .inr (.inr (some (some v))) :: .inl (0, .ofNat k) :: .inr (.inr (some (some r))) :: S => match G with
    | (E, h, c, s) => match ai_cell h r with
      | some (.inr (.inr (ty, rs))) => match Nat.blt k rs.length with
        | true => match ai_put h r (.inr (.inr (ty, ai_seta rs k (some v)))) with
          | some h => ai_go pc L S (E, h, c, s)
          | none => none
        | false => none
      | _ => none
  | _ => none
noncomputable def ai_alen (pc : Nat) (L S : List ai_V) (G : ai_G) : Option ai_S := match S with
  | .inr (.inr (some (some r))) :: S => match G with
    | (_, h, _, _) => match ai_cell h r with
      | some (.inr (.inl (_, n, _))) => ai_go pc L (.inl (0, .ofNat n) :: S) G
      | some (.inr (.inr (_, rs))) => ai_go pc L (.inl (0, .ofNat rs.length) :: S) G
      | _ => none
  | _ => none
noncomputable def ai_getf (ci k pc : Nat) (L S : List ai_V) (G : ai_G) : Option ai_S := match S with
  | .inr (.inr (some (some r))) :: S => match G with
    | (_, h, _, _) => match ai_cell h r with
      | some (.inl (cj, fs)) => match Nat.beq ci cj, ai_getv fs k with
        | true, some v => ai_go pc L (v :: S) G
        | _, _ => none
      | _ => none
  | _ => none
/-- may a field of this kind hold it: 0 int, 1 long, 2 boolean, 3 a reference -/
noncomputable def ai_okf (E : ai_E) (ty : Nat) (v : ai_V) : Bool := match v with
  | .inl z => match ty with
    | 0 => true
    | 2 => ai_bit E z
    | _ => false
  | .inr (.inl _) => Nat.beq ty 1
  | .inr (.inr none) => false
  | .inr (.inr (some _)) => Nat.beq ty 3
noncomputable def ai_putf (kind : Nat → Nat → Nat) (ci k pc : Nat) (L S : List ai_V) (G : ai_G) : Option ai_S := match S with
  | v :: .inr (.inr (some (some r))) :: S => match G with
    | (E, h, c, s) => match ai_cell h r with
      | some (.inl (cj, fs)) => match Nat.beq ci cj, Nat.blt k fs.length, ai_okf E (kind ci k) v with
        | true, true, true => match ai_put h r (.inl (cj, ai_setv fs k v)) with
          | some h => ai_go pc L S (E, h, c, s)
          | none => none
        | _, _, _ => none
      | _ => none
  | _ => none
noncomputable def ai_take : Nat → List ai_V → List ai_V → Option (List ai_V × List ai_V)
  | 0, a, S => some (a, S)
  | n + 1, a, S => match S with
    | [] => none
    | v :: S => ai_take n (v :: a) S
noncomputable def ai_call (mi n pc : Nat) (S : List ai_V) : Option ai_S := match ai_take n [] S with
  | some (a, S) => some (.inr (.inl (mi, a, S, pc)))
  | none => none
noncomputable def ai_mone (b : Nat × Nat) (k : Nat) (n : Nat) (h : ai_H) : Nat → Option ai_H
  | 0 => some h
  | m + 1 => match ai_push h (.inr (.inl (0, k, 0, 0, []))) with
    | some h => ai_mone b k n h m
    | none => none
noncomputable def ai_make (bud : Nat × Nat) (cell : ai_C) (n pc : Nat) (L S : List ai_V) (G : ai_G) : Option ai_S := match G with
  | (E, h, c, s) => match Nat.ble (c + 1) bud.1, Nat.ble (s + n) bud.2, ai_push h cell with
    | true, true, some h1 => ai_go pc L (.inr (.inr (some (some h.1))) :: S) (E, h1, c + 1, s + n)
    | _, _, _ => none
noncomputable def ai_ids : Nat → Nat → List (Option Nat)
  | _, 0 => []
  | a, n + 1 => some a :: ai_ids (a + 1) n
noncomputable def ai_mult (bud : Nat × Nat) (pc : Nat) (L S : List ai_V) (G : ai_G) : Option ai_S := match S with
  | .inl (0, .ofNat k) :: .inl (0, .ofNat n) :: S => match G with
    | (E, h, c, s) => match Nat.ble (c + (1 + n)) bud.1, Nat.ble (s + (n + n * k)) bud.2, ai_push h (.inr (.inr (3, ai_ids (h.1 + 1) n))) with
      | true, true, some h1 => match ai_mone bud k n h1 n with
        | some h2 => ai_go pc L (.inr (.inr (some (some h.1))) :: S) (E, h2, c + 1 + n, s + n + n * k)
        | none => none
      | _, _, _ => none
  | _ => none
noncomputable def ai_sw1 (E : ai_E) (x : ai_X) (L S : List ai_V) (h : ai_H) (c s : Nat) (pc : Nat) : Int → List Int → List ai_F
  | _, [] => []
  | v, off :: l => match ai_same E x (0, v) with
    | some E1 => ((Int.ofNat pc + off).toNat, L, S, (E1, h, c, s)) :: ai_sw1 E x L S h c s pc (v + 1) l
    | none => ai_sw1 E x L S h c s pc (v + 1) l
noncomputable def ai_some (o : Option ai_E) (pc : Nat) (L S : List ai_V) (h : ai_H) (c s : Nat) : List ai_F := match o with
  | some E => [(pc, L, S, (E, h, c, s))]
  | none => []
noncomputable def ai_tsw (dflt lo hi : Int) (offs : List Int) (pc : Nat) (L S : List ai_V) (G : ai_G) : Option ai_S := match S with
  | .inl x :: S => match G with
    | (E, h, c, s) => some (.inl (ai_some (ai_leq E x (0, lo) (-1)) (Int.ofNat pc + dflt).toNat L S h c s ++ (ai_some (ai_leq E (0, hi) x (-1)) (Int.ofNat pc + dflt).toNat L S h c s ++ ai_sw1 E x L S h c s pc lo offs)))
  | _ => none
noncomputable def ai_lsw1 (x : ai_X) (L S : List ai_V) (h : ai_H) (c s : Nat) (pc : Nat) (dflt : Int) : ai_E → List (Int × Int) → List ai_F
  | E, [] => [((Int.ofNat pc + dflt).toNat, L, S, (E, h, c, s))]
  | E, (v, off) :: l => match ai_same E x (0, v), ai_differ E x (0, v) with
    | some E1, some E2 => ((Int.ofNat pc + off).toNat, L, S, (E1, h, c, s)) :: ai_lsw1 x L S h c s pc dflt E2 l
    | some E1, none => [((Int.ofNat pc + off).toNat, L, S, (E1, h, c, s))]
    | none, some E2 => ai_lsw1 x L S h c s pc dflt E2 l
    | none, none => []
/-- what a part of an array is, place by place, laid from a place on -/
noncomputable def ai_part (lo hi : Int) (l : List (ai_X × ai_X)) : Nat → Nat → Nat → ai_E → List (ai_X × ai_X) → ai_E × List (ai_X × ai_X)
  | 0, _, _, E, a => (E, a)
  | n + 1, sp, dp, E, a => match ai_kget E lo hi (0, .ofNat sp) l with
    | .inl z => ai_part lo hi l n (sp + 1) (dp + 1) E (((0, .ofNat dp), z) :: a)
    | .inr b => match ai_new E b with
      | (z, E) => ai_part lo hi l n (sp + 1) (dp + 1) E (((0, .ofNat dp), z) :: a)
noncomputable def ai_lay : List (ai_X × ai_X) → List (ai_X × ai_X) → List (ai_X × ai_X)
  | [], l => l
  | (i, v) :: a, l => ai_lay a ((i, v) :: ai_kdrop i l)
noncomputable def ai_copy (pc : Nat) (L S : List ai_V) (G : ai_G) : Option ai_S := match S with
  | .inl (0, .ofNat n) :: .inl (0, .ofNat dp) :: .inr (.inr (some (some q))) :: .inl (0, .ofNat sp) :: .inr (.inr (some (some r))) :: S => match G with
    | (E, h, c, s) => match ai_cell h r, ai_cell h q with
      | some (.inr (.inl (ty, k, lo, hi, l))), some (.inr (.inl (tz, m, lo', hi', l'))) => match Nat.beq ty 0, Nat.beq tz 0, Nat.ble (sp + n) k, Nat.ble (dp + n) m with
        | true, true, true, true => match ai_part lo hi l n sp dp E [] with
          | (E, a) => match ai_put h q (.inr (.inl (tz, m, lo', hi', ai_lay a l'))) with
            | some h => ai_go pc L S (E, h, c, s)
            | none => none
        | _, _, _, _ => none
      | _, _ => none
  | _ => none
noncomputable def ai_step (i : ClassFile.Instr) : (Nat × Nat) → (Nat → List ai_V) → (Nat → Nat → Nat) → Nat → Nat → Nat → Nat → List ai_V → List ai_V → ai_G → Option ai_S := match i with
  | .iconst n => fun bud dflt kind pc nx a b L S G => ai_go nx L (.inl (0, n) :: S) G
  | .bipush n => fun bud dflt kind pc nx a b L S G => ai_go nx L (.inl (0, n) :: S) G
  | .sipush n => fun bud dflt kind pc nx a b L S G => ai_go nx L (.inl (0, n) :: S) G
  | .lconst n => fun bud dflt kind pc nx a b L S G => ai_go nx L (.inr (.inl (0, .ofNat n.val)) :: S) G
  | .ldc _ | .ldc_w _ => fun bud dflt kind pc nx a b L S G => match a with
    | 0 => ai_go nx L (.inl (0, Int.ofNat b - 2147483648) :: S) G
    | _ + 1 => ai_go nx L (.inr (.inr (some (some b))) :: S) G
  | .iload n => fun bud dflt kind pc nx a b L S G => ai_load ai_int n nx L S G
  | .iload_n n => fun bud dflt kind pc nx a b L S G => ai_load ai_int n.val nx L S G
  | .lload n => fun bud dflt kind pc nx a b L S G => ai_load ai_lng n nx L S G
  | .lload_n n => fun bud dflt kind pc nx a b L S G => ai_load ai_lng n.val nx L S G
  | .aload n => fun bud dflt kind pc nx a b L S G => ai_load ai_ref n nx L S G
  | .aload_n n => fun bud dflt kind pc nx a b L S G => ai_load ai_ref n.val nx L S G
  | .istore n => fun bud dflt kind pc nx a b L S G => ai_stor ai_int n nx L S G
  | .istore_n n => fun bud dflt kind pc nx a b L S G => ai_stor ai_int n.val nx L S G
  | .astore n => fun bud dflt kind pc nx a b L S G => ai_stor ai_ref n nx L S G
  | .astore_n n => fun bud dflt kind pc nx a b L S G => ai_stor ai_ref n.val nx L S G
  | .lstore n => fun bud dflt kind pc nx a b L S G => ai_stol n nx L S G
  | .lstore_n n => fun bud dflt kind pc nx a b L S G => ai_stol n.val nx L S G
  | .iinc n k => fun bud dflt kind pc nx a b L S G => match ai_lget L n with
    | .inl x => match G with
      | (E, h, c, s) => match ai_bin E 0 x (0, k) with
        | (z, E) => match Nat.blt n L.length with
          | true => ai_go nx (ai_lset L n (.inl z)) S (E, h, c, s)
          | false => none
    | _ => none
  | .iadd => fun bud dflt kind pc nx a b L S G => ai_s2 0 nx L S G
  | .isub => fun bud dflt kind pc nx a b L S G => ai_s2 1 nx L S G
  | .imul => fun bud dflt kind pc nx a b L S G => ai_s2 2 nx L S G
  | .idiv => fun bud dflt kind pc nx a b L S G => match S with
    | .inl y :: _ => match ai_nz G.1 y with
      | true => ai_s2 3 nx L S G
      | false => none
    | _ => none
  | .irem => fun bud dflt kind pc nx a b L S G => match S with
    | .inl y :: _ => match ai_nz G.1 y with
      | true => ai_s2 4 nx L S G
      | false => none
    | _ => none
  | .iand => fun bud dflt kind pc nx a b L S G => ai_s2 5 nx L S G
  | .ior => fun bud dflt kind pc nx a b L S G => ai_s2 6 nx L S G
  | .ixor => fun bud dflt kind pc nx a b L S G => ai_s2 7 nx L S G
  | .ishl => fun bud dflt kind pc nx a b L S G => ai_s2 8 nx L S G
  | .ishr => fun bud dflt kind pc nx a b L S G => ai_s2 9 nx L S G
  | .iushr => fun bud dflt kind pc nx a b L S G => ai_s2 10 nx L S G
  | .ineg => fun bud dflt kind pc nx a b L S G => match S with
    | .inl y :: S => ai_s2 1 nx L (.inl y :: .inl (0, 0) :: S) G
    | _ => none
  | .ladd => fun bud dflt kind pc nx a b L S G => ai_l2 20 nx L S G
  | .lsub => fun bud dflt kind pc nx a b L S G => ai_l2 21 nx L S G
  | .lmul => fun bud dflt kind pc nx a b L S G => ai_l2 22 nx L S G
  | .ldiv => fun bud dflt kind pc nx a b L S G => match S with
    | .inr (.inl y) :: _ => match ai_nz G.1 y with
      | true => ai_l2 23 nx L S G
      | false => none
    | _ => none
  | .lrem => fun bud dflt kind pc nx a b L S G => match S with
    | .inr (.inl y) :: _ => match ai_nz G.1 y with
      | true => ai_l2 24 nx L S G
      | false => none
    | _ => none
  | .lneg => fun bud dflt kind pc nx a b L S G => match S with
    | .inr (.inl y) :: S => ai_l2 21 nx L (.inr (.inl y) :: .inr (.inl (0, 0)) :: S) G
    | _ => none
  | .lcmp => fun bud dflt kind pc nx a b L S G => match S with
    | .inr (.inl y) :: .inr (.inl x) :: S => match G with
      | (E, h, c, s) => match ai_bin E 25 x y with
        | (z, E) => ai_go nx L (.inl z :: S) (E, h, c, s)
    | _ => none
  | .i2l => fun bud dflt kind pc nx a b L S G => match S with
    | .inl x :: S => ai_go nx L (.inr (.inl x) :: S) G
    | _ => none
  | .l2i => fun bud dflt kind pc nx a b L S G => match S with
    | .inr (.inl x) :: S => match ai_iv G.1 x with
      | (lo, hi) => match ai_le ai_lo32 lo, ai_le hi ai_hi32 with
        | true, true => ai_go nx L (.inl x :: S) G
        | _, _ => match G with
          | (E, h, c, s) => match ai_new E (ai_lo32, ai_hi32) with
            | (z, E) => ai_go nx L (.inl z :: S) (E, h, c, s)
    | _ => none
  | .dup => fun bud dflt kind pc nx a b L S G => match S with
    | v :: S => match ai_one v with
      | false => none
      | true => ai_go nx L (v :: v :: S) G
    | _ => none
  | .dup2 => fun bud dflt kind pc nx a b L S G => match S with
    | v :: S => match ai_lng v with
      | true => ai_go nx L (v :: v :: S) G
      | false => match S with
        | w :: S => match ai_one v, ai_one w with
          | true, true => ai_go nx L (v :: w :: v :: w :: S) G
          | _, _ => none
        | _ => none
    | _ => none
  | .pop => fun bud dflt kind pc nx a b L S G => match S with
    | v :: S => match ai_one v with
      | false => none
      | true => ai_go nx L S G
    | _ => none
  | .goto _ => fun bud dflt kind pc nx a b L S G => ai_go a L S G
  | .ifCond o _ => fun bud dflt kind pc nx a b L S G => match S with
    | .inl x :: S => ai_branch (ai_cno o) a nx x (0, 0) L S G
    | _ => none
  | .if_icmp o _ => fun bud dflt kind pc nx a b L S G => match S with
    | .inl y :: .inl x :: S => ai_branch (ai_cno o) a nx x y L S G
    | _ => none
  | .tableswitch d lo hi offs => fun bud dflt kind pc nx a b L S G => ai_tsw d lo hi offs.toList pc L S G
  | .lookupswitch d ps => fun bud dflt kind pc nx a b L S G => match S with
    | .inl x :: S => match G with
      | (E, h, c, s) => some (.inl (ai_lsw1 x L S h c s pc d E ps.toList))
    | _ => none
  | .getfield _ => fun bud dflt kind pc nx a b L S G => ai_getf a b nx L S G
  | .putfield _ => fun bud dflt kind pc nx a b L S G => ai_putf kind a b nx L S G
  | .iaload => fun bud dflt kind pc nx a b L S G => ai_read 0 nx L S G
  | .laload => fun bud dflt kind pc nx a b L S G => ai_read 1 nx L S G
  | .baload => fun bud dflt kind pc nx a b L S G => ai_read 2 nx L S G
  | .iastore => fun bud dflt kind pc nx a b L S G => ai_writ 0 nx L S G
  | .lastore => fun bud dflt kind pc nx a b L S G => ai_writ 1 nx L S G
  | .bastore => fun bud dflt kind pc nx a b L S G => ai_writ 2 nx L S G
  | .aaload => fun bud dflt kind pc nx a b L S G => ai_aget nx L S G
  | .aastore => fun bud dflt kind pc nx a b L S G => ai_aput nx L S G
  | .arraylength => fun bud dflt kind pc nx a b L S G => ai_alen nx L S G
  | .new _ => fun bud dflt kind pc nx a b L S G => match Nat.ble 2000 a with
    | true => match G with
      | (_, _, c, s) => match Nat.ble (c + 1) bud.1, Nat.ble (s + 6) bud.2 with
        | true, true => some (.inr (.inr (.inl (Nat.sub a 2000))))
        | _, _ => none
    | false => match dflt a with
      | fs => ai_make bud (.inl (a, fs)) fs.length nx L S G
  | .newarray _ => fun bud dflt kind pc nx a b L S G => match S with
    | .inl (0, .ofNat n) :: S => ai_make bud (.inr (.inl (a, n, 0, 0, []))) n nx L S G
    | _ => none
  | .anewarray _ => fun bud dflt kind pc nx a b L S G => match S with
    | .inl (0, .ofNat n) :: S => ai_make bud (.inr (.inr (a, List.replicate n none))) n nx L S G
    | _ => none
  | .multianewarray _ _ => fun bud dflt kind pc nx a b L S G => ai_mult bud nx L S G
  | .invokevirtual _ => fun bud dflt kind pc nx a b L S G => ai_call a b nx S
  | .invokespecial _ => fun bud dflt kind pc nx a b L S G => match Nat.beq a 1004 with
    | true => match S with
      | .inr (.inr (some (some _))) :: S => ai_go nx L S G
      | _ => none
    | false => ai_call a b nx S
  | .invokestatic _ => fun bud dflt kind pc nx a b L S G => match a with
    | 1000 => ai_s2 11 nx L S G
    | 1001 => ai_s2 12 nx L S G
    | 1002 => match S with
      | .inl x :: S => ai_s2 13 nx L (.inl (0, 0) :: .inl x :: S) G
      | _ => none
    | 1005 => ai_copy nx L S G
    | 1003 => match S with
      | .inr (.inl x) :: S => ai_l2 26 nx L (.inr (.inl (0, 0)) :: .inr (.inl x) :: S) G
      | _ => none
    | _ => ai_call a b nx S
  | .ireturn => fun bud dflt kind pc nx a b L S G => match S with
    | .inl x :: _ => match a with
      | 2 => match ai_bit G.1 x with
        | true => some (.inr (.inr (.inr (some (.inl x)))))
        | false => none
      | _ => some (.inr (.inr (.inr (some (.inl x)))))
    | _ => none
  | .lreturn => fun bud dflt kind pc nx a b L S G => match S with
    | .inr (.inl x) :: _ => some (.inr (.inr (.inr (some (.inr (.inl x))))))
    | _ => none
  | .areturn => fun bud dflt kind pc nx a b L S G => match S with
    | .inr (.inr (some (some r))) :: _ => some (.inr (.inr (.inr (some (.inr (.inr (some (some r))))))))
    | _ => none
  | .return_ => fun bud dflt kind pc nx a b L S G => some (.inr (.inr (.inr none)))
  | _ => fun _ _ _ _ _ _ _ _ _ _ => none
/-! RUNNING: a state may be made wider at a marked place (the head of a loop); behind it a state at the same place must be within the wider one, its measure nearer the end -/
/-- what is made wider: locals (place, bounds), locals that are forgotten, fields (cell, place, bounds), arrays (cell, bounds); the measure: a local, whether it grows -/
abbrev ai_A : Type := List (Nat × Int × Int) × List Nat × List (Nat × Nat × Int × Int) × List (Nat × Int × Int) × Nat × Bool
/-- a loop that is under way: its place, the first of its own symbols, the measure's symbol, whether it grows, the wider state -/
abbrev ai_P : Type := Nat × Nat × Nat × Bool × List ai_V × List ai_V × ai_G
abbrev ai_Q : Type := Option (List (ai_R × ai_G))
noncomputable def ai_genL : List (Nat × Int × Int) → ai_E → List ai_V → ai_E × List ai_V
  | [], E, L => (E, L)
  | (i, lo, hi) :: l, E, L => match ai_new E (lo, hi) with
    | (z, E) => ai_genL l E (ai_lset L i (.inl z))
noncomputable def ai_genU : List Nat → List ai_V → List ai_V
  | [], L => L
  | i :: l, L => ai_genU l (ai_lset L i (.inr (.inr none)))
noncomputable def ai_genF : List (Nat × Nat × Int × Int) → ai_E → ai_H → Option (ai_E × ai_H)
  | [], E, h => some (E, h)
  | (r, k, lo, hi) :: l, E, h => match ai_new E (lo, hi) with
    | (z, E) => match ai_cell h r with
      | some (.inl (ci, fs)) => match ai_put h r (.inl (ci, ai_setv fs k (.inl z))) with
        | some h => ai_genF l E h
        | none => none
      | _ => none
noncomputable def ai_genA : List (Nat × Int × Int) → ai_H → Option ai_H
  | [], h => some h
  | (r, lo, hi) :: l, h => match ai_cell h r with
    | some (.inr (.inl (ty, n, _))) => match ai_put h r (.inr (.inl (ty, n, lo, hi, []))) with
      | some h => ai_genA l h
      | none => none
    | _ => none
noncomputable def ai_gen (A : ai_A) (L : List ai_V) (G : ai_G) : Option (List ai_V × ai_G) := match G with
  | (E, h, c, s) => match ai_genL A.1 E L with
    | (E, L) => match ai_genF A.2.2.1 E h with
      | none => none
      | some (E, h) => match ai_genA A.2.2.2.1 h with
        | none => none
        | some h => some (ai_genU A.2.1 L, (E, h, c, s))
abbrev ai_Y : Type := List (Nat × ai_X)
noncomputable def ai_ylook : ai_Y → Nat → Option ai_X
  | [], _ => none
  | (t, x) :: l, u => match Nat.beq t u with
    | true => some x
    | false => ai_ylook l u
/-- a number within the wider state's: old symbols are the same, new ones stand for what is there now -/
noncomputable def ai_mx (base : Nat) (E : ai_E) (B : List (Nat × Int × Int)) (y : ai_Y) (x w : ai_X) : Option ai_Y := match Nat.blt w.1 base with
  | true => match ai_xeq x w with
    | true => some y
    | false => none
  | false => match ai_eq w.2 0 with
    | false => none
    | true => match ai_ylook y w.1 with
      | some z => match ai_xeq x z with
        | true => some y
        | false => none
      | none => match ai_iv E x, ai_look B w.1 with
        | (a, b), (c, d) => match ai_le c a, ai_le b d with
          | true, true => some ((w.1, x) :: y)
          | _, _ => none
noncomputable def ai_mv (base : Nat) (E : ai_E) (B : List (Nat × Int × Int)) (y : ai_Y) (v w : ai_V) : Option ai_Y := match w with
  | .inr (.inr none) => some y
  | .inl u => match v with
    | .inl x => ai_mx base E B y x u
    | _ => none
  | .inr (.inl u) => match v with
    | .inr (.inl x) => ai_mx base E B y x u
    | _ => none
  | .inr (.inr (some none)) => match v with
    | .inr (.inr (some none)) => some y
    | _ => none
  | .inr (.inr (some (some r))) => match v with
    | .inr (.inr (some (some q))) => match Nat.beq q r with
      | true => some y
      | false => none
    | _ => none
noncomputable def ai_mvs (base : Nat) (E : ai_E) (B : List (Nat × Int × Int)) : ai_Y → List ai_V → List ai_V → Option ai_Y
  | y, [], [] => some y
  | y, v :: l, w :: m => match ai_mv base E B y v w with
    | some y => ai_mvs base E B y l m
    | none => none
  | _, _, _ => none
noncomputable def ai_mos (base : Nat) (E : ai_E) (B : List (Nat × Int × Int)) : ai_Y → List (ai_X × ai_X) → List (ai_X × ai_X) → Option ai_Y
  | y, [], [] => some y
  | y, (i, v) :: l, (j, w) :: m => match ai_mx base E B y i j with
    | none => none
    | some y => match ai_mx base E B y v w with
      | some y => ai_mos base E B y l m
      | none => none
  | _, _, _ => none
noncomputable def ai_within (E : ai_E) (lo hi : Int) : List (ai_X × ai_X) → Bool
  | [] => true
  | (_, v) :: l => match ai_iv E v with
    | (a, b) => match ai_le lo a, ai_le b hi with
      | true, true => ai_within E lo hi l
      | _, _ => false
noncomputable def ai_mrs : List (Option Nat) → List (Option Nat) → Bool
  | [], [] => true
  | none :: l, none :: m => ai_mrs l m
  | some a :: l, some b :: m => match Nat.beq a b with
    | true => ai_mrs l m
    | false => false
  | _, _ => false
noncomputable def ai_mc (base : Nat) (E : ai_E) (B : List (Nat × Int × Int)) (y : ai_Y) : Option ai_C → Option ai_C → Option ai_Y
  | _, none => some y
  | some (.inl (ci, fs)), some (.inl (cj, gs)) => match Nat.beq ci cj with
    | true => ai_mvs base E B y fs gs
    | false => none
  | some (.inr (.inl (ty, n, lo, hi, l))), some (.inr (.inl (tz, k, lo', hi', m))) => match Nat.beq ty tz, Nat.beq n k, ai_le lo' lo, ai_le hi hi' with
    | true, true, true, true => match m with
      | [] => match ai_within E lo' hi' l with
        | true => some y
        | false => none
      | _ :: _ => ai_mos base E B y l m
    | _, _, _, _ => none
  | some (.inr (.inr (ty, l))), some (.inr (.inr (tz, m))) => match Nat.beq ty tz, ai_mrs l m with
    | true, true => some y
    | _, _ => none
  | _, _ => none
noncomputable def ai_mt (base : Nat) (E : ai_E) (B : List (Nat × Int × Int)) : (d : Nat) → ai_Y → ai_T (Option ai_C) d → ai_T (Option ai_C) d → Option ai_Y
  | 0, y, a, b => ai_mc base E B y a b
  | d + 1, y, a, b => match ai_mt base E B d y a.1 b.1 with
    | some y => ai_mt base E B d y a.2 b.2
    | none => none
noncomputable def ai_in (base : Nat) (L S : List ai_V) (G : ai_G) (L' S' : List ai_V) (G' : ai_G) : Option ai_Y := match G, G' with
  | (E, (n, t), c, s), (E', (n', t'), c', s') => match Nat.beq n n', Nat.beq c c', Nat.beq s s' with
    | true, true, true => match ai_mvs base E E'.2.1 [] L L' with
      | none => none
      | some y => match ai_mvs base E E'.2.1 y S S' with
        | none => none
        | some y => ai_mt base E E'.2.1 9 y t t'
    | _, _, _ => none
noncomputable def ai_act : List ai_P → Nat → Option ai_P
  | [], _ => none
  | a :: l, pc => match Nat.beq a.1 pc with
    | true => some a
    | false => ai_act l pc
noncomputable def ai_near (up : Bool) (t : Nat) (y : ai_Y) : Bool := match ai_ylook y t with
  | some (u, c) => match Nat.beq u t with
    | true => match up with
      | true => ai_le 1 c
      | false => ai_le c (-1)
    | false => false
  | none => false
noncomputable def ai_many (go : ai_F → ai_Q) : List ai_F → ai_Q
  | [] => some []
  | f :: l => match l with
    | [] => go f
    | _ :: _ => match go f with
      | none => none
      | some a => match ai_many go l with
        | none => none
        | some b => some (a ++ b)
noncomputable def ai_each (go : ai_R × ai_G → ai_Q) : List (ai_R × ai_G) → ai_Q
  | [] => some []
  | f :: l => match l with
    | [] => go f
    | _ :: _ => match go f with
      | none => none
      | some a => match ai_each go l with
        | none => none
        | some b => some (a ++ b)
noncomputable def ai_base (G : ai_G) : Nat := G.1.1
noncomputable def ai_run (code : Nat → Option (ClassFile.Instr × Nat × Nat × Nat)) (hand : Nat → Nat → Option (Nat × Nat)) (bud : Nat × Nat) (cbud : Nat → Nat × Nat) (dflt : Nat → List ai_V) (kind : Nat → Nat → Nat) (callee : Nat → List ai_V → ai_G → ai_Q) (ann : Nat → Option ai_A) : Nat → List ai_P → Bool → Nat → List ai_V → List ai_V → ai_G → ai_Q
  | 0, _, _, _, _, _, _ => none
  | n + 1, act, skip, pc, L, S, G => match (match skip with | true => none | false => ann pc) with
    | some A => match ai_act act pc with
      | some (_, base, t, up, L', S', G') => match ai_in base L S G L' S' G' with
        | some y => match ai_near up t y with
          | true => some []
          | false => none
        | none => none
      | none => match ai_gen A L G with
        | none => none
        | some (L', G') => match ai_in (ai_base G) L S G L' S G' with
          | none => none
          | some _ => match ai_lget L' A.2.2.2.2.1 with
            | .inl (t, 0) => ai_run code hand bud cbud dflt kind callee ann n ((pc, ai_base G, t, A.2.2.2.2.2, L', S, G') :: act) true pc L' S G'
            | _ => none
    | none => match code pc with
      | none => none
      | some (i, len, a, b) => match ai_step i bud dflt kind pc (pc + len) a b L S G with
        | none => none
        | some (.inl fs) => ai_many (fun f => ai_run code hand bud cbud dflt kind callee ann n act false f.1 f.2.1 f.2.2.1 f.2.2.2) fs
        | some (.inr (.inl (mi, args, S', pc'))) => match G with
          | (E, h, c, s) => match cbud mi with
            | (bc, bs) => match Nat.ble (c + bc) bud.1, Nat.ble (s + bs) bud.2 with
              | true, true => match callee mi args (E, h, 0, 0) with
                | none => none
                | some outs => ai_each (fun f => match f with
                  | (r, (E, h, _, _)) => match r with
                    | .inr none => ai_run code hand bud cbud dflt kind callee ann n act false pc' L S' (E, h, c + bc, s + bs)
                    | .inr (some v) => ai_run code hand bud cbud dflt kind callee ann n act false pc' L (v :: S') (E, h, c + bc, s + bs)
                    | .inl e => match hand pc e with
                      | some (k, pcn) => ai_run code hand bud cbud dflt kind callee ann n act false pcn (ai_lset L k (.inr (.inr none))) [] (E, h, c + bc, s + bs)
                      | none => some [(.inl e, (E, h, c + bc, s + bs))]) outs
              | _, _ => none
        | some (.inr (.inr r)) => some [(r, G)]
/-- a method: its number of locals, code, handlers, room, marked places -/
abbrev ai_M : Type := Nat × (Nat → Option (ClassFile.Instr × Nat × Nat × Nat)) × (Nat → Nat → Option (Nat × Nat)) × (Nat × Nat) × (Nat → Option ai_A)
noncomputable def ai_pad : Nat → List ai_V → Option (List ai_V)
  | 0, [] => some []
  | 0, _ :: _ => none
  | n + 1, [] => match ai_pad n [] with
    | some l => some (.inr (.inr none) :: l)
    | none => none
  | n + 1, v :: l => match ai_pad n l, ai_one v with
    | some l, true => some (v :: l)
    | _, _ => none
noncomputable def ai_meth (prog : Nat → Option ai_M) (cbud : Nat → Nat × Nat) (dflt : Nat → List ai_V) (kind : Nat → Nat → Nat) (fuel : Nat) : Nat → Nat → List ai_V → ai_G → ai_Q
  | 0, _, _, _ => none
  | d + 1, mi, args, G => match prog mi with
    | none => none
    | some (nl, code, hand, bud, ann) => match ai_pad nl args with
      | none => none
      | some L => ai_run code hand bud cbud dflt kind (ai_meth prog cbud dflt kind fuel d) ann fuel [] false 0 L [] G
noncomputable def ai_seek (pc : Nat) : List ai_I → Option (ClassFile.Instr × Nat × Nat × Nat)
  | [] => none
  | (q, i) :: l => match Nat.beq q pc with
    | true => some i
    | false => ai_seek pc l
noncomputable def ai_code (d : Nat) (t : ai_T (List ai_I) d) (pc : Nat) : Option (ClassFile.Instr × Nat × Nat × Nat) := ai_seek pc (ai_tget d t (Nat.div pc 16))
noncomputable def ai_hand (l : List (Nat × Nat × Nat × Nat × Nat)) (pc e : Nat) : Option (Nat × Nat) := match l with
  | [] => none
  | (a, b, x, k, q) :: l => match Nat.ble a pc, Nat.blt pc b, Nat.beq x e with
    | true, true, true => some (k, q)
    | _, _, _ => ai_hand l pc e
noncomputable def ai_mark (l : List (Nat × ai_A)) (pc : Nat) : Option ai_A := match l with
  | [] => none
  | (q, A) :: l => match Nat.beq q pc with
    | true => some A
    | false => ai_mark l pc
end
section
/-! WHAT THE DOMAIN SAYS: pure rows -/
theorem ai_tget_set {α : Type} (v : α) : ∀ (d : Nat) (t : ai_T α d) (k j : Nat), k < 2 ^ d → j < 2 ^ d → ai_tget d (ai_tset d t k v) j = if j = k then v else ai_tget d t j := by
  intro d
  induction d with
  | zero =>
    intro t k j hk hj
    have h1 : k = 0 := by omega
    have h2 : j = 0 := by omega
    subst h1; subst h2
    simp [ai_tget, ai_tset]
  | succ d ih =>
    intro t k j hk hj
    obtain ⟨a, b⟩ := t
    have hk' : k / 2 < 2 ^ d := by omega
    have hj' : j / 2 < 2 ^ d := by omega
    have ek : Nat.mod k 2 = k % 2 := rfl
    have ej : Nat.mod j 2 = j % 2 := rfl
    have dk : Nat.div k 2 = k / 2 := rfl
    have dj : Nat.div j 2 = j / 2 := rfl
    rcases Nat.mod_two_eq_zero_or_one k with hk2 | hk2 <;> rcases Nat.mod_two_eq_zero_or_one j with hj2 | hj2 <;>
      simp only [ai_tget, ai_tset, ek, ej, dk, dj, hk2, hj2]
    · rw [ih a (k / 2) (j / 2) hk' hj']
      by_cases e : j = k
      · subst e; simp
      · rw [if_neg e, if_neg (by omega)]
    · rw [if_neg (by omega)]
    · rw [if_neg (by omega)]
    · rw [ih b (k / 2) (j / 2) hk' hj']
      by_cases e : j = k
      · subst e; simp
      · rw [if_neg e, if_neg (by omega)]
theorem ai_tall_get {α : Type} (p : α → Bool) : ∀ (d : Nat) (t : ai_T α d) (k : Nat), ai_tall p d t = true → p (ai_tget d t k) = true := by
  intro d
  induction d with
  | zero => intro t k h; exact h
  | succ d ih =>
    intro t k h
    have h1 : ai_tall p d t.1 = true ∧ ai_tall p d t.2 = true := by
      unfold ai_tall at h
      cases e : ai_tall p d t.1 with
      | true => rw [e] at h; exact ⟨rfl, h⟩
      | false => rw [e] at h; cases h
    unfold ai_tget
    cases Nat.mod k 2 with
    | zero => exact ih _ _ h1.1
    | succ n => exact ih _ _ h1.2
theorem ai_le_iff {a b : Int} : ai_le a b = true ↔ a ≤ b := by
  unfold ai_le
  constructor
  · intro h
    cases e : b - a with
    | ofNat n => have : b - a = (n : Int) := e; omega
    | negSucc n => rw [e] at h; cases h
  · intro h
    cases e : b - a with
    | ofNat n => rfl
    | negSucc n => have : b - a = Int.negSucc n := e; omega
theorem ai_le_not {a b : Int} : ai_le a b = false ↔ b < a := by
  cases e : ai_le a b with
  | true => have := ai_le_iff.mp e; constructor <;> intro h; cases h; omega
  | false =>
    constructor
    · intro _
      by_cases h : b < a
      · exact h
      · rw [ai_le_iff.mpr (by omega)] at e; cases e
    · intro _; rfl
theorem ai_eq_iff {a b : Int} : ai_eq a b = true ↔ a = b := by
  cases a with
  | ofNat a => cases b with
    | ofNat b =>
      show Nat.beq a b = true ↔ _
      rw [Nat.beq_eq]
      exact ⟨fun h => by rw [h], fun h => Int.ofNat.inj h⟩
    | negSucc b =>
      refine ⟨?_, ?_⟩
      · intro h; cases h
      · intro h; cases h
  | negSucc a => cases b with
    | ofNat b =>
      refine ⟨?_, ?_⟩
      · intro h; cases h
      · intro h; cases h
    | negSucc b =>
      show Nat.beq a b = true ↔ _
      rw [Nat.beq_eq]
      exact ⟨fun h => by rw [h], fun h => Int.negSucc.inj h⟩
theorem ai_eq_not {a b : Int} : ai_eq a b = false ↔ a ≠ b := by
  cases e : ai_eq a b with
  | true => have := ai_eq_iff.mp e; simp [this]
  | false => constructor
             · intro _ h; rw [ai_eq_iff.mpr h] at e; cases e
             · intro _; rfl
theorem ai_xeq_iff {x y : ai_X} : ai_xeq x y = true ↔ x = y := by
  obtain ⟨t, c⟩ := x
  obtain ⟨u, d⟩ := y
  show (match Nat.beq t u with | true => ai_eq c d | false => false) = true ↔ _
  cases e : Nat.beq t u with
  | true =>
    have h := Nat.eq_of_beq_eq_true e
    subst h
    show ai_eq c d = true ↔ _
    rw [ai_eq_iff]
    simp
  | false =>
    have h := Nat.ne_of_beq_eq_false e
    show false = true ↔ _
    simp [h]
theorem ai_min_le {a b : Int} : ai_min a b ≤ a ∧ ai_min a b ≤ b ∧ (ai_min a b = a ∨ ai_min a b = b) := by
  unfold ai_min
  cases e : ai_le a b with
  | true => have := ai_le_iff.mp e; exact ⟨Int.le_refl _, this, Or.inl rfl⟩
  | false => have := ai_le_not.mp e; exact ⟨Int.le_of_lt this, Int.le_refl _, Or.inr rfl⟩
theorem ai_max_ge {a b : Int} : a ≤ ai_max a b ∧ b ≤ ai_max a b ∧ (ai_max a b = a ∨ ai_max a b = b) := by
  unfold ai_max
  cases e : ai_le a b with
  | true => have := ai_le_iff.mp e; exact ⟨this, Int.le_refl _, Or.inr rfl⟩
  | false => have := ai_le_not.mp e; exact ⟨Int.le_refl _, Int.le_of_lt this, Or.inl rfl⟩
/-! numbers -/
noncomputable def ai_vx (r : Nat → Int) (x : ai_X) : Int := r x.1 + x.2
/-- the symbols' bounds hold, and what is said of how they came to be -/
noncomputable def ai_gE (r : Nat → Int) (E : ai_E) : Prop := r 0 = 0 ∧ 0 < E.1 ∧ (∀ t, t < E.1 → ai_lo64 ≤ r t ∧ r t ≤ ai_hi64) ∧ (∀ q ∈ E.2.1, q.1 < E.1 ∧ q.2.1 ≤ r q.1 ∧ r q.1 ≤ q.2.2) ∧ ∀ q ∈ E.2.2, q.2.1 < E.1 ∧ q.2.2.1.1 < E.1 ∧ q.2.2.2.1 < E.1 ∧ r q.2.1 = ai_op q.1 (ai_vx r q.2.2.1) (ai_vx r q.2.2.2)
noncomputable def ai_ext {α : Type} (N : Nat) (r r' : Nat → α) : Prop := ∀ t, t < N → r' t = r t
theorem ai_ext.rfl' {α : Type} {N : Nat} {r : Nat → α} : ai_ext N r r := fun _ _ => rfl
theorem ai_ext.trans {α : Type} {N M : Nat} {a b c : Nat → α} (h : ai_ext N a b) (g : ai_ext M b c) (hN : N ≤ M) : ai_ext N a c := fun t ht => (g t (by omega)).trans (h t ht)
theorem ai_ext.mono {α : Type} {N M : Nat} {a b : Nat → α} (h : ai_ext M a b) (hN : N ≤ M) : ai_ext N a b := fun t ht => h t (by omega)
theorem ai_ext.vx {N : Nat} {r r' : Nat → Int} (h : ai_ext N r r') {x : ai_X} (hx : x.1 < N) : ai_vx r' x = ai_vx r x := by
  unfold ai_vx
  rw [h _ hx]
theorem ai_look_ok {r : Nat → Int} {l : List (Nat × Int × Int)} (h : ∀ q ∈ l, q.2.1 ≤ r q.1 ∧ r q.1 ≤ q.2.2) (t : Nat) (hr : ai_lo64 ≤ r t ∧ r t ≤ ai_hi64) : (ai_look l t).1 ≤ r t ∧ r t ≤ (ai_look l t).2 := by
  induction l with
  | nil => exact hr
  | cons q l ih =>
    obtain ⟨u, lo, hi⟩ := q
    unfold ai_look
    cases e : Nat.beq u t with
    | true =>
      have e := Nat.eq_of_beq_eq_true e
      subst e
      exact h _ List.mem_cons_self
    | false => exact ih (fun q hq => h q (List.mem_cons_of_mem _ hq))
theorem ai_iv_ok {r : Nat → Int} {E : ai_E} (hE : ai_gE r E) {x : ai_X} (hx : x.1 < E.1) : (ai_iv E x).1 ≤ ai_vx r x ∧ ai_vx r x ≤ (ai_iv E x).2 := by
  obtain ⟨t, c⟩ := x
  cases t with
  | zero =>
    have h0 : ai_vx r (0, c) = c := by
      show r 0 + c = c
      rw [hE.1]; omega
    rw [h0]
    exact ⟨Int.le_refl _, Int.le_refl _⟩
  | succ t =>
    have h := ai_look_ok (r := r) (l := E.2.1) (fun q hq => (hE.2.2.2.1 q hq).2) (t + 1) (hE.2.2.1 _ hx)
    show (ai_look E.2.1 (t + 1)).1 + c ≤ r (t + 1) + c ∧ r (t + 1) + c ≤ (ai_look E.2.1 (t + 1)).2 + c
    omega
/-- a new symbol's number -/
noncomputable def ai_upd (r : Nat → Int) (N : Nat) (v : Int) : Nat → Int := fun t => if t = N then v else r t
theorem ai_upd_ext (r : Nat → Int) (N : Nat) (v : Int) : ai_ext N r (ai_upd r N v) := fun t ht => if_neg (by omega)
theorem ai_upd_at (r : Nat → Int) (N : Nat) (v : Int) : ai_upd r N v N = v := if_pos rfl
theorem ai_gE.push {r : Nat → Int} {N : Nat} {l : List (Nat × Int × Int)} {ds : List ai_D} (hE : ai_gE r (N, l, ds)) {v lo hi : Int} (h1 : lo ≤ v) (h2 : v ≤ hi) (hv : ai_lo64 ≤ v ∧ v ≤ ai_hi64) : ai_gE (ai_upd r N v) (N + 1, (N, lo, hi) :: l, ds) := by
  obtain ⟨e0, e1, e2, e3, e4⟩ := hE
  have e1 : 0 < N := e1
  have hx := ai_upd_ext r N v
  refine ⟨?_, Nat.succ_pos _, ?_, ?_, ?_⟩
  · rw [hx 0 e1]; exact e0
  · intro t ht
    by_cases e : t = N
    · subst e; rw [ai_upd_at]; exact hv
    · have ht : t < N + 1 := ht
      rw [hx t (by omega)]; exact e2 t (by omega)
  · intro q hq
    rcases List.mem_cons.mp hq with rfl | hq
    · refine ⟨Nat.lt_succ_self _, ?_⟩
      show lo ≤ ai_upd r N v N ∧ ai_upd r N v N ≤ hi
      rw [ai_upd_at]; exact ⟨h1, h2⟩
    · obtain ⟨g1, g2⟩ := e3 q hq
      have g1 : q.1 < N := g1
      refine ⟨Nat.lt_succ_of_lt g1, ?_⟩
      rw [hx _ g1]; exact g2
  · intro q hq
    obtain ⟨g1, g2, g3, g4⟩ := e4 q hq
    refine ⟨Nat.lt_succ_of_lt g1, Nat.lt_succ_of_lt g2, Nat.lt_succ_of_lt g3, ?_⟩
    rw [hx _ g1, hx.vx g2, hx.vx g3]; exact g4
theorem ai_gE.def' {r : Nat → Int} {N : Nat} {l : List (Nat × Int × Int)} {ds : List ai_D} (hE : ai_gE r (N, l, ds)) {d : ai_D} (h : d.2.1 < N ∧ d.2.2.1.1 < N ∧ d.2.2.2.1 < N ∧ r d.2.1 = ai_op d.1 (ai_vx r d.2.2.1) (ai_vx r d.2.2.2)) : ai_gE r (N, l, d :: ds) := by
  obtain ⟨e0, e1, e2, e3, e4⟩ := hE
  refine ⟨e0, e1, e2, e3, fun q hq => ?_⟩
  rcases List.mem_cons.mp hq with rfl | hq
  · exact h
  · exact e4 q hq
theorem ai_find_ok {o : Nat} {x y : ai_X} {t : Nat} : ∀ {l : List ai_D}, ai_find o x y l = some t → (o, t, x, y) ∈ l
  | [], h => by cases h
  | (q, u, a, b) :: l, h => by
    unfold ai_find at h
    cases e1 : Nat.beq o q with
    | false => rw [e1] at h; exact List.mem_cons_of_mem _ (ai_find_ok h)
    | true => cases e2 : ai_xeq x a with
      | false => rw [e1, e2] at h; exact List.mem_cons_of_mem _ (ai_find_ok h)
      | true => cases e3 : ai_xeq y b with
        | false => rw [e1, e2, e3] at h; exact List.mem_cons_of_mem _ (ai_find_ok h)
        | true =>
          rw [e1, e2, e3] at h
          have := Nat.eq_of_beq_eq_true e1
          have h2 := ai_xeq_iff.mp e2
          have h3 := ai_xeq_iff.mp e3
          cases h
          subst this; subst h2; subst h3
          exact List.mem_cons_self
/-- a number that an instruction gives is within -/
noncomputable def ai_small (v : Int) : Prop := ai_lo64 ≤ v ∧ v ≤ ai_hi64
theorem ai_def_ok {r : Nat → Int} {E : ai_E} (hE : ai_gE r E) {o : Nat} {x y : ai_X} (hx : x.1 < E.1) (hy : y.1 < E.1) {b : Int × Int} (hb : b.1 ≤ ai_op o (ai_vx r x) (ai_vx r y) ∧ ai_op o (ai_vx r x) (ai_vx r y) ≤ b.2) (hs : ai_small (ai_op o (ai_vx r x) (ai_vx r y))) {z : ai_X} {E' : ai_E} (h : ai_def E o x y b = (z, E')) :
    ∃ r', ai_ext E.1 r r' ∧ E.1 ≤ E'.1 ∧ ai_gE r' E' ∧ z.1 < E'.1 ∧ ai_vx r' z = ai_op o (ai_vx r x) (ai_vx r y) := by
  unfold ai_def at h
  cases e : ai_find o x y E.2.2 with
  | some t =>
    rw [e] at h
    cases h
    have hm := ai_find_ok e
    obtain ⟨g1, -, -, g4⟩ := hE.2.2.2.2 _ hm
    refine ⟨r, ai_ext.rfl', Nat.le_refl _, hE, g1, ?_⟩
    show r t + 0 = _
    rw [g4]; exact Int.add_zero _
  | none =>
    rw [e] at h
    obtain ⟨N, l, ds⟩ := E
    cases h
    have hxe := ai_upd_ext r N (ai_op o (ai_vx r x) (ai_vx r y))
    have hp := hE.push hb.1 hb.2 hs
    refine ⟨_, hxe, Nat.le_succ _, hp.def' (d := (o, N, x, y)) ⟨Nat.lt_succ_self _, Nat.lt_succ_of_lt hx, Nat.lt_succ_of_lt hy, ?_⟩, Nat.lt_succ_self _, ?_⟩
    · show ai_upd r N _ N = ai_op o (ai_vx _ x) (ai_vx _ y)
      rw [ai_upd_at, hxe.vx hx, hxe.vx hy]
    · show ai_upd r N _ N + 0 = _
      rw [ai_upd_at]; exact Int.add_zero _
theorem ai_new_ok {r : Nat → Int} {E : ai_E} (hE : ai_gE r E) {b : Int × Int} {v : Int} (hb : b.1 ≤ v ∧ v ≤ b.2) (hs : ai_small v) {z : ai_X} {E' : ai_E} (h : ai_new E b = (z, E')) :
    ∃ r', ai_ext E.1 r r' ∧ E.1 ≤ E'.1 ∧ ai_gE r' E' ∧ z.1 < E'.1 ∧ ai_vx r' z = v := by
  obtain ⟨N, l, ds⟩ := E
  cases h
  refine ⟨_, ai_upd_ext r N v, Nat.le_succ _, hE.push hb.1 hb.2 hs, Nat.lt_succ_self _, ?_⟩
  show ai_upd r N _ N + 0 = _
  rw [ai_upd_at]; exact Int.add_zero _
end
section
/-! WHAT AN INSTRUCTION DOES: on the machine's numbers, on whole numbers, and its bounds -/
theorem ai_bm32 (u : Int) : ai_lo32 ≤ u.bmod 4294967296 ∧ u.bmod 4294967296 ≤ ai_hi32 := by
  have h1 := Int.le_bmod (x := u) (m := 4294967296) (by decide)
  have h2 := Int.bmod_lt (x := u) (m := 4294967296) (by decide)
  unfold ai_lo32 ai_hi32
  omega
theorem ai_bm64 (u : Int) : ai_lo64 ≤ u.bmod 18446744073709551616 ∧ u.bmod 18446744073709551616 ≤ ai_hi64 := by
  have h1 := Int.le_bmod (x := u) (m := 18446744073709551616) (by decide)
  have h2 := Int.bmod_lt (x := u) (m := 18446744073709551616) (by decide)
  unfold ai_lo64 ai_hi64
  omega
theorem ai_bm32_id {u : Int} (h1 : ai_lo32 ≤ u) (h2 : u ≤ ai_hi32) : u.bmod 4294967296 = u := by
  unfold ai_lo32 at h1
  unfold ai_hi32 at h2
  exact Int.bmod_eq_of_le (by omega) (by omega)
theorem ai_bm64_id {u : Int} (h1 : ai_lo64 ≤ u) (h2 : u ≤ ai_hi64) : u.bmod 18446744073709551616 = u := by
  unfold ai_lo64 at h1
  unfold ai_hi64 at h2
  exact Int.bmod_eq_of_le (by omega) (by omega)
theorem ai_fit32 {lo hi u : Int} (h1 : lo ≤ u) (h2 : u ≤ hi) : (ai_fit false lo hi).1 ≤ u.bmod 4294967296 ∧ u.bmod 4294967296 ≤ (ai_fit false lo hi).2 := by
  have hb := ai_bm32 u
  unfold ai_fit
  cases e1 : ai_le ai_lo32 lo with
  | false => exact hb
  | true => cases e2 : ai_le hi ai_hi32 with
    | false => exact hb
    | true =>
      have e1 := ai_le_iff.mp e1
      have e2 := ai_le_iff.mp e2
      show lo ≤ _ ∧ _ ≤ hi
      rw [ai_bm32_id (by omega) (by omega)]
      exact ⟨h1, h2⟩
theorem ai_fit64 {lo hi u : Int} (h1 : lo ≤ u) (h2 : u ≤ hi) : (ai_fit true lo hi).1 ≤ u.bmod 18446744073709551616 ∧ u.bmod 18446744073709551616 ≤ (ai_fit true lo hi).2 := by
  have hb := ai_bm64 u
  unfold ai_fit
  cases e1 : ai_le ai_lo64 lo with
  | false => exact hb
  | true => cases e2 : ai_le hi ai_hi64 with
    | false => exact hb
    | true =>
      have e1 := ai_le_iff.mp e1
      have e2 := ai_le_iff.mp e2
      show lo ≤ _ ∧ _ ≤ hi
      rw [ai_bm64_id (by omega) (by omega)]
      exact ⟨h1, h2⟩
/-- a product lies between the products of the ends -/
theorem ai_between {a b c d x y : Int} (h1 : a ≤ x) (h2 : x ≤ b) (h3 : c ≤ y) (h4 : y ≤ d) : (a * c ≤ x * y ∨ a * d ≤ x * y ∨ b * c ≤ x * y ∨ b * d ≤ x * y) ∧ (x * y ≤ a * c ∨ x * y ≤ a * d ∨ x * y ≤ b * c ∨ x * y ≤ b * d) := by
  have key : ∀ {p q z w : Int}, p ≤ z → z ≤ q → (p * w ≤ z * w ∨ q * w ≤ z * w) ∧ (z * w ≤ p * w ∨ z * w ≤ q * w) := by
    intro p q z w hp hq
    rcases Int.le_total 0 w with hw | hw
    · exact ⟨Or.inl (Int.mul_le_mul_of_nonneg_right hp hw), Or.inr (Int.mul_le_mul_of_nonneg_right hq hw)⟩
    · exact ⟨Or.inr (Int.mul_le_mul_of_nonpos_right hq hw), Or.inl (Int.mul_le_mul_of_nonpos_right hp hw)⟩
  have kx := key (w := y) h1 h2
  have ka := key (w := a) h3 h4
  have kb := key (w := b) h3 h4
  rw [Int.mul_comm c a, Int.mul_comm y a, Int.mul_comm d a] at ka
  rw [Int.mul_comm c b, Int.mul_comm y b, Int.mul_comm d b] at kb
  obtain ⟨x1, x2⟩ := kx
  obtain ⟨a1, a2⟩ := ka
  obtain ⟨b1, b2⟩ := kb
  constructor
  · rcases x1 with x1 | x1
    · rcases a1 with a1 | a1
      · exact Or.inl (Int.le_trans a1 x1)
      · exact Or.inr (Or.inl (Int.le_trans a1 x1))
    · rcases b1 with b1 | b1
      · exact Or.inr (Or.inr (Or.inl (Int.le_trans b1 x1)))
      · exact Or.inr (Or.inr (Or.inr (Int.le_trans b1 x1)))
  · rcases x2 with x2 | x2
    · rcases a2 with a2 | a2
      · exact Or.inl (Int.le_trans x2 a2)
      · exact Or.inr (Or.inl (Int.le_trans x2 a2))
    · rcases b2 with b2 | b2
      · exact Or.inr (Or.inr (Or.inl (Int.le_trans x2 b2)))
      · exact Or.inr (Or.inr (Or.inr (Int.le_trans x2 b2)))
theorem ai_min4 {p q r s u : Int} (h : p ≤ u ∨ q ≤ u ∨ r ≤ u ∨ s ≤ u) : ai_min (ai_min p q) (ai_min r s) ≤ u := by
  have h1 := ai_min_le (a := p) (b := q)
  have h2 := ai_min_le (a := r) (b := s)
  have h3 := ai_min_le (a := ai_min p q) (b := ai_min r s)
  omega
theorem ai_max4 {p q r s u : Int} (h : u ≤ p ∨ u ≤ q ∨ u ≤ r ∨ u ≤ s) : u ≤ ai_max (ai_max p q) (ai_max r s) := by
  have h1 := ai_max_ge (a := p) (b := q)
  have h2 := ai_max_ge (a := r) (b := s)
  have h3 := ai_max_ge (a := ai_max p q) (b := ai_max r s)
  omega
theorem ai_rmul32 {a b c d x y : Int} (h1 : a ≤ x) (h2 : x ≤ b) (h3 : c ≤ y) (h4 : y ≤ d) : (ai_rmul false a b c d).1 ≤ (x * y).bmod 4294967296 ∧ (x * y).bmod 4294967296 ≤ (ai_rmul false a b c d).2 := by
  obtain ⟨k1, k2⟩ := ai_between h1 h2 h3 h4
  exact ai_fit32 (ai_min4 k1) (ai_max4 k2)
theorem ai_rmul64 {a b c d x y : Int} (h1 : a ≤ x) (h2 : x ≤ b) (h3 : c ≤ y) (h4 : y ≤ d) : (ai_rmul true a b c d).1 ≤ (x * y).bmod 18446744073709551616 ∧ (x * y).bmod 18446744073709551616 ≤ (ai_rmul true a b c d).2 := by
  obtain ⟨k1, k2⟩ := ai_between h1 h2 h3 h4
  exact ai_fit64 (ai_min4 k1) (ai_max4 k2)
theorem ai_abs_of (a : Int) : ai_abs a = (a.natAbs : Int) := by
  cases a with
  | ofNat n => rfl
  | negSucc n => rfl
theorem ai_tdiv_abs (x y : Int) : (x.tdiv y).natAbs ≤ x.natAbs := by
  rw [Int.natAbs_tdiv]
  exact Nat.div_le_self _ _
theorem ai_tdiv_bd {a b x y : Int} (h1 : a ≤ x) (h2 : x ≤ b) : -(ai_max (ai_abs a) (ai_abs b)) ≤ x.tdiv y ∧ x.tdiv y ≤ ai_max (ai_abs a) (ai_abs b) := by
  have h := ai_tdiv_abs x y
  have g := ai_max_ge (a := ai_abs a) (b := ai_abs b)
  rw [ai_abs_of, ai_abs_of] at g ⊢
  omega
theorem ai_rdiv32 {a b c x y : Int} (h1 : a ≤ x) (h2 : x ≤ b) (h3 : c ≤ y) (hb : x ≤ ai_hi32) : (ai_rdiv false a b c).1 ≤ (x.tdiv y).bmod 4294967296 ∧ (x.tdiv y).bmod 4294967296 ≤ (ai_rdiv false a b c).2 := by
  have h := ai_tdiv_bd (y := y) h1 h2
  unfold ai_rdiv
  cases e1 : ai_le 0 a with
  | false => exact ai_fit32 h.1 h.2
  | true => cases e2 : ai_le 1 c with
    | false => exact ai_fit32 h.1 h.2
    | true =>
      have e1 := ai_le_iff.mp e1
      have e2 := ai_le_iff.mp e2
      have k1 : 0 ≤ x.tdiv y := Int.tdiv_nonneg (by omega) (by omega)
      have k2 : x.tdiv y ≤ x := Int.tdiv_le_self _ (by omega)
      show 0 ≤ _ ∧ _ ≤ b
      rw [ai_bm32_id (by unfold ai_lo32; omega) (by omega)]
      omega
theorem ai_rdiv64 {a b c x y : Int} (h1 : a ≤ x) (h2 : x ≤ b) (h3 : c ≤ y) (hb : x ≤ ai_hi64) : (ai_rdiv true a b c).1 ≤ (x.tdiv y).bmod 18446744073709551616 ∧ (x.tdiv y).bmod 18446744073709551616 ≤ (ai_rdiv true a b c).2 := by
  have h := ai_tdiv_bd (y := y) h1 h2
  unfold ai_rdiv
  cases e1 : ai_le 0 a with
  | false => exact ai_fit64 h.1 h.2
  | true => cases e2 : ai_le 1 c with
    | false => exact ai_fit64 h.1 h.2
    | true =>
      have e1 := ai_le_iff.mp e1
      have e2 := ai_le_iff.mp e2
      have k1 : 0 ≤ x.tdiv y := Int.tdiv_nonneg (by omega) (by omega)
      have k2 : x.tdiv y ≤ x := Int.tdiv_le_self _ (by omega)
      show 0 ≤ _ ∧ _ ≤ b
      rw [ai_bm64_id (by unfold ai_lo64; omega) (by omega)]
      omega
theorem ai_sub_tdiv (x y : Int) : x - x.tdiv y * y = x.tmod y := by
  have h := Int.tmod_add_mul_tdiv x y
  rw [Int.mul_comm] at h
  omega
theorem ai_tmod_nn {x y : Int} (h : 0 ≤ x) : 0 ≤ x.tmod y ∧ x.tmod y ≤ x := by
  refine ⟨Int.tmod_nonneg _ h, ?_⟩
  have h1 := Int.natAbs_tmod x y
  have h2 := Nat.mod_le x.natAbs y.natAbs
  omega
theorem ai_tmod_lt {x y : Int} (h : 1 ≤ y) : 1 - y ≤ x.tmod y ∧ x.tmod y ≤ y - 1 := by
  have h1 := Int.natAbs_tmod x y
  have h2 := Nat.mod_lt x.natAbs (show y.natAbs > 0 by omega)
  omega
theorem ai_tmod_abs (x y : Int) : (x.tmod y).natAbs ≤ x.natAbs := by
  rw [Int.natAbs_tmod]
  exact Nat.mod_le _ _
theorem ai_rrem32 {a b c d x y : Int} (h1 : a ≤ x) (h2 : x ≤ b) (h3 : c ≤ y) (h4 : y ≤ d) (hb : x ≤ ai_hi32) : (ai_rrem false a b c d).1 ≤ (x - x.tdiv y * y).bmod 4294967296 ∧ (x - x.tdiv y * y).bmod 4294967296 ≤ (ai_rrem false a b c d).2 := by
  rw [ai_sub_tdiv]
  unfold ai_rrem
  cases e1 : ai_le 0 a with
  | true =>
    have e1 := ai_le_iff.mp e1
    have k := ai_tmod_nn (x := x) (y := y) (by omega)
    rw [ai_bm32_id (by unfold ai_lo32; omega) (by omega)]
    cases e2 : ai_le 1 c with
    | true =>
      have e2 := ai_le_iff.mp e2
      have k2 := ai_tmod_lt (x := x) (y := y) (by omega)
      have k3 := ai_min_le (a := b) (b := d - 1)
      show 0 ≤ _ ∧ _ ≤ ai_min b (d - 1)
      omega
    | false =>
      show 0 ≤ _ ∧ _ ≤ b
      omega
  | false => cases e2 : ai_le 1 c with
    | true =>
      have e2 := ai_le_iff.mp e2
      have k2 := ai_tmod_lt (x := x) (y := y) (by omega)
      exact ai_fit32 (by omega) (by omega)
    | false => exact ai_bm32 _
theorem ai_rrem64 {a b c d x y : Int} (h1 : a ≤ x) (h2 : x ≤ b) (h3 : c ≤ y) (h4 : y ≤ d) (hb : x ≤ ai_hi64) : (ai_rrem true a b c d).1 ≤ (x - x.tdiv y * y).bmod 18446744073709551616 ∧ (x - x.tdiv y * y).bmod 18446744073709551616 ≤ (ai_rrem true a b c d).2 := by
  rw [ai_sub_tdiv]
  unfold ai_rrem
  cases e1 : ai_le 0 a with
  | true =>
    have e1 := ai_le_iff.mp e1
    have k := ai_tmod_nn (x := x) (y := y) (by omega)
    rw [ai_bm64_id (by unfold ai_lo64; omega) (by omega)]
    cases e2 : ai_le 1 c with
    | true =>
      have e2 := ai_le_iff.mp e2
      have k2 := ai_tmod_lt (x := x) (y := y) (by omega)
      have k3 := ai_min_le (a := b) (b := d - 1)
      show 0 ≤ _ ∧ _ ≤ ai_min b (d - 1)
      omega
    | false =>
      show 0 ≤ _ ∧ _ ≤ b
      omega
  | false => cases e2 : ai_le 1 c with
    | true =>
      have e2 := ai_le_iff.mp e2
      have k2 := ai_tmod_lt (x := x) (y := y) (by omega)
      exact ai_fit64 (by omega) (by omega)
    | false => exact ai_bm64 _
end
section
/-! BITS, and all instructions of two numbers -/
theorem ai_i32 (x : Int32) : ai_lo32 ≤ x.toInt ∧ x.toInt ≤ ai_hi32 := by
  have h1 := x.le_toInt
  have h2 := x.toInt_lt
  unfold ai_lo32 ai_hi32
  omega
theorem ai_i64 (x : Int64) : ai_lo64 ≤ x.toInt ∧ x.toInt ≤ ai_hi64 := by
  have h1 := x.le_toInt
  have h2 := x.toInt_lt
  unfold ai_lo64 ai_hi64
  omega
theorem ai_small32 {v : Int} (h : ai_lo32 ≤ v ∧ v ≤ ai_hi32) : ai_small v := by
  unfold ai_lo32 ai_hi32 at h
  unfold ai_small ai_lo64 ai_hi64
  omega
/-- no less than 0: the number is that of the bits -/
theorem ai_nn {x : Int32} (h : 0 ≤ x.toInt) : x.toInt = (x.toBitVec.toNat : Int) ∧ x.toBitVec.toNat < 2147483648 := by
  have h1 : x.toInt = x.toBitVec.toInt := rfl
  rw [h1, BitVec.toInt_eq_toNat_cond] at h ⊢
  have h2 := x.toBitVec.isLt
  split
  · refine ⟨rfl, by omega⟩
  · rename_i hh
    rw [if_neg hh] at h
    omega
theorem ai_of_nat {x : Int32} (h : x.toBitVec.toNat < 2147483648) : x.toInt = (x.toBitVec.toNat : Int) := by
  show x.toBitVec.toInt = _
  rw [BitVec.toInt_eq_toNat_cond, if_pos (by omega)]
theorem ai_and_bits (x y : Int32) : (x &&& y).toBitVec.toNat = x.toBitVec.toNat &&& y.toBitVec.toNat := by
  rw [Int32.toBitVec_and, BitVec.toNat_and]
theorem ai_or_bits (x y : Int32) : (x ||| y).toBitVec.toNat = x.toBitVec.toNat ||| y.toBitVec.toNat := by
  rw [Int32.toBitVec_or, BitVec.toNat_or]
theorem ai_xor_bits (x y : Int32) : (x ^^^ y).toBitVec.toNat = x.toBitVec.toNat ^^^ y.toBitVec.toNat := by
  rw [Int32.toBitVec_xor, BitVec.toNat_xor]
theorem ai_and_l {x y : Int32} (h : 0 ≤ x.toInt) : 0 ≤ (x &&& y).toInt ∧ (x &&& y).toInt ≤ x.toInt := by
  obtain ⟨h1, h2⟩ := ai_nn h
  have h3 := ai_and_bits x y
  have h4 := Nat.and_le_left (n := x.toBitVec.toNat) (m := y.toBitVec.toNat)
  have h5 := ai_of_nat (x := x &&& y) (by omega)
  omega
theorem ai_and_r {x y : Int32} (h : 0 ≤ y.toInt) : 0 ≤ (x &&& y).toInt ∧ (x &&& y).toInt ≤ y.toInt := by
  obtain ⟨h1, h2⟩ := ai_nn h
  have h3 := ai_and_bits x y
  have h4 := Nat.and_le_right (n := x.toBitVec.toNat) (m := y.toBitVec.toNat)
  have h5 := ai_of_nat (x := x &&& y) (by omega)
  omega
theorem ai_full_lt {n : Nat} {m : Int} (h : (n : Int) ≤ m) (hm : m ≤ ai_hi32) : ∃ k, k ≤ 31 ∧ ai_full m = ((2 ^ k - 1 : Nat) : Int) ∧ n < 2 ^ k ∧ m ≤ ai_full m := by
  cases m with
  | negSucc q => omega
  | ofNat q =>
    have h : n ≤ q := Int.ofNat_le.mp h
    have hq : q < 2147483648 := by
      have : (q : Int) ≤ ai_hi32 := hm
      unfold ai_hi32 at this
      omega
    have h1 : q < 2 ^ (Nat.log2 q + 1) := Nat.lt_log2_self
    have h2 : Nat.log2 q < 31 := by
      by_cases e : q = 0
      · subst e; decide
      · exact (Nat.log2_lt e).mpr (by omega)
    refine ⟨Nat.log2 q + 1, by omega, rfl, by omega, ?_⟩
    show (q : Int) ≤ ((2 ^ (Nat.log2 q + 1) - 1 : Nat) : Int)
    omega
theorem ai_two_le {k : Nat} (h : k ≤ 31) : 2 ^ k ≤ 2147483648 := by
  have := Nat.pow_le_pow_right (show 2 > 0 by decide) h
  exact this
theorem ai_or_bd {x y : Int32} {m : Int} (hx : 0 ≤ x.toInt) (hy : 0 ≤ y.toInt) (h1 : x.toInt ≤ m) (h2 : y.toInt ≤ m) : (0 ≤ (x ||| y).toInt ∧ (x ||| y).toInt ≤ ai_full m) ∧ 0 ≤ (x ^^^ y).toInt ∧ (x ^^^ y).toInt ≤ ai_full m := by
  obtain ⟨x1, x2⟩ := ai_nn hx
  obtain ⟨y1, y2⟩ := ai_nn hy
  by_cases hm : m ≤ ai_hi32
  · obtain ⟨k, k1, k2, k3, -⟩ := ai_full_lt (n := x.toBitVec.toNat) (m := m) (by omega) hm
    obtain ⟨k', -, k2', k3', -⟩ := ai_full_lt (n := y.toBitVec.toNat) (m := m) (by omega) hm
    have hk : 2 ^ k' = 2 ^ k := by
      have a1 := Nat.two_pow_pos k
      have a2 := Nat.two_pow_pos k'
      omega
    have hk2 := ai_two_le k1
    have o1 := Nat.or_lt_two_pow k3 (by rw [hk] at k3'; exact k3')
    have o2 := Nat.xor_lt_two_pow k3 (by rw [hk] at k3'; exact k3')
    have b1 := ai_or_bits x y
    have b2 := ai_xor_bits x y
    have c1 := ai_of_nat (x := x ||| y) (by omega)
    have c2 := ai_of_nat (x := x ^^^ y) (by omega)
    rw [k2]
    omega
  · have hf : ai_hi32 ≤ ai_full m := by
      cases m with
      | negSucc q => exact absurd (show Int.negSucc q ≤ ai_hi32 by unfold ai_hi32; omega) hm
      | ofNat q =>
        have h1 : q < 2 ^ (Nat.log2 q + 1) := Nat.lt_log2_self
        show ai_hi32 ≤ ((2 ^ (Nat.log2 q + 1) - 1 : Nat) : Int)
        have : ¬ (q : Int) ≤ ai_hi32 := hm
        omega
    have o1 := Nat.or_lt_two_pow (n := 31) (x := x.toBitVec.toNat) (y := y.toBitVec.toNat) (by omega) (by omega)
    have o2 := Nat.xor_lt_two_pow (n := 31) (x := x.toBitVec.toNat) (y := y.toBitVec.toNat) (by omega) (by omega)
    have b1 := ai_or_bits x y
    have b2 := ai_xor_bits x y
    have c1 := ai_of_nat (x := x ||| y) (by omega)
    have c2 := ai_of_nat (x := x ^^^ y) (by omega)
    have d1 := ai_i32 (x ||| y)
    have d2 := ai_i32 (x ^^^ y)
    omega
theorem ai_shr_k {a s : Int32} {k : Nat} (hk : k < 32) (hs : s.toInt = (k : Int)) : (a >>> (s &&& 31)).toInt = a.toInt >>> k := by
  have e : s = nI k := by
    apply Int32.toInt_inj.mp
    rw [hs, nI_toInt (by omega)]
  subst e
  refine pk_shr a _ k ?_
  have key : ∀ n, n < 32 → ((nI n &&& 31).toBitVec.smod 32).toNat = n := by decide +kernel
  exact key k hk
theorem ai_shr_mono {a b : Int} (h : a ≤ b) (k : Nat) : a >>> k ≤ b >>> k := by
  rw [Int.shiftRight_eq_div_pow, Int.shiftRight_eq_div_pow]
  exact Int.ediv_le_ediv (by exact_mod_cast Nat.two_pow_pos k) h
/-- the machine's instruction of two ints -/
noncomputable def ai_op32 (o : Nat) (x y : Int32) : Int32 := match o with
  | 0 => x + y
  | 1 => x - y
  | 2 => x * y
  | 3 => x / y
  | 4 => x - x / y * y
  | 5 => x &&& y
  | 6 => x ||| y
  | 7 => x ^^^ y
  | 8 => x <<< (y &&& 31)
  | 9 => x >>> (y &&& 31)
  | 10 => (x.toUInt32 >>> (y.toUInt32 &&& Int32.toUInt32 31)).toInt32
  | 11 => if x < y then y else x
  | 12 => if x < y then x else y
  | 13 => if 0 ≤ x then x else 0 - x
  | _ => 0
noncomputable def ai_op64 (o : Nat) (x y : Int64) : Int64 := match o with
  | 20 => x + y
  | 21 => x - y
  | 22 => x * y
  | 23 => x / y
  | 24 => x - x / y * y
  | 26 => if 0 < x then x else -x
  | _ => 0
theorem ai_op32_ok {o : Nat} (ho : o < 14) (x y : Int32) : (ai_op32 o x y).toInt = ai_op o x.toInt y.toInt := by
  have e2 : (2 : Nat) ^ 32 = 4294967296 := by decide
  match o, ho with
  | 0, _ => simp [ai_op32, ai_op]
  | 1, _ => simp [ai_op32, ai_op]
  | 2, _ => simp [ai_op32, ai_op]
  | 3, _ => simp [ai_op32, ai_op]
  | 4, _ => simp [ai_op32, ai_op]
  | 5, _ => simp [ai_op32, ai_op]
  | 6, _ => simp [ai_op32, ai_op]
  | 7, _ => simp [ai_op32, ai_op]
  | 8, _ => simp [ai_op32, ai_op]
  | 9, _ => simp [ai_op32, ai_op]
  | 10, _ => simp [ai_op32, ai_op]
  | 11, _ =>
    show (if x < y then y else x).toInt = ai_max x.toInt y.toInt
    unfold ai_max
    by_cases h : x < y
    · rw [if_pos h]
      rw [Int32.lt_iff_toInt_lt] at h
      rw [ai_le_iff.mpr (by omega)]
    · rw [if_neg h]
      rw [Int32.lt_iff_toInt_lt] at h
      cases e : ai_le x.toInt y.toInt with
      | true => have := ai_le_iff.mp e; show x.toInt = y.toInt; omega
      | false => rfl
  | 12, _ =>
    show (if x < y then x else y).toInt = ai_min x.toInt y.toInt
    unfold ai_min
    by_cases h : x < y
    · rw [if_pos h]
      rw [Int32.lt_iff_toInt_lt] at h
      rw [ai_le_iff.mpr (by omega)]
    · rw [if_neg h]
      rw [Int32.lt_iff_toInt_lt] at h
      cases e : ai_le x.toInt y.toInt with
      | true => have := ai_le_iff.mp e; show y.toInt = x.toInt; omega
      | false => rfl
  | 13, _ =>
    show (if 0 ≤ x then x else 0 - x).toInt = (ai_abs x.toInt).bmod 4294967296
    rw [ai_abs_of]
    have hx := ai_i32 x
    by_cases h : 0 ≤ x
    · rw [if_pos h]
      rw [Int32.le_iff_toInt_le, Int32.toInt_zero] at h
      rw [ai_bm32_id (by unfold ai_lo32; omega) (by omega)]
      omega
    · rw [if_neg h]
      rw [Int32.le_iff_toInt_le, Int32.toInt_zero] at h
      rw [Int32.toInt_sub, Int32.toInt_zero]
      show (0 - x.toInt).bmod 4294967296 = _
      congr 1
      omega
theorem ai_op64_ok {o : Nat} (ho : 20 ≤ o ∧ o ≤ 24 ∨ o = 26) (x y : Int64) : (ai_op64 o x y).toInt = ai_op o x.toInt y.toInt := by
  have ho : o = 20 ∨ o = 21 ∨ o = 22 ∨ o = 23 ∨ o = 24 ∨ o = 26 := by omega
  rcases ho with rfl | rfl | rfl | rfl | rfl | rfl
  · simp [ai_op64, ai_op]
  · simp [ai_op64, ai_op]
  · simp [ai_op64, ai_op]
  · simp [ai_op64, ai_op]
  · simp [ai_op64, ai_op]
  · show (if 0 < x then x else -x).toInt = (ai_abs x.toInt).bmod 18446744073709551616
    rw [ai_abs_of]
    have hx := ai_i64 x
    by_cases h : 0 < x
    · rw [if_pos h]
      rw [Int64.lt_iff_toInt_lt, Int64.toInt_zero] at h
      rw [ai_bm64_id (by unfold ai_lo64; omega) (by omega)]
      omega
    · rw [if_neg h]
      rw [Int64.lt_iff_toInt_lt, Int64.toInt_zero] at h
      rw [Int64.toInt_neg]
      show (-x.toInt).bmod 18446744073709551616 = _
      congr 1
      omega
/-- the bounds that the domain gives hold -/
theorem ai_rng32 {o : Nat} (ho : o < 14) {x y : Int32} {a b c d : Int} (h1 : a ≤ x.toInt) (h2 : x.toInt ≤ b) (h3 : c ≤ y.toInt) (h4 : y.toInt ≤ d) : (ai_rng o (a, b) (c, d)).1 ≤ ai_op o x.toInt y.toInt ∧ ai_op o x.toInt y.toInt ≤ (ai_rng o (a, b) (c, d)).2 := by
  have hx := ai_i32 x
  have hy := ai_i32 y
  have full : ai_lo32 ≤ ai_op o x.toInt y.toInt ∧ ai_op o x.toInt y.toInt ≤ ai_hi32 := by
    rw [← ai_op32_ok ho]; exact ai_i32 _
  match o, ho, full with
  | 0, _, _ => exact ai_fit32 (by omega) (by omega)
  | 1, _, _ => exact ai_fit32 (by omega) (by omega)
  | 2, _, _ => exact ai_rmul32 h1 h2 h3 h4
  | 3, _, _ => exact ai_rdiv32 h1 h2 h3 hx.2
  | 4, _, _ => exact ai_rrem32 h1 h2 h3 h4 hx.2
  | 5, _, full =>
    have e : ai_op 5 x.toInt y.toInt = (x &&& y).toInt := by rw [← ai_op32_ok (by decide)]; rfl
    rw [e] at full ⊢
    show (ai_rand a b c d).1 ≤ _ ∧ _ ≤ (ai_rand a b c d).2
    unfold ai_rand
    cases e1 : ai_le 0 a with
    | true =>
      have e1 := ai_le_iff.mp e1
      have g1 := ai_and_l (x := x) (y := y) (by omega)
      cases e2 : ai_le 0 c with
      | true =>
        have e2 := ai_le_iff.mp e2
        have g2 := ai_and_r (x := x) (y := y) (by omega)
        have g3 := ai_min_le (a := b) (b := d)
        show 0 ≤ _ ∧ _ ≤ ai_min b d
        omega
      | false =>
        show 0 ≤ _ ∧ _ ≤ b
        omega
    | false => cases e2 : ai_le 0 c with
      | true =>
        have e2 := ai_le_iff.mp e2
        have g2 := ai_and_r (x := x) (y := y) (by omega)
        show 0 ≤ _ ∧ _ ≤ d
        omega
      | false => exact full
  | 6, _, full =>
    have e : ai_op 6 x.toInt y.toInt = (x ||| y).toInt := by rw [← ai_op32_ok (by decide)]; rfl
    rw [e] at full ⊢
    show (ai_ror a b c d).1 ≤ _ ∧ _ ≤ (ai_ror a b c d).2
    unfold ai_ror
    cases e1 : ai_le 0 a with
    | true => cases e2 : ai_le 0 c with
      | true =>
        have e1 := ai_le_iff.mp e1
        have e2 := ai_le_iff.mp e2
        have g3 := ai_max_ge (a := b) (b := d)
        exact (ai_or_bd (x := x) (y := y) (m := ai_max b d) (by omega) (by omega) (by omega) (by omega)).1
      | false => exact full
    | false => exact full
  | 7, _, full =>
    have e : ai_op 7 x.toInt y.toInt = (x ^^^ y).toInt := by rw [← ai_op32_ok (by decide)]; rfl
    rw [e] at full ⊢
    show (ai_ror a b c d).1 ≤ _ ∧ _ ≤ (ai_ror a b c d).2
    unfold ai_ror
    cases e1 : ai_le 0 a with
    | true => cases e2 : ai_le 0 c with
      | true =>
        have e1 := ai_le_iff.mp e1
        have e2 := ai_le_iff.mp e2
        have g3 := ai_max_ge (a := b) (b := d)
        exact (ai_or_bd (x := x) (y := y) (m := ai_max b d) (by omega) (by omega) (by omega) (by omega)).2
      | false => exact full
    | false => exact full
  | 8, _, full => exact full
  | 9, _, full =>
    have e : ai_op 9 x.toInt y.toInt = (x >>> (y &&& 31)).toInt := by rw [← ai_op32_ok (by decide)]; rfl
    rw [e] at full ⊢
    show (ai_rshr a b c d).1 ≤ _ ∧ _ ≤ (ai_rshr a b c d).2
    unfold ai_rshr
    cases e1 : ai_eq c d with
    | false => exact full
    | true =>
      have e1 := ai_eq_iff.mp e1
      cases c with
      | negSucc k => exact full
      | ofNat k =>
        cases e2 : Nat.blt k 32 with
        | false =>
          show (match Nat.blt k 32 with | true => (a >>> k, b >>> k) | false => (ai_lo32, ai_hi32)).1 ≤ _ ∧ _ ≤ (match Nat.blt k 32 with | true => (a >>> k, b >>> k) | false => (ai_lo32, ai_hi32)).2
          rw [e2]; exact full
        | true =>
          have hk : k < 32 := by
            have : Nat.ble (k + 1) 32 = true := e2
            exact Nat.le_of_ble_eq_true this
          have hyk : y.toInt = (k : Int) := by
            have h3 : (k : Int) ≤ y.toInt := h3
            have e1 : (k : Int) = d := e1
            omega
          show (match Nat.blt k 32 with | true => (a >>> k, b >>> k) | false => (ai_lo32, ai_hi32)).1 ≤ _ ∧ _ ≤ (match Nat.blt k 32 with | true => (a >>> k, b >>> k) | false => (ai_lo32, ai_hi32)).2
          rw [e2, ai_shr_k hk hyk]
          exact ⟨ai_shr_mono h1 k, ai_shr_mono h2 k⟩
  | 10, _, full => exact full
  | 11, _, _ =>
    have g1 := ai_max_ge (a := a) (b := c)
    have g2 := ai_max_ge (a := b) (b := d)
    have g3 := ai_max_ge (a := x.toInt) (b := y.toInt)
    show ai_max a c ≤ ai_max x.toInt y.toInt ∧ ai_max x.toInt y.toInt ≤ ai_max b d
    omega
  | 12, _, _ =>
    have g1 := ai_min_le (a := a) (b := c)
    have g2 := ai_min_le (a := b) (b := d)
    have g3 := ai_min_le (a := x.toInt) (b := y.toInt)
    show ai_min a c ≤ ai_min x.toInt y.toInt ∧ ai_min x.toInt y.toInt ≤ ai_min b d
    omega
  | 13, _, full => exact full
theorem ai_rng64 {o : Nat} (ho : 20 ≤ o ∧ o ≤ 24 ∨ o = 26) {x y : Int64} {a b c d : Int} (h1 : a ≤ x.toInt) (h2 : x.toInt ≤ b) (h3 : c ≤ y.toInt) (h4 : y.toInt ≤ d) : (ai_rng o (a, b) (c, d)).1 ≤ ai_op o x.toInt y.toInt ∧ ai_op o x.toInt y.toInt ≤ (ai_rng o (a, b) (c, d)).2 := by
  have hx := ai_i64 x
  have hy := ai_i64 y
  have full : ai_lo64 ≤ ai_op o x.toInt y.toInt ∧ ai_op o x.toInt y.toInt ≤ ai_hi64 := by
    rw [← ai_op64_ok ho]; exact ai_i64 _
  have ho : o = 20 ∨ o = 21 ∨ o = 22 ∨ o = 23 ∨ o = 24 ∨ o = 26 := by omega
  rcases ho with rfl | rfl | rfl | rfl | rfl | rfl
  · exact ai_fit64 (by omega) (by omega)
  · exact ai_fit64 (by omega) (by omega)
  · exact ai_rmul64 h1 h2 h3 h4
  · exact ai_rdiv64 h1 h2 h3 hx.2
  · exact ai_rrem64 h1 h2 h3 h4 hx.2
  · exact full
/-- an instruction of two numbers that the domain does: on ints -/
theorem ai_bin_ok {r : Nat → Int} {E E' : ai_E} {o : Nat} {x y z : ai_X} {v : Int} (hE : ai_gE r E) (hx : x.1 < E.1) (hy : y.1 < E.1) (hv : v = ai_op o (ai_vx r x) (ai_vx r y)) (hs : ai_small v)
    (hid : (o = 0 → ∀ u, u = ai_vx r x + ai_vx r y → ai_lo32 ≤ u → u ≤ ai_hi32 → v = u) ∧ (o = 1 → ∀ u, u = ai_vx r x - ai_vx r y → ai_lo32 ≤ u → u ≤ ai_hi32 → v = u))
    (hr : ∀ a b c d : Int, a ≤ ai_vx r x → ai_vx r x ≤ b → c ≤ ai_vx r y → ai_vx r y ≤ d → (ai_rng o (a, b) (c, d)).1 ≤ v ∧ v ≤ (ai_rng o (a, b) (c, d)).2) (h : ai_bin E o x y = (z, E')) :
    ∃ r', ai_ext E.1 r r' ∧ E.1 ≤ E'.1 ∧ ai_gE r' E' ∧ z.1 < E'.1 ∧ ai_vx r' z = v := by
  have v0 : ∀ c : Int, ai_vx r (0, c) = c := fun c => by
    show r 0 + c = c
    rw [hE.1]; omega
  have gen : ∀ {w : ai_X} {F : ai_E}, ai_def E o x y (ai_rng o (ai_iv E x) (ai_iv E y)) = (w, F) → ∃ r', ai_ext E.1 r r' ∧ E.1 ≤ F.1 ∧ ai_gE r' F ∧ w.1 < F.1 ∧ ai_vx r' w = v := by
    intro w F hd
    obtain ⟨a1, a2⟩ := ai_iv_ok hE hx
    obtain ⟨b1, b2⟩ := ai_iv_ok hE hy
    have hb := hr _ _ _ _ a1 a2 b1 b2
    rw [hv] at hb hs ⊢
    exact ai_def_ok hE hx hy hb hs hd
  obtain ⟨t, c⟩ := x
  obtain ⟨u, d⟩ := y
  unfold ai_bin at h
  cases t with
  | zero => cases u with
    | zero =>
      cases h
      refine ⟨r, ai_ext.rfl', Nat.le_refl _, hE, hE.2.1, ?_⟩
      rw [v0, hv, v0, v0]
    | succ u =>
      dsimp only at h
      split at h
      · rename_i h1
        have h1 := Nat.eq_of_beq_eq_true h1
        subst h1
        have hz : (u + 1, d + c).1 < E.1 := hy
        have hvz : ai_vx r (u + 1, d + c) = ai_vx r (0, c) + ai_vx r (u + 1, d) := by
          rw [v0]; show r (u + 1) + (d + c) = c + (r (u + 1) + d); omega
        have hb := ai_iv_ok hE hz
        cases e : ai_iv E (u + 1, d + c) with
        | mk lo hi =>
          rw [e] at h hb
          dsimp only at h hb
          split at h
          · rename_i e1 e2
            cases h
            have e1 := ai_le_iff.mp e1
            have e2 := ai_le_iff.mp e2
            exact ⟨r, ai_ext.rfl', Nat.le_refl _, hE, hz, (hid.1 rfl _ hvz (by omega) (by omega)).symm⟩
          · exact gen h
      · exact gen h
  | succ t => cases u with
    | zero =>
      dsimp only at h
      split at h
      · rename_i h1
        have h1 := Nat.le_of_ble_eq_true h1
        generalize he : ai_pm o c d = e' at h
        have hz : (t + 1, e').1 < E.1 := hx
        have hb := ai_iv_ok hE hz
        cases e : ai_iv E (t + 1, e') with
        | mk lo hi =>
          rw [e] at h hb
          dsimp only at h hb
          split at h
          · rename_i e1 e2
            cases h
            have e1 := ai_le_iff.mp e1
            have e2 := ai_le_iff.mp e2
            refine ⟨r, ai_ext.rfl', Nat.le_refl _, hE, hz, ?_⟩
            have ho : o = 0 ∨ o = 1 := by omega
            rcases ho with rfl | rfl
            · have he : c + d = e' := he
              refine (hid.1 rfl _ ?_ (by omega) (by omega)).symm
              rw [v0]; show r (t + 1) + e' = r (t + 1) + c + d; omega
            · have he : c - d = e' := he
              refine (hid.2 rfl _ ?_ (by omega) (by omega)).symm
              rw [v0]; show r (t + 1) + e' = r (t + 1) + c - d; omega
          · exact gen h
      · exact gen h
    | succ u => exact gen h
theorem ai_bin32 {r : Nat → Int} {E E' : ai_E} {o : Nat} (ho : o < 14) {x y z : ai_X} {p q : Int32} (hE : ai_gE r E) (hx : x.1 < E.1) (hy : y.1 < E.1) (hp : p.toInt = ai_vx r x) (hq : q.toInt = ai_vx r y) (h : ai_bin E o x y = (z, E')) :
    ∃ r', ai_ext E.1 r r' ∧ E.1 ≤ E'.1 ∧ ai_gE r' E' ∧ z.1 < E'.1 ∧ (ai_op32 o p q).toInt = ai_vx r' z := by
  have hv := ai_op32_ok ho p q
  obtain ⟨r', h1, h2, h3, h4, h5⟩ := ai_bin_ok (v := (ai_op32 o p q).toInt) hE hx hy (by rw [hv, hp, hq]) (ai_small32 (ai_i32 _))
    ⟨fun e u hu l1 l2 => by subst e; rw [hv, hp, hq, hu]; show (_ : Int).bmod 4294967296 = _; rw [ai_bm32_id (by omega) (by omega)], fun e u hu l1 l2 => by subst e; rw [hv, hp, hq, hu]; show (_ : Int).bmod 4294967296 = _; rw [ai_bm32_id (by omega) (by omega)]⟩
    (fun a b c d l1 l2 l3 l4 => by rw [hv]; exact ai_rng32 ho (by omega) (by omega) (by omega) (by omega)) h
  exact ⟨r', h1, h2, h3, h4, h5.symm⟩
theorem ai_bin64 {r : Nat → Int} {E E' : ai_E} {o : Nat} (ho : 20 ≤ o ∧ o ≤ 24 ∨ o = 26) {x y z : ai_X} {p q : Int64} (hE : ai_gE r E) (hx : x.1 < E.1) (hy : y.1 < E.1) (hp : p.toInt = ai_vx r x) (hq : q.toInt = ai_vx r y) (h : ai_bin E o x y = (z, E')) :
    ∃ r', ai_ext E.1 r r' ∧ E.1 ≤ E'.1 ∧ ai_gE r' E' ∧ z.1 < E'.1 ∧ (ai_op64 o p q).toInt = ai_vx r' z := by
  have hv := ai_op64_ok ho p q
  obtain ⟨r', h1, h2, h3, h4, h5⟩ := ai_bin_ok (v := (ai_op64 o p q).toInt) hE hx hy (by rw [hv, hp, hq]) (ai_i64 _)
    ⟨fun e u hu l1 l2 => absurd e (by omega), fun e u hu l1 l2 => absurd e (by omega)⟩
    (fun a b c d l1 l2 l3 l4 => by rw [hv]; exact ai_rng64 ho (by omega) (by omega) (by omega) (by omega)) h
  exact ⟨r', h1, h2, h3, h4, h5.symm⟩
/-- the comparison of two longs -/
theorem ai_cmp64 {r : Nat → Int} {E E' : ai_E} {x y z : ai_X} {p q : Int64} (hE : ai_gE r E) (hx : x.1 < E.1) (hy : y.1 < E.1) (hp : p.toInt = ai_vx r x) (hq : q.toInt = ai_vx r y) (h : ai_bin E 25 x y = (z, E')) :
    ∃ r', ai_ext E.1 r r' ∧ E.1 ≤ E'.1 ∧ ai_gE r' E' ∧ z.1 < E'.1 ∧ (lg_cmp p q).toInt = ai_vx r' z := by
  have hv : (lg_cmp p q).toInt = ai_op 25 p.toInt q.toInt := by
    show _ = (match ai_eq p.toInt q.toInt with | true => (0 : Int) | false => match ai_le p.toInt q.toInt with | true => -1 | false => 1)
    by_cases e : p.toInt = q.toInt
    · rw [ai_eq_iff.mpr e]
      have e2 := Int64.toInt_inj.mp e
      subst e2
      simp [lg_cmp]
    · rw [ai_eq_not.mpr e]
      by_cases g : q < p
      · have g2 := Int64.lt_iff_toInt_lt.mp g
        have e1 : lg_cmp p q = 1 := by simp [lg_cmp, g]
        rw [e1, ai_le_not.mpr g2]; rfl
      · have g2 : ¬ q.toInt < p.toInt := fun q => g (Int64.lt_iff_toInt_lt.mpr q)
        have g3 : ¬ p = q := fun h => e (by rw [h])
        have e1 : lg_cmp p q = -1 := by simp [lg_cmp, g, g3]
        rw [e1, ai_le_iff.mpr (by omega)]; rfl
  have hb : -1 ≤ ai_op 25 p.toInt q.toInt ∧ ai_op 25 p.toInt q.toInt ≤ 1 := by
    show (-1 : Int) ≤ (match ai_eq p.toInt q.toInt with | true => 0 | false => match ai_le p.toInt q.toInt with | true => -1 | false => 1) ∧ (match ai_eq p.toInt q.toInt with | true => (0 : Int) | false => match ai_le p.toInt q.toInt with | true => -1 | false => 1) ≤ 1
    cases ai_eq p.toInt q.toInt with
    | true => exact ⟨show (-1 : Int) ≤ 0 by decide, show (0 : Int) ≤ 1 by decide⟩
    | false => cases ai_le p.toInt q.toInt with
      | true => exact ⟨Int.le_refl _, by decide⟩
      | false => exact ⟨by decide, Int.le_refl _⟩
  obtain ⟨r', h1, h2, h3, h4, h5⟩ := ai_bin_ok (v := (lg_cmp p q).toInt) hE hx hy (by rw [hv, hp, hq]) (ai_small32 (ai_i32 _))
    ⟨fun e u hu l1 l2 => absurd e (by omega), fun e u hu l1 l2 => absurd e (by omega)⟩
    (fun a b c d l1 l2 l3 l4 => by rw [hv]; exact hb) h
  exact ⟨r', h1, h2, h3, h4, h5.symm⟩
end
section
/-! COMPARISONS: what holds is still known behind them -/
theorem ai_cap_ok {r : Nat → Int} {E : ai_E} (hE : ai_gE r E) {t : Nat} {lo hi : Int} (ht : t < E.1) (h1 : lo ≤ r t) (h2 : r t ≤ hi) : ∃ E', ai_cap E t lo hi = some E' ∧ ai_gE r E' ∧ E'.1 = E.1 := by
  cases t with
  | zero =>
    rw [hE.1] at h1 h2
    refine ⟨E, ?_, hE, rfl⟩
    unfold ai_cap
    rw [ai_le_iff.mpr h1, ai_le_iff.mpr h2]
  | succ t =>
    have hb := ai_look_ok (r := r) (l := E.2.1) (fun q hq => (hE.2.2.2.1 q hq).2) (t + 1) (hE.2.2.1 _ ht)
    unfold ai_cap
    cases e : ai_look E.2.1 (t + 1) with
    | mk a b =>
      rw [e] at hb
      have g1 := ai_max_ge (a := a) (b := lo)
      have g2 := ai_min_le (a := b) (b := hi)
      have hb1 : a ≤ r (t + 1) := hb.1
      have hb2 : r (t + 1) ≤ b := hb.2
      have g : ai_le (ai_max a lo) (ai_min b hi) = true := ai_le_iff.mpr (by omega)
      dsimp only
      rw [g]
      refine ⟨_, rfl, ⟨hE.1, hE.2.1, hE.2.2.1, fun q hq => ?_, hE.2.2.2.2⟩, rfl⟩
      rcases List.mem_cons.mp hq with rfl | hq
      · exact ⟨ht, show ai_max a lo ≤ r (t + 1) by omega, show r (t + 1) ≤ ai_min b hi by omega⟩
      · exact hE.2.2.2.1 q hq
theorem ai_leq_ok {r : Nat → Int} {E : ai_E} (hE : ai_gE r E) {x y : ai_X} {k : Int} (hx : x.1 < E.1) (hy : y.1 < E.1) (h : ai_vx r x ≤ ai_vx r y + k) : ∃ E', ai_leq E x y k = some E' ∧ ai_gE r E' ∧ E'.1 = E.1 := by
  obtain ⟨a1, a2⟩ := ai_iv_ok hE hx
  obtain ⟨b1, b2⟩ := ai_iv_ok hE hy
  unfold ai_leq
  cases e : Nat.beq x.1 y.1 with
  | true =>
    have e := Nat.eq_of_beq_eq_true e
    have h2 : x.2 ≤ y.2 + k := by
      unfold ai_vx at h
      rw [e] at h
      omega
    dsimp only
    rw [ai_le_iff.mpr h2]
    exact ⟨E, rfl, hE, rfl⟩
  | false =>
    dsimp only
    cases e1 : ai_iv E x with
    | mk a b => cases e2 : ai_iv E y with
      | mk c d =>
        rw [e1] at a1 a2
        rw [e2] at b1 b2
        dsimp only at a1 a2 b1 b2 ⊢
        cases e3 : ai_le b (c + k) with
        | true => exact ⟨E, rfl, hE, rfl⟩
        | false =>
          have hx2 : ai_vx r x = r x.1 + x.2 := rfl
          have hy2 : ai_vx r y = r y.1 + y.2 := rfl
          obtain ⟨E1, f1, f2, f3⟩ := ai_cap_ok (lo := ai_lo64) (hi := d + k - x.2) hE hx (hE.2.2.1 _ hx).1 (by omega)
          obtain ⟨E2, f4, f5, f6⟩ := ai_cap_ok (E := E1) (t := y.1) (lo := a - k - y.2) (hi := ai_hi64) f2 (by omega) (by omega) (f2.2.2.1 _ (by omega)).2
          dsimp only
          rw [f1]
          exact ⟨E2, f4, f5, f6.trans f3⟩
theorem ai_same_ok {r : Nat → Int} {E : ai_E} (hE : ai_gE r E) {x y : ai_X} (hx : x.1 < E.1) (hy : y.1 < E.1) (h : ai_vx r x = ai_vx r y) : ∃ E', ai_same E x y = some E' ∧ ai_gE r E' ∧ E'.1 = E.1 := by
  obtain ⟨E1, f1, f2, f3⟩ := ai_leq_ok (k := 0) hE hx hy (by omega)
  obtain ⟨E2, f4, f5, f6⟩ := ai_leq_ok (k := 0) f2 (x := y) (y := x) (by omega) (by omega) (by omega)
  refine ⟨E2, ?_, f5, f6.trans f3⟩
  unfold ai_same
  rw [f1]
  exact f4
theorem ai_off_ok {r : Nat → Int} {E : ai_E} (hE : ai_gE r E) {t : Nat} {v : Int} (ht : t < E.1) (h : r t ≠ v) : ∃ E', ai_off E t v = some E' ∧ ai_gE r E' ∧ E'.1 = E.1 := by
  cases t with
  | zero =>
    rw [hE.1] at h
    refine ⟨E, ?_, hE, rfl⟩
    unfold ai_off
    rw [ai_eq_not.mpr (Ne.symm h)]
  | succ t =>
    have hb := ai_look_ok (r := r) (l := E.2.1) (fun q hq => (hE.2.2.2.1 q hq).2) (t + 1) (hE.2.2.1 _ ht)
    unfold ai_off
    cases e : ai_look E.2.1 (t + 1) with
    | mk a b =>
      rw [e] at hb
      have hb1 : a ≤ r (t + 1) := hb.1
      have hb2 : r (t + 1) ≤ b := hb.2
      dsimp only
      cases e1 : ai_eq a v with
      | true =>
        have e1 := ai_eq_iff.mp e1
        exact ai_cap_ok hE ht (by omega) (hE.2.2.1 _ ht).2
      | false => cases e2 : ai_eq b v with
        | true =>
          have e2 := ai_eq_iff.mp e2
          exact ai_cap_ok hE ht (hE.2.2.1 _ ht).1 (by omega)
        | false => exact ⟨E, rfl, hE, rfl⟩
theorem ai_differ_ok {r : Nat → Int} {E : ai_E} (hE : ai_gE r E) {x y : ai_X} (hx : x.1 < E.1) (hy : y.1 < E.1) (h : ai_vx r x ≠ ai_vx r y) : ∃ E', ai_differ E x y = some E' ∧ ai_gE r E' ∧ E'.1 = E.1 := by
  unfold ai_differ
  cases e : Nat.beq x.1 y.1 with
  | true =>
    have e := Nat.eq_of_beq_eq_true e
    have h2 : x.2 ≠ y.2 := by
      intro g
      apply h
      unfold ai_vx
      rw [e, g]
    dsimp only
    rw [ai_eq_not.mpr h2]
    exact ⟨E, rfl, hE, rfl⟩
  | false =>
    dsimp only
    obtain ⟨t, c⟩ := x
    obtain ⟨u, d⟩ := y
    have h : r t + c ≠ r u + d := h
    cases t with
    | zero =>
      rw [hE.1] at h
      exact ai_off_ok hE hy (by omega)
    | succ t => cases u with
      | zero =>
        rw [hE.1] at h
        exact ai_off_ok hE hx (by omega)
      | succ u => exact ⟨E, rfl, hE, rfl⟩
/-- which comparison -/
noncomputable def ai_holds (o : Nat) (a b : Int) : Prop := match o with
  | 0 => a = b
  | 1 => a ≠ b
  | 2 => a < b
  | 3 => b ≤ a
  | 4 => b < a
  | _ => a ≤ b
theorem ai_cmp_ok {r : Nat → Int} {E : ai_E} (hE : ai_gE r E) {o : Nat} {x y : ai_X} (hx : x.1 < E.1) (hy : y.1 < E.1) (h : ai_holds o (ai_vx r x) (ai_vx r y)) : ∃ E', ai_cmp E o x y = some E' ∧ ai_gE r E' ∧ E'.1 = E.1 := by
  match o, h with
  | 0, h => exact ai_same_ok hE hx hy h
  | 1, h => exact ai_differ_ok hE hx hy h
  | 2, h => exact ai_leq_ok hE hx hy (by have h : ai_vx r x < ai_vx r y := h; omega)
  | 3, h => exact ai_leq_ok hE hy hx (by have h : ai_vx r y ≤ ai_vx r x := h; omega)
  | 4, h => exact ai_leq_ok hE hy hx (by have h : ai_vx r y < ai_vx r x := h; omega)
  | n + 5, h => exact ai_leq_ok hE hx hy (by have h : ai_vx r x ≤ ai_vx r y := h; omega)
theorem ai_inv_ok {o : Nat} (ho : o < 6) {a b : Int} (h : ¬ ai_holds o a b) : ai_holds (ai_inv o) a b := by
  match o, ho, h with
  | 0, _, h => exact h
  | 1, _, h =>
    show a = b
    exact Decidable.of_not_not h
  | 2, _, h => exact Int.not_lt.mp h
  | 3, _, h => exact Int.not_le.mp h
  | 4, _, h => exact Int.not_lt.mp h
  | 5, _, h => exact Int.not_le.mp h
theorem ai_lcmp_ok {t : Nat} {p : ai_X × ai_X} : ∀ {l : List ai_D}, ai_lcmp t l = some p → (25, t, p.1, p.2) ∈ l
  | [], h => by cases h
  | (o, u, x, y) :: l, h => by
    unfold ai_lcmp at h
    cases e1 : Nat.beq u t with
    | false => rw [e1] at h; exact List.mem_cons_of_mem _ (ai_lcmp_ok h)
    | true => cases e2 : Nat.beq o 25 with
      | false => rw [e1, e2] at h; exact List.mem_cons_of_mem _ (ai_lcmp_ok h)
      | true =>
        rw [e1, e2] at h
        have e1 := Nat.eq_of_beq_eq_true e1
        have e2 := Nat.eq_of_beq_eq_true e2
        cases h
        subst e1; subst e2
        exact List.mem_cons_self
/-- the sign of a comparison -/
theorem ai_op25 (o : Nat) (a b : Int) : ai_holds o (ai_op 25 a b) 0 ↔ ai_holds o a b := by
  have key : (ai_op 25 a b = 0 ∧ a = b) ∨ (ai_op 25 a b = -1 ∧ a < b) ∨ (ai_op 25 a b = 1 ∧ b < a) := by
    show ((match ai_eq a b with | true => (0 : Int) | false => match ai_le a b with | true => -1 | false => 1) = 0 ∧ a = b) ∨ ((match ai_eq a b with | true => (0 : Int) | false => match ai_le a b with | true => -1 | false => 1) = -1 ∧ a < b) ∨ ((match ai_eq a b with | true => (0 : Int) | false => match ai_le a b with | true => -1 | false => 1) = 1 ∧ b < a)
    cases e1 : ai_eq a b with
    | true => exact Or.inl ⟨rfl, ai_eq_iff.mp e1⟩
    | false => cases e2 : ai_le a b with
      | true => exact Or.inr (Or.inl ⟨rfl, by have h1 := ai_eq_not.mp e1; have h2 := ai_le_iff.mp e2; omega⟩)
      | false => exact Or.inr (Or.inr ⟨rfl, ai_le_not.mp e2⟩)
  match o with
  | 0 => show _ = (0 : Int) ↔ a = b; omega
  | 1 => show _ ≠ (0 : Int) ↔ a ≠ b; omega
  | 2 => show _ < (0 : Int) ↔ a < b; omega
  | 3 => show (0 : Int) ≤ _ ↔ b ≤ a; omega
  | 4 => show (0 : Int) < _ ↔ b < a; omega
  | n + 5 => show _ ≤ (0 : Int) ↔ a ≤ b; omega
/-! ARRAYS -/
/-- what stands at a place -/
noncomputable def ai_ov (r : Nat → Int) (lo hi : Int) : List (ai_X × ai_X) → Nat → Int → Prop
  | [], _, v => lo ≤ v ∧ v ≤ hi
  | (i, x) :: l, j, v => (ai_vx r i = (j : Int) → v = ai_vx r x) ∧ (ai_vx r i ≠ (j : Int) → ai_ov r lo hi l j v)
noncomputable def ai_lw (N : Nat) (l : List (ai_X × ai_X)) : Prop := ∀ q ∈ l, q.1.1 < N ∧ q.2.1 < N
noncomputable def ai_gK (r : Nat → Int) (N : Nat) (lo hi : Int) (l : List (ai_X × ai_X)) (n : Nat) (g : Nat → Int) : Prop := ai_lw N l ∧ ∀ j, j < n → ai_ov r lo hi l j (g j)
theorem ai_ov_ext {r r' : Nat → Int} {N : Nat} (h : ai_ext N r r') {lo hi : Int} {j : Nat} {v : Int} : ∀ {l : List (ai_X × ai_X)}, ai_lw N l → ai_ov r lo hi l j v → ai_ov r' lo hi l j v
  | [], _, g => g
  | (i, x) :: l, hl, g => by
    have h1 := hl _ List.mem_cons_self
    unfold ai_ov at g ⊢
    rw [h.vx h1.1, h.vx h1.2]
    exact ⟨g.1, fun q => ai_ov_ext h (fun z hz => hl z (List.mem_cons_of_mem _ hz)) (g.2 q)⟩
theorem ai_kget_ok {r : Nat → Int} {E : ai_E} (hE : ai_gE r E) {lo hi : Int} {i : ai_X} (hi' : i.1 < E.1) {j : Nat} (hj : ai_vx r i = (j : Int)) {v : Int} : ∀ {l : List (ai_X × ai_X)}, ai_lw E.1 l → ai_ov r lo hi l j v → (match ai_kget E lo hi i l with | .inl z => z.1 < E.1 ∧ v = ai_vx r z | .inr b => b.1 ≤ v ∧ v ≤ b.2)
  | [], _, g => by
    unfold ai_kget
    obtain ⟨g1, g2⟩ : lo ≤ v ∧ v ≤ hi := g
    cases e : ai_eq lo hi with
    | true =>
      have e := ai_eq_iff.mp e
      refine ⟨hE.2.1, ?_⟩
      show v = r 0 + lo
      rw [hE.1]; omega
    | false => exact ⟨g1, g2⟩
  | (k, x) :: l, hl, g => by
    have h1 := hl _ List.mem_cons_self
    have hl' : ai_lw E.1 l := fun z hz => hl z (List.mem_cons_of_mem _ hz)
    obtain ⟨g1, g2⟩ := g
    unfold ai_kget
    cases e : ai_xeq i k with
    | true =>
      have e := ai_xeq_iff.mp e
      subst e
      exact ⟨h1.2, g1 hj⟩
    | false =>
      obtain ⟨a1, a2⟩ := ai_iv_ok hE hi'
      obtain ⟨b1, b2⟩ := ai_iv_ok hE h1.1
      obtain ⟨x1, x2⟩ := ai_iv_ok hE h1.2
      have rk := fun q => ai_kget_ok (lo := lo) (hi := hi) hE hi' hj hl' (g2 q)
      dsimp only
      cases e1 : ai_iv E i with
      | mk a b => cases e2 : ai_iv E k with
        | mk c d =>
          rw [e1] at a1 a2
          rw [e2] at b1 b2
          dsimp only at a1 a2 b1 b2 ⊢
          cases e3 : (Nat.beq i.1 k.1 || !(ai_le a d) || !(ai_le c b)) with
          | true =>
            refine rk ?_
            intro q
            rw [Bool.or_eq_true, Bool.or_eq_true] at e3
            rcases e3 with (e3 | e3) | e3
            · have e3 := Nat.eq_of_beq_eq_true e3
              have hne : i ≠ k := fun h => by
                have := ai_xeq_iff.mpr h
                rw [e] at this; cases this
              apply hne
              obtain ⟨t, c'⟩ := i
              obtain ⟨u, d'⟩ := k
              have e3 : t = u := e3
              subst e3
              have q : r t + d' = (j : Int) := q
              have hj : r t + c' = (j : Int) := hj
              rw [show c' = d' by omega]
            · have e3 : ai_le a d = false := by simpa using e3
              have := ai_le_not.mp e3
              omega
            · have e3 : ai_le c b = false := by simpa using e3
              have := ai_le_not.mp e3
              omega
          | false =>
            dsimp only
            by_cases q : ai_vx r k = (j : Int)
            · have hv := g1 q
              cases e4 : ai_kget E lo hi i l with
              | inl w =>
                dsimp only
                cases e5 : ai_iv E x with
                | mk p1 p2 => cases e6 : ai_iv E w with
                  | mk p3 p4 =>
                    rw [e5] at x1 x2
                    have g3 := ai_min_le (a := p1) (b := p3)
                    have g4 := ai_max_ge (a := p2) (b := p4)
                    dsimp only at x1 x2 ⊢
                    omega
              | inr w =>
                obtain ⟨p3, p4⟩ := w
                dsimp only
                cases e5 : ai_iv E x with
                | mk p1 p2 =>
                  rw [e5] at x1 x2
                  have g3 := ai_min_le (a := p1) (b := p3)
                  have g4 := ai_max_ge (a := p2) (b := p4)
                  dsimp only at x1 x2 ⊢
                  omega
            · have rr := rk q
              cases e4 : ai_kget E lo hi i l with
              | inl w =>
                rw [e4] at rr
                obtain ⟨w1, w2⟩ := ai_iv_ok hE rr.1
                have hv : v = ai_vx r w := rr.2
                dsimp only
                cases e5 : ai_iv E x with
                | mk p1 p2 => cases e6 : ai_iv E w with
                  | mk p3 p4 =>
                    rw [e6] at w1 w2
                    have g3 := ai_min_le (a := p1) (b := p3)
                    have g4 := ai_max_ge (a := p2) (b := p4)
                    dsimp only at w1 w2 ⊢
                    omega
              | inr w =>
                rw [e4] at rr
                obtain ⟨p3, p4⟩ := w
                have r1 : p3 ≤ v := rr.1
                have r2 : v ≤ p4 := rr.2
                dsimp only
                cases e5 : ai_iv E x with
                | mk p1 p2 =>
                  have g3 := ai_min_le (a := p1) (b := p3)
                  have g4 := ai_max_ge (a := p2) (b := p4)
                  dsimp only
                  omega
theorem ai_kdrop_sub {i : ai_X} : ∀ {l : List (ai_X × ai_X)} {q : ai_X × ai_X}, q ∈ ai_kdrop i l → q ∈ l
  | [], q, h => by cases h
  | (k, x) :: l, q, h => by
    unfold ai_kdrop at h
    cases e : ai_xeq i k with
    | true => rw [e] at h; exact List.mem_cons_of_mem _ h
    | false =>
      rw [e] at h
      rcases List.mem_cons.mp h with h | h
      · rw [h]; exact List.mem_cons_self
      · exact List.mem_cons_of_mem _ (ai_kdrop_sub h)
theorem ai_kdrop_ok {r : Nat → Int} {lo hi : Int} {i : ai_X} {j : Nat} (hj : ai_vx r i ≠ (j : Int)) {v : Int} : ∀ {l : List (ai_X × ai_X)}, ai_ov r lo hi l j v → ai_ov r lo hi (ai_kdrop i l) j v
  | [], g => g
  | (k, x) :: l, g => by
    unfold ai_kdrop
    cases e : ai_xeq i k with
    | true =>
      have e := ai_xeq_iff.mp e
      subst e
      exact g.2 hj
    | false => exact ⟨g.1, fun q => ai_kdrop_ok hj (g.2 q)⟩
theorem ai_kput_ok {r : Nat → Int} {N : Nat} {lo hi : Int} {l : List (ai_X × ai_X)} {n : Nat} {g : Nat → Int} (h : ai_gK r N lo hi l n g) {i z : ai_X} (hi' : i.1 < N) (hz : z.1 < N) {k : Nat} (hk : ai_vx r i = (k : Int)) {g' : Nat → Int} (hg1 : g' k = ai_vx r z) (hg2 : ∀ j, j ≠ k → g' j = g j) : ai_gK r N lo hi ((i, z) :: ai_kdrop i l) n g' := by
  refine ⟨fun q hq => ?_, fun j hj => ⟨fun e => ?_, fun e => ?_⟩⟩
  · rcases List.mem_cons.mp hq with rfl | hq
    · exact ⟨hi', hz⟩
    · exact h.1 q (ai_kdrop_sub hq)
  · have : j = k := by omega
    subst this
    exact hg1
  · have : j ≠ k := by intro q; subst q; exact e hk
    rw [hg2 j this]
    exact ai_kdrop_ok e (h.2 j hj)
theorem ai_inb_ok {r : Nat → Int} {E : ai_E} (hE : ai_gE r E) {i : ai_X} (hi' : i.1 < E.1) {n : Nat} (h : ai_inb E i n = true) : ∃ j : Nat, j < n ∧ ai_vx r i = (j : Int) := by
  obtain ⟨a1, a2⟩ := ai_iv_ok hE hi'
  unfold ai_inb at h
  cases e : ai_iv E i with
  | mk a b =>
    rw [e] at h a1 a2
    dsimp only at h a1 a2
    cases e1 : ai_le 0 a with
    | false => rw [e1] at h; cases h
    | true =>
      rw [e1] at h
      have e1 := ai_le_iff.mp e1
      have h := ai_le_iff.mp h
      have h : b ≤ (n : Int) - 1 := h
      exact ⟨(ai_vx r i).toNat, by omega, by omega⟩
end
