/-! TESTS -/
noncomputable def te_len (q : ai_Q) : Nat := match q with
  | none => 1000
  | some l => l.length
noncomputable def te_obj (c : Nat) : ai_G := ((11, [], []), (17, ai_tset 9 (ai_tnew none 9) 16 (some (.inl (c, ct_dflt c)))), 0, 0)
abbrev te_g : Type := Nat → Nat → Nat → List ai_V → List ai_V → ai_G → Option ai_S
noncomputable def g_iload (n : Nat) : te_g := fun nx a b L S G => ai_load ai_int n nx L S G
noncomputable def g_sipush (n : Int) : te_g := fun nx a b L S G => ai_go nx L (.inl (0, n) :: S) G
noncomputable def g_icmp (o : Nat) : te_g := fun nx a b L S G => match S with
    | .inl y :: .inl x :: S => ai_branch o a nx x y L S G
    | _ => none
noncomputable def g_iinc (n : Nat) (k : Int) : te_g := fun nx a b L S G => match ai_lget L n with
    | .inl x => match G with
      | (E, h, c, s) => match ai_bin E 0 x (0, k) with
        | (z, E) => match Nat.blt n L.length with
          | true => ai_go nx (ai_lset L n (.inl z)) S (E, h, c, s)
          | false => none
    | _ => none
noncomputable def g_goto : te_g := fun nx a b L S G => ai_go a L S G
noncomputable def g_ret : te_g := fun nx a b L S G => match S with
    | [.inl x] => some (.inr (.inr (.inr (some (.inl x)))))
    | _ => none
noncomputable def te_code (n : Int) : Nat → Option (te_g × Nat × Nat × Nat)
  | 0 => some (g_iload 1, 1, 0, 0)
  | 1 => some (g_sipush n, 3, 0, 0)
  | 4 => some (g_icmp 3, 3, 14, 0)
  | 7 => some (g_iinc 1 1, 3, 0, 0)
  | 10 => some (g_goto, 3, 0, 0)
  | 14 => some (g_iload 1, 1, 0, 0)
  | 15 => some (g_ret, 1, 0, 0)
  | _ => none
abbrev te_K : Type := Nat → List ai_V → List ai_V → ai_G → ai_Q
noncomputable def te_go1 (ih : te_K) (f : ai_F) : ai_Q := ih f.1 f.2.1 f.2.2.1 f.2.2.2
noncomputable def te_do (ih : te_K) (G : ai_G) (x : Option ai_S) : ai_Q := match x with
  | none => none
  | some (.inl fs) => ai_many (te_go1 ih) fs
  | some (.inr (.inl (mi, args, S', pc'))) => none
  | some (.inr (.inr r)) => some [(r, G)]
noncomputable def te_at (ih : te_K) (pc : Nat) (L S : List ai_V) (G : ai_G) (q : Option (te_g × Nat × Nat × Nat)) : ai_Q := match q with
  | none => none
  | some (g, len, a, b) => te_do ih G (g (pc + len) a b L S G)
noncomputable def te_run (code : Nat → Option (te_g × Nat × Nat × Nat)) (n : Nat) : te_K := Nat.rec (motive := fun _ => te_K) (fun _ _ _ _ => none) (fun _ ih pc L S G => te_at ih pc L S G (code pc)) n
noncomputable def te_loop (n : Int) : ai_Q := te_run (te_code n) 100000 0 [.inr (.inr none), .inl (0, 0), .inr (.inr none)] [] (te_obj 12)
theorem te_19 : te_len (te_loop 800) = 1 := by decide +kernel
