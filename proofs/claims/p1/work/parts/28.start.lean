/-! THE LAW'S STARTS -/
/-- the script's numbers: those that are told are numbers, the others are symbols -/
noncomputable def st_ov : Nat → Nat → List (Nat × Int) → List (ai_X × ai_X)
  | 0, _, _ => []
  | n + 1, k, cs => ((0, Int.ofNat k), match cs.lookup (k + 1) with
    | some v => (0, v)
    | none => (k + 1, 0)) :: st_ov n (k + 1) cs
noncomputable def st_bd : Nat → Nat → List (Nat × Int × Int)
  | 0, _ => []
  | n + 1, k => (k + 1, ai_lo32, ai_hi32) :: st_bd n (k + 1)
/-- a start: bounds of the kind of call, bounds of single numbers, single numbers -/
noncomputable def st_G (k1 k2 : Int) (bx : List (Nat × Int × Int)) (cs : List (Nat × Int)) : ai_G :=
  ((12, (11, k1, k2) :: (bx ++ st_bd 10 0), [(5, 11, (1, 0), (0, 63))]), (16, ai_tset 9 (ai_tnew none 9) 0 (some (.inr (.inl (0, 10, ai_lo32, ai_hi32, st_ov 10 0 cs))))), 0, 0)
noncomputable def st_one : List (ai_R × ai_G) → Bool
  | [] => true
  | (r, _) :: l => match r with
    | .inr (some (.inl (0, .ofNat 1))) => st_one l
    | _ => false
noncomputable def st_yes (q : ai_Q) : Bool := match q with
  | some l => st_one l
  | none => false
noncomputable def st_law (mk : Nat → Nat → Option ai_AA) (G : ai_G) : ai_Q := ct_run mk 1000000 40 287 [.inr (.inr (some (some 0)))] G
noncomputable def mk_no : Nat → Nat → Option ai_AA := fun _ _ => none
