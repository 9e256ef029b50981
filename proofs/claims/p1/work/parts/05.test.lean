noncomputable def te_scr (a : List Int) : ai_C := .inr (.inl (0, 10, -2147483648, 2147483647, (List.range 10).zipWith (fun i v => ((0, Int.ofNat i), (0, v))) a))
noncomputable def te_h (a : List Int) : ai_H := (16, ai_tset 9 (ai_tnew none 9) 0 (some (te_scr a)))
noncomputable def te_G (a : List Int) : ai_G := ((11, [], []), te_h a, 0, 0)
noncomputable def te_ok (q : ai_Q) : Bool := match q with
  | some [(.inr (some (.inl (0, .ofNat 1))), _)] => true
  | _ => false
noncomputable def te_run (fuel : Nat) (a : List Int) : Bool := te_ok (ct_run fuel 40 287 [.inr (.inr (some (some 0)))] (te_G a))
noncomputable def te_len (q : ai_Q) : Nat := match q with
  | none => 1000
  | some l => l.length
noncomputable def te_obj (c : Nat) : ai_G := ((11, [], []), (17, ai_tset 9 (ai_tnew none 9) 16 (some (.inl (c, ct_dflt c)))), 0, 0)
noncomputable def te_then (q : ai_Q) (f : ai_G → ai_Q) : ai_Q := match q with
  | some [(_, (E, h, _, _))] => f (E, h, 0, 0)
  | _ => none
noncomputable def te_x (mi : Nat) (a : List ai_V) : ai_Q := te_then (ct_run 100000 40 127 [.inr (.inr (some (some 16)))] (te_obj 11)) (fun G => ct_run 100000 40 mi (.inr (.inr (some (some 16))) :: a) G)
noncomputable def te_m (mi : Nat) (a : List ai_V) : ai_Q := te_then (ct_run 100000 40 167 [.inr (.inr (some (some 16)))] (te_obj 12)) (fun G => ct_run 100000 40 mi (.inr (.inr (some (some 16))) :: a) G)
theorem te_20 : te_len (te_x 152 [.inl (0, 1)]) = 1 := by decide +kernel
theorem te_21 : te_len (te_m 240 [.inl (0, 1)]) = 1 := by decide +kernel
theorem te_22 : te_len (te_m 238 [.inl (0, 1), .inl (0, 0)]) = 1 := by decide +kernel
theorem te_23 : te_len (te_m 239 [.inl (0, 1)]) = 1 := by decide +kernel
theorem te_24 : te_len (te_m 225 []) = 1 := by decide +kernel
