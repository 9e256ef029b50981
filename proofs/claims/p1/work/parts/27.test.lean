/-! TESTS -/
noncomputable def te_len (q : ai_Q) : Nat := match q with
  | none => 1000
  | some l => l.length
noncomputable def te_obj (c : Nat) : ai_G := ((11, [], []), (17, ai_tset 9 (ai_tnew none 9) 16 (some (.inl (c, ct_dflt c)))), 0, 0)
noncomputable def te_then (q : ai_Q) (f : ai_G → ai_Q) : ai_Q := match q with
  | some [(_, (E, h, _, _))] => f (E, h, 0, 0)
  | _ => none
noncomputable def te_x (mi : Nat) (a : List ai_V) : ai_Q := te_then (ct_run 100000 40 127 [.inr (.inr (some (some 16)))] (te_obj 11)) (fun G => ct_run 100000 40 mi (.inr (.inr (some (some 16))) :: a) G)
theorem te_19 : te_len (te_x 152 [.inl (0, 3)]) = 1 := by decide +kernel
theorem te_20 : te_len (te_x 152 [.inl (0, 1)]) = 1 := by decide +kernel
