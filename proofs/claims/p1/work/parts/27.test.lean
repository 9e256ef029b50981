/-! TESTS -/
noncomputable def te_len (q : ai_Q) : Nat := match q with
  | none => 1000
  | some l => l.length
noncomputable def te_obj (c : Nat) : ai_G := ((11, [], []), (17, ai_tset 9 (ai_tnew none 9) 16 (some (.inl (c, ct_dflt c)))), 0, 0)
noncomputable def te_code (n : Int) : Nat → Option (ClassFile.Instr × Nat × Nat × Nat)
  | 0 => some (.iload_n 1, 1, 0, 0)
  | 1 => some (.sipush n, 3, 0, 0)
  | 4 => some (.if_icmp .ge 10, 3, 14, 0)
  | 7 => some (.iinc 1 1, 3, 0, 0)
  | 10 => some (.goto (-10), 3, 0, 0)
  | 14 => some (.iload_n 1, 1, 0, 0)
  | 15 => some (.ireturn, 1, 0, 0)
  | _ => none
noncomputable def te_loop (n : Int) : ai_Q := fr_run (te_code n, fun _ _ => none, (0, 0), fun _ => (0, 0), ct_dflt, ct_kind, fun _ _ _ => none, fun _ => none) 100000 [] false 0 [.inr (.inr none), .inl (0, 0), .inr (.inr none)] [] (te_obj 12)
theorem te_19 : te_len (te_loop 800) = 1 := by decide +kernel
