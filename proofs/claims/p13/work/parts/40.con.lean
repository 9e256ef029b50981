/-! CONTRACTS, FIRST LAYER -/
noncomputable def cu_marks : List (Nat × List (Nat × ai_AA)) → Nat → Nat → Option ai_AA
  | [], _ => fun _ => none
  | (m, l) :: t, mi => match Nat.beq m mi with
    | true => ai_mark l
    | false => cu_marks t mi
noncomputable def cu_none : ai_H := (336, ai_tnew none 9)
abbrev cu_i32 : Int × Int := (-2147483648, 2147483647)
/-- two: any code, any numbers; a number -/
noncomputable def cu_two : us_C := ([cu_i32, cu_i32, cu_i32], [.inl (1, 0), .inl (2, 0), .inl (3, 0)], cu_none, [(.inr (some (.inl (4, 0))), [cu_i32], cu_none)])
noncomputable def cu_mk : Nat → Nat → Option ai_AA := cu_marks [(205, [(56, (([], [], [], [], 2, true), some (1002, 0), [], []))])]
noncomputable def cu_run (tab : Nat → Option us_C) (mi : Nat) (C : us_C) : ai_Q := fl_meth (ct_meth cu_mk) tab ct_bud ct_dflt ct_kind 100000 20 mi C.2.1 (sm_E (1, [], []) C.1, C.2.2.1, 0, 0)
theorem cu_two_ck : us_ck cu_two = true := by decide +kernel
theorem cu_two_ev : fl_get cu_two (cu_run (fun _ => none) 205 cu_two) = true := by decide +kernel
