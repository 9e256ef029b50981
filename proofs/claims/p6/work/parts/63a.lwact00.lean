/-! THE LAW: a kind by what the script really has (printed by lawq.py) 0 -/
noncomputable def lx_P4 : List (Nat × Nat × Nat) := [(1, 0, 4), (106, 264, 1)]
noncomputable def lx_T4_a : List (Nat × us_C) := []
theorem lx_T4_a_ok : lt_all 60 lx_T4_a := trivial
theorem lx_a4_lo_lo : lx_ckA lx_T4_a (lx_b3 (.negSucc 2147483647, .negSucc 0) (.negSucc 2147483647, .negSucc 32768) (.negSucc 2147483647, .ofNat 2147483647)) [] lx_P4 4 = true := by decide +kernel
theorem lx_a4_lo_in : lx_ckA lx_T4_a (lx_b3 (.negSucc 2147483647, .negSucc 0) (.negSucc 32767, .ofNat 32767) (.negSucc 2147483647, .ofNat 2147483647)) [] lx_P4 4 = true := by decide +kernel
theorem lx_a4_lo_hi : lx_ckA lx_T4_a (lx_b3 (.negSucc 2147483647, .negSucc 0) (.ofNat 32768, .ofNat 2147483647) (.negSucc 2147483647, .ofNat 2147483647)) [] lx_P4 4 = true := by decide +kernel
theorem lx_a4_hi_lo : lx_ckA lx_T4_a (lx_b3 (.ofNat 12, .ofNat 2147483647) (.negSucc 2147483647, .negSucc 32768) (.negSucc 2147483647, .ofNat 2147483647)) [] lx_P4 4 = true := by decide +kernel
theorem lx_a4_hi_in : lx_ckA lx_T4_a (lx_b3 (.ofNat 12, .ofNat 2147483647) (.negSucc 32767, .ofNat 32767) (.negSucc 2147483647, .ofNat 2147483647)) [] lx_P4 4 = true := by decide +kernel
theorem lx_a4_hi_hi : lx_ckA lx_T4_a (lx_b3 (.ofNat 12, .ofNat 2147483647) (.ofNat 32768, .ofNat 2147483647) (.negSucc 2147483647, .ofNat 2147483647)) [] lx_P4 4 = true := by decide +kernel
theorem lx_a4_0_lo : lx_ckA lx_T4_a (lx_b3 (.ofNat 0, .ofNat 0) (.negSucc 2147483647, .negSucc 32768) (.negSucc 2147483647, .ofNat 2147483647)) [] lx_P4 4 = true := by decide +kernel
theorem lx_a4_0_in : lx_ckA lx_T4_a (lx_b3 (.ofNat 0, .ofNat 0) (.negSucc 32767, .ofNat 32767) (.negSucc 2147483647, .ofNat 2147483647)) [] lx_P4 4 = true := by decide +kernel
theorem lx_a4_0_hi : lx_ckA lx_T4_a (lx_b3 (.ofNat 0, .ofNat 0) (.ofNat 32768, .ofNat 2147483647) (.negSucc 2147483647, .ofNat 2147483647)) [] lx_P4 4 = true := by decide +kernel
theorem lx_a4_1_lo : lx_ckA lx_T4_a (lx_b3 (.ofNat 1, .ofNat 1) (.negSucc 2147483647, .negSucc 32768) (.negSucc 2147483647, .ofNat 2147483647)) [] lx_P4 4 = true := by decide +kernel
theorem lx_a4_1_in : lx_ckA lx_T4_a (lx_b3 (.ofNat 1, .ofNat 1) (.negSucc 32767, .ofNat 32767) (.negSucc 2147483647, .ofNat 2147483647)) [] lx_P4 4 = true := by decide +kernel
theorem lx_a4_1_hi : lx_ckA lx_T4_a (lx_b3 (.ofNat 1, .ofNat 1) (.ofNat 32768, .ofNat 2147483647) (.negSucc 2147483647, .ofNat 2147483647)) [] lx_P4 4 = true := by decide +kernel
