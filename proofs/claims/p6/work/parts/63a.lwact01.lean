/-! THE LAW: a kind by what the script really has (printed by lawq.py) 1 -/
theorem lx_a4_2_lo : lx_ckA lx_T4_a (lx_b3 (.ofNat 2, .ofNat 2) (.negSucc 2147483647, .negSucc 32768) (.negSucc 2147483647, .ofNat 2147483647)) [] lx_P4 4 = true := by decide +kernel
theorem lx_a4_2_in : lx_ckA lx_T4_a (lx_b3 (.ofNat 2, .ofNat 2) (.negSucc 32767, .ofNat 32767) (.negSucc 2147483647, .ofNat 2147483647)) [] lx_P4 4 = true := by decide +kernel
theorem lx_a4_2_hi : lx_ckA lx_T4_a (lx_b3 (.ofNat 2, .ofNat 2) (.ofNat 32768, .ofNat 2147483647) (.negSucc 2147483647, .ofNat 2147483647)) [] lx_P4 4 = true := by decide +kernel
theorem lx_a4_3_lo : lx_ckA lx_T4_a (lx_b3 (.ofNat 3, .ofNat 3) (.negSucc 2147483647, .negSucc 32768) (.negSucc 2147483647, .ofNat 2147483647)) [] lx_P4 4 = true := by decide +kernel
theorem lx_a4_3_in : lx_ckA lx_T4_a (lx_b3 (.ofNat 3, .ofNat 3) (.negSucc 32767, .ofNat 32767) (.negSucc 2147483647, .ofNat 2147483647)) [] lx_P4 4 = true := by decide +kernel
theorem lx_a4_3_hi : lx_ckA lx_T4_a (lx_b3 (.ofNat 3, .ofNat 3) (.ofNat 32768, .ofNat 2147483647) (.negSucc 2147483647, .ofNat 2147483647)) [] lx_P4 4 = true := by decide +kernel
theorem lx_a4_4_lo : lx_ckA lx_T4_a (lx_b3 (.ofNat 4, .ofNat 4) (.negSucc 2147483647, .negSucc 32768) (.negSucc 2147483647, .ofNat 2147483647)) [] lx_P4 4 = true := by decide +kernel
theorem lx_a4_4_in : lx_ckA lx_T4_a (lx_b3 (.ofNat 4, .ofNat 4) (.negSucc 32767, .ofNat 32767) (.negSucc 2147483647, .ofNat 2147483647)) [] lx_P4 4 = true := by decide +kernel
theorem lx_a4_4_hi : lx_ckA lx_T4_a (lx_b3 (.ofNat 4, .ofNat 4) (.ofNat 32768, .ofNat 2147483647) (.negSucc 2147483647, .ofNat 2147483647)) [] lx_P4 4 = true := by decide +kernel
theorem lx_a4_5_lo : lx_ckA lx_T4_a (lx_b3 (.ofNat 5, .ofNat 5) (.negSucc 2147483647, .negSucc 32768) (.negSucc 2147483647, .ofNat 2147483647)) [] lx_P4 4 = true := by decide +kernel
theorem lx_a4_5_in : lx_ckA lx_T4_a (lx_b3 (.ofNat 5, .ofNat 5) (.negSucc 32767, .ofNat 32767) (.negSucc 2147483647, .ofNat 2147483647)) [] lx_P4 4 = true := by decide +kernel
theorem lx_a4_5_hi : lx_ckA lx_T4_a (lx_b3 (.ofNat 5, .ofNat 5) (.ofNat 32768, .ofNat 2147483647) (.negSucc 2147483647, .ofNat 2147483647)) [] lx_P4 4 = true := by decide +kernel
theorem lx_a4_6_lo : lx_ckA lx_T4_a (lx_b3 (.ofNat 6, .ofNat 6) (.negSucc 2147483647, .negSucc 32768) (.negSucc 2147483647, .ofNat 2147483647)) [] lx_P4 4 = true := by decide +kernel
theorem lx_a4_6_in : lx_ckA lx_T4_a (lx_b3 (.ofNat 6, .ofNat 6) (.negSucc 32767, .ofNat 32767) (.negSucc 2147483647, .ofNat 2147483647)) [] lx_P4 4 = true := by decide +kernel
theorem lx_a4_6_hi : lx_ckA lx_T4_a (lx_b3 (.ofNat 6, .ofNat 6) (.ofNat 32768, .ofNat 2147483647) (.negSucc 2147483647, .ofNat 2147483647)) [] lx_P4 4 = true := by decide +kernel
