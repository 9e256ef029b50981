/-! THE LAW: a kind by what the script really has (printed by lawq.py) 2 -/
theorem lx_a4_7_lo : lx_ckA lx_T4_a (lx_b3 (.ofNat 7, .ofNat 7) (.negSucc 2147483647, .negSucc 32768) (.negSucc 2147483647, .ofNat 2147483647)) [] lx_P4 4 = true := by decide +kernel
theorem lx_a4_7_in : lx_ckA lx_T4_a (lx_b3 (.ofNat 7, .ofNat 7) (.negSucc 32767, .ofNat 32767) (.negSucc 2147483647, .ofNat 2147483647)) [] lx_P4 4 = true := by decide +kernel
theorem lx_a4_7_hi : lx_ckA lx_T4_a (lx_b3 (.ofNat 7, .ofNat 7) (.ofNat 32768, .ofNat 2147483647) (.negSucc 2147483647, .ofNat 2147483647)) [] lx_P4 4 = true := by decide +kernel
theorem lx_a4_8_lo : lx_ckA lx_T4_a (lx_b3 (.ofNat 8, .ofNat 8) (.negSucc 2147483647, .negSucc 32768) (.negSucc 2147483647, .ofNat 2147483647)) [] lx_P4 4 = true := by decide +kernel
theorem lx_a4_8_in : lx_ckA lx_T4_a (lx_b3 (.ofNat 8, .ofNat 8) (.negSucc 32767, .ofNat 32767) (.negSucc 2147483647, .ofNat 2147483647)) [] lx_P4 4 = true := by decide +kernel
theorem lx_a4_8_hi : lx_ckA lx_T4_a (lx_b3 (.ofNat 8, .ofNat 8) (.ofNat 32768, .ofNat 2147483647) (.negSucc 2147483647, .ofNat 2147483647)) [] lx_P4 4 = true := by decide +kernel
theorem lx_a4_9_lo : lx_ckA lx_T4_a (lx_b3 (.ofNat 9, .ofNat 9) (.negSucc 2147483647, .negSucc 32768) (.negSucc 2147483647, .ofNat 2147483647)) [] lx_P4 4 = true := by decide +kernel
theorem lx_a4_9_in : lx_ckA lx_T4_a (lx_b3 (.ofNat 9, .ofNat 9) (.negSucc 32767, .ofNat 32767) (.negSucc 2147483647, .ofNat 2147483647)) [] lx_P4 4 = true := by decide +kernel
theorem lx_a4_9_hi : lx_ckA lx_T4_a (lx_b3 (.ofNat 9, .ofNat 9) (.ofNat 32768, .ofNat 2147483647) (.negSucc 2147483647, .ofNat 2147483647)) [] lx_P4 4 = true := by decide +kernel
theorem lx_a4_10_lo : lx_ckA lx_T4_a (lx_b3 (.ofNat 10, .ofNat 10) (.negSucc 2147483647, .negSucc 32768) (.negSucc 2147483647, .ofNat 2147483647)) [] lx_P4 4 = true := by decide +kernel
theorem lx_a4_10_in : lx_ckA lx_T4_a (lx_b3 (.ofNat 10, .ofNat 10) (.negSucc 32767, .ofNat 32767) (.negSucc 2147483647, .ofNat 2147483647)) [] lx_P4 4 = true := by decide +kernel
theorem lx_a4_10_hi : lx_ckA lx_T4_a (lx_b3 (.ofNat 10, .ofNat 10) (.ofNat 32768, .ofNat 2147483647) (.negSucc 2147483647, .ofNat 2147483647)) [] lx_P4 4 = true := by decide +kernel
theorem lx_a4_11_lo : lx_ckA lx_T4_a (lx_b3 (.ofNat 11, .ofNat 11) (.negSucc 2147483647, .negSucc 32768) (.negSucc 2147483647, .ofNat 2147483647)) [] lx_P4 4 = true := by decide +kernel
theorem lx_a4_11_in : lx_ckA lx_T4_a (lx_b3 (.ofNat 11, .ofNat 11) (.negSucc 32767, .ofNat 32767) (.negSucc 2147483647, .ofNat 2147483647)) [] lx_P4 4 = true := by decide +kernel
theorem lx_a4_11_hi : lx_ckA lx_T4_a (lx_b3 (.ofNat 11, .ofNat 11) (.ofNat 32768, .ofNat 2147483647) (.negSucc 2147483647, .ofNat 2147483647)) [] lx_P4 4 = true := by decide +kernel
