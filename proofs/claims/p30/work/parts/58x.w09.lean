/-! WAY: behind (the reference), a mill -/
noncomputable def wa_n : ai_V := .inl (0, .negSucc 0)
noncomputable def qb_bL (q a : Nat) : List ai_V := [wa_r 264, wa_i 402, wa_k a, wa_k q, wa_u, wa_u, wa_u, wa_u, wa_u, wa_u]
noncomputable def qb_bN (q a : Nat) (u : ai_V) : List ai_V := [wa_r 264, wa_i 402, wa_k a, wa_k q, wa_i 405, wa_i 406, wa_i 407, u, wa_u, wa_u]
noncomputable def qb_bW : List (Nat × pt_X) := [(405, [(0, 402, 0), (1, 0, 15), (2, 5, 0)]), (406, [(0, 402, 0), (1, 0, 4), (2, 9, 0), (1, 0, 15), (2, 5, 0)]), (407, [(0, 402, 0), (1, 0, 8), (2, 9, 0)])]
noncomputable def qb_xl (t : Nat × Nat × Int) : pt_X := [(0, 402, 0), (1, 0, 15), (2, 5, 0), t, (2, 9, 0), (1, 0, 1), (2, 5, 0)]
noncomputable def qb_xo (a : Nat) : pt_X := [(0, 402, 0), (1, 0, 4), (2, 9, 0), (1, 0, 15), (2, 5, 0), (1, 0, .ofNat a), (2, 9, 0), (1, 0, 1), (2, 5, 0)]
noncomputable def qb_xs (p : Nat) : pt_X := [(0, 402, 0), (1, 0, 8), (2, 9, 0), (1, 0, .ofNat p), (2, 9, 0), (1, 0, 1), (2, 5, 0)]
noncomputable def qb_xm (a : Nat) : pt_X := [(0, 402, 0), (1, 0, .ofNat (2 ^ (4 + a))), (2, 6, 0), (1, 0, 1), (0, 135 + a, 0), (2, 8, 0), (2, 6, 0)]
noncomputable def wq_p (t : Nat) : pt_X := [(0, t, 0)]
noncomputable def qb_mE (q a : Nat) : List pt_E := [((44, 0, 0), (qb_bN q a wa_u, [wa_n]), qb_bW, [(0, wq_p 75, wq_k a)]),
  ((44, 0, 0), (qb_bN q a wa_u, [wa_n]), qb_bW, [(0, wq_k (a + 1), wq_p 75), (0, wq_k 1, qb_xo a)]),
  ((124, 0, 0), (qb_bN q a (wa_k 1), [wa_i 481]), qb_bW ++ [(481, qb_xm a)], [(0, wq_k (a + 1), wq_p 75), (0, qb_xo a, wq_k 0), (0, wq_k 1, wq_p (371 + a))]),
  ((124, 0, 0), (qb_bN q a (wa_k 0), [wa_n]), qb_bW, [(0, wq_k (a + 1), wq_p 75), (0, qb_xo a, wq_k 0), (0, wq_p (371 + a), wq_k 0), (0, qb_xl (0, 135 + a, 0), wq_k 0)]),
  ((73, 0, 0), (qb_bN q a wa_u, [wa_k q, wa_i 406, wa_r 264]), qb_bW, [(0, wq_k (a + 1), wq_p 75), (0, qb_xo a, wq_k 0), (0, wq_p (371 + a), wq_k 0), (0, wq_k 1, qb_xl (0, 135 + a, 0))])]
theorem qb_m_c : (List.range 4).all (fun q => (List.range 4).all (fun a => pt_row qbY 251 [44, 73, 124] true (0, 0, 0) (qb_bL q a) [] [] [(402, (0, 4095))] [] [] (qb_mE q a))) = true := by decide +kernel
noncomputable def qb_m2E (q a : Nat) : List pt_E := [((124, 0, 0), (qb_bN q a (wa_k 1), [wa_i 481]), [(481, qb_xm a)], [(0, [(0, 482, 0), (0, 375 + a, 0), (2, 0, 0)], wq_p 481)]),
  ((124, 0, 0), (qb_bN q a (wa_k 0), [wa_n]), [], [(0, wq_p 481, [(0, 482, 0), (0, 375 + a, 0), (2, 0, 0), (3, 0, -1)])])]
theorem qb_m2_c : (List.range 4).all (fun q => (List.range 4).all (fun a => pt_row qbY 251 [80] false (76, 0, 0) (qb_bN q a wa_u) [wa_i 481] [] [] [] [] [((80, 0, 0), (qb_bN q a wa_u, [wa_k q, wa_i 407, wa_r 264, wa_i 481]), [], [])] && pt_row qbY 251 [124] false (83, 0, 0) (qb_bN q a wa_u) [wa_i 482, wa_i 481] [] [(402, (0, 4095))] [] [] (qb_m2E q a))) = true := by decide +kernel
theorem qb_m_k : (List.range 4).all (fun q => (List.range 4).all (fun a => (cy_vk 251 73 249 qbY.2.1 [wa_k q, wa_i 406, wa_r 264] [wa_r 264, wa_i 406, wa_k q] [] && pt_cck qbY 251 249 (73, 0, 0) 1 481 (qb_bN q a wa_u) [] [wa_r 264, wa_i 406, wa_k q] [wa_r 264, wa_i 402, wa_i 403]) && (cy_vk 251 80 250 qbY.2.1 [wa_k q, wa_i 407, wa_r 264, wa_i 481] [wa_r 264, wa_i 407, wa_k q] [wa_i 481] && pt_cck qbY 251 250 (80, 0, 0) 1 482 (qb_bN q a wa_u) [wa_i 481] [wa_r 264, wa_i 407, wa_k q] [wa_r 264, wa_i 402, wa_i 403]))) = true := by decide +kernel
