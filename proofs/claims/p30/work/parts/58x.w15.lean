/-! WAY: behind (the class) -/
noncomputable def qa_bL (a : Nat) : List ai_V := [wa_r 198, wa_i 403, wa_k a, wa_u, wa_u, wa_u, wa_u]
noncomputable def qa_bN (p b : Nat) (u v : ai_V) : List ai_V := [wa_r 198, wa_i 403, wa_k (9 + p), wa_k p, wa_k b, u, v]
noncomputable def qa_xm (a : Nat) : pt_X := [(0, 403, 0), (1, 0, .ofNat (2 ^ (4 + a))), (2, 6, 0), (1, 0, 1), (0, 135 + a, 0), (2, 8, 0), (2, 6, 0)]
noncomputable def qa_xv (p : Nat) : pt_X := [(0, 403, 0), (1, 0, .ofNat (2 ^ (8 + p))), (2, 6, 0)]
noncomputable def qa_mE (a : Nat) : List pt_E := [((49, 0, 0), (qa_bL a, [wa_i 403]), [], [(0, wq_p 75, wq_k a)]),
  ((19, 0, 0), (qa_bL a, [wa_k a, wa_i 403, wa_r 198]), [], [(0, wq_k (a + 1), wq_p 75)])]
noncomputable def qa_m2E (a : Nat) : List pt_E := [((49, 0, 0), (qa_bL a, [wa_i 403]), [], [(0, wq_p 482, wq_k 0)]),
  ((49, 0, 0), (qa_bL a, [wa_i 483]), [(483, qa_xm a)], [(1, wq_p 482, wq_k 0)])]
theorem qa_m_c : (List.range 4).all (fun a => (pt_row qaY 122 [19, 49] true (0, 0, 0) (qa_bL a) [] [] [(403, (0, 4095))] [] [] (qa_mE a) && pt_row qaY 122 [49] false (22, 0, 0) (qa_bL a) [wa_i 482] [] [(403, (0, 4095))] [] [] (qa_m2E a)) && (cy_vk 122 19 124 qaY.2.1 [wa_k a, wa_i 403, wa_r 198] [wa_r 198, wa_i 403, wa_k a] [] && pt_cck qaY 122 124 (19, 0, 0) 1 482 (qa_bL a) [] [wa_r 198, wa_i 403, wa_k a] [wa_r 198, wa_i 403, wa_i 404])) = true := by decide +kernel
theorem qa_l_c : (List.range 5).all (fun l => pt_row qaY 122 [61] true (0, 0, 0) (qa_bL (4 + l)) [] [] [] [] [] [((61, 0, 0), (qa_bL (4 + l), [wa_k l, wa_i 403, wa_r 198]), [], [])] && (cy_vk 122 61 123 qaY.2.1 [wa_k l, wa_i 403, wa_r 198] [wa_r 198, wa_i 403, wa_k l] [] && pt_cck qaY 122 123 (61, 0, 0) 1 482 (qa_bL (4 + l)) [] [wa_r 198, wa_i 403, wa_k l] [wa_r 198, wa_i 403, wa_i 404])) = true := by decide +kernel
noncomputable def qa_vE (p : Nat) : List pt_E := [((99, 0, 0), (qa_bN p 0 wa_u wa_u, [wa_i 403, wa_r 198]), [], [(0, wq_p 73, wq_k p)]),
  ((99, 0, 0), (qa_bN p 0 wa_u wa_u, [wa_i 403, wa_r 198]), [], [(0, wq_k (p + 1), wq_p 73), (0, wq_b 403 p, wq_k 0)]),
  ((99, 0, 0), (qa_bN p 1 wa_u wa_u, [wa_i 403, wa_r 198]), [], [(0, wq_k (p + 1), wq_p 73), (0, wq_k 1, wq_b 403 p)])]
noncomputable def qa_vW (q p : Nat) : List (Nat × pt_X) := [(407, [(0, 482, 0), (0, 171 + (4 * p + q), 0), (2, 0, 0)]), (70, wq_k q)]
noncomputable def qa_v2E (q p : Nat) : List pt_E := [((166, 0, 0), (qa_bN p 1 (wa_i 407) (wa_k 0), [wa_i 403]), qa_vW q p, [(0, wq_k 1, wq_b 403 (8 + p))]),
  ((135, 0, 0), (qa_bN p 1 (wa_i 407) wa_u, [wa_i 403, wa_r 198]), qa_vW q p, [(0, wq_b 403 (8 + p), wq_k 0)])]
noncomputable def qa_v3E (p : Nat) : List pt_E := [((166, 0, 0), (qa_bN p 1 (wa_i 407) (wa_k 0), [wa_i 403]), [], [(0, wq_p 483, [(0, 407, 0), (3, 0, -1)])]),
  ((166, 0, 0), (qa_bN p 1 (wa_i 407) (wa_k 1), [wa_i 482]), [(482, qa_xv p)], [(0, wq_p 407, wq_p 483)])]
theorem qa_v_c : (List.range 4).all (fun p => pt_row qaY 122 [99] true (0, 0, 0) (qa_bL (9 + p)) [] [] [(403, (0, 4095))] [] [] (qa_vE p) && (pt_row qaY 122 [166] false (138, 0, 0) (qa_bN p 1 (wa_i 407) wa_u) [wa_i 483] [] [(403, (0, 4095))] [] [] (qa_v3E p) && (List.range 4).all (fun q => pt_row qaY 122 [135, 166] false (102, 0, 0) (qa_bN p 1 wa_u wa_u) [wa_i 482] [(70, .ofNat q)] [(403, (0, 4095))] [] [] (qa_v2E q p) && pt_row qaY 122 [135, 166] false (102, 0, 0) (qa_bN p 0 wa_u wa_u) [wa_i 482] [(70, .ofNat q)] [(403, (0, 4095))] [] [] [((166, 0, 0), (qa_bN p 0 (wa_i 407) (wa_k 0), [wa_i 403]), qa_vW q p, [])]))) = true := by decide +kernel
theorem qa_v_k : (List.range 4).all (fun p => (List.range 2).all (fun b => cy_vk 122 99 126 qaY.2.1 [wa_i 403, wa_r 198] [wa_r 198, wa_i 403] [] && pt_cck qaY 122 126 (99, 0, 0) 1 482 (qa_bN p b wa_u wa_u) [] [wa_r 198, wa_i 403] [wa_r 198, wa_i 403]) && (cy_vk 122 135 125 qaY.2.1 [wa_i 403, wa_r 198] [wa_r 198, wa_i 403] [] && pt_cck qaY 122 125 (135, 0, 0) 1 483 (qa_bN p 1 (wa_i 407) wa_u) [] [wa_r 198, wa_i 403] [wa_r 198, wa_i 403])) = true := by decide +kernel
