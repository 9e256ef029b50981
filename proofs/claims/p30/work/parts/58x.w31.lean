/-! WAY: the reference's way: rows -/
noncomputable def qb_wL (e a t : ai_V) : List ai_V := [wa_r 264, wa_i 402, wa_i 403, wa_i 404, e, a, t]
noncomputable def qb_w6 : List ai_V := qb_wL (wa_k 0) (wa_i 406) (wa_i 407)
noncomputable def qb_wz (a t : ai_V) : List ai_V := [wa_r 264, wa_i 402, wa_u, wa_i 404, wa_i 405, a, t]
noncomputable def qb_wS : List ai_V := [wa_i 402, wa_i 406, wa_i 404, wa_r 264]
noncomputable def qb_wA : List ai_V := [wa_r 264, wa_i 404, wa_i 406, wa_i 402]
noncomputable def qb_wB : List ai_V := [wa_r 264, wa_i 402, wa_i 403, wa_i 404]
noncomputable def qb_x15 : pt_X := [(0, 404, 0), (1, 0, 15), (2, 5, 0)]
noncomputable def qb_x8 : pt_X := [(0, 404, 0), (1, 0, 8), (2, 9, 0)]
noncomputable def qb_xd (t : Nat) (c : Int) : pt_X := [(0, t, 0), (3, 0, c)]
noncomputable def qb_wE : List pt_E := [((73, 0, 0), (qb_wL (wa_k 1) wa_u wa_u, [wa_k 0, wa_i 404, wa_r 329]), [], [(0, qb_x15, wq_p 403), (0, wq_p 403, qb_x15), (0, qb_x8, wq_p 403), (0, wq_p 403, qb_x8)]),
  ((73, 0, 0), (qb_wL (wa_k 0) wa_u wa_u, [wa_n, wa_i 404, wa_r 329]), [], [(1, qb_x15, wq_p 403)]),
  ((73, 0, 0), (qb_wL (wa_k 0) wa_u wa_u, [wa_n, wa_i 404, wa_r 329]), [], [(1, qb_x8, wq_p 403)])]
theorem qb_w_c0 : (List.range 5).all (fun p => pt_row qbY 252 [31] true (0, 0, 0) [wa_r 264, wa_i 402, wa_u, wa_u, wa_u, wa_u, wa_u] [] [] [(73, (.ofNat p, .ofNat p)), (402, (0, 3))] [] [] [((31, 0, 0), (qb_wL wa_u wa_u wa_u, []), [(72, wq_k 0), (403, wq_k (2 ^ p - 1)), (404, wq_k 4095)], [])]) = true := by decide +kernel
theorem qb_w_c1 : pt_row qbY 252 [73, 171] true (31, 0, 0) (qb_wL wa_u wa_u wa_u) [] [] [(404, (0, 4095))] [] [] qb_wE = true ∧
    pt_row qbY 252 [73, 171] true (31, 0, 0) (qb_wL wa_u wa_u wa_u) [] [] [(404, (-1, -1))] [] [] [((171, 0, 0), (qb_wL wa_u wa_u wa_u, []), [], [])] = true ∧
    pt_row qbY 252 [77] false (74, 0, 0) (qb_wL (wa_k 0) wa_u wa_u) [] [] [] [] [] [((77, 0, 0), (qb_wL (wa_k 0) (wa_i 406) wa_u, []), [(406, wq_k 0)], [])] = true ∧
    pt_row qbY 252 [31] false (74, 0, 0) (qb_wL (wa_k 1) wa_u wa_u) [] [] [(404, (0, 4095))] [] [] [((31, 0, 0), (qb_wL wa_u wa_u wa_u, []), [(404, qb_xd 404 (-1))], [])] = true := by decide +kernel
theorem qb_w_c2 : pt_row qbY 252 [31, 94] true (77, 0, 0) (qb_wL (wa_k 0) (wa_i 406) wa_u) [] [] [(406, (0, 12))] [] [] [((94, 0, 0), (qb_wL (wa_k 0) (wa_i 406) wa_u, qb_wS), [], [])] = true ∧
    pt_row qbY 252 [31, 94] true (77, 0, 0) (qb_wL (wa_k 0) (wa_i 406) wa_u) [] [] [(406, (13, 13)), (404, (0, 4095))] [] [] [((31, 0, 0), (qb_wL wa_u wa_u wa_u, []), [(404, qb_xd 404 (-1))], [])] = true ∧
    pt_row qbY 252 [111, 159] false (97, 0, 0) (qb_wL (wa_k 0) (wa_i 406) wa_u) [wa_i 481] [] [(481, (-1, -1))] [] [] [((159, 0, 0), (qb_wL (wa_k 0) (wa_i 406) wa_u, []), [], [])] = true ∧
    pt_row qbY 252 [111, 159] false (97, 0, 0) (qb_wL (wa_k 0) (wa_i 406) wa_u) [wa_i 481] [] [(481, (0, 4095))] [] [] [((111, 0, 0), (qb_w6, [wa_i 407, wa_r 329]), [(407, wq_p 481)], [])] = true := by decide +kernel
theorem qb_w_c3 : pt_row qbY 252 [121, 159] false (112, 0, 0) qb_w6 [wa_i 481] [] [(481, (-1, -1))] [] [] [((159, 0, 0), (qb_wL (wa_k 0) (wa_i 406) wa_u, []), [], [])] = true ∧
    pt_row qbY 252 [121, 159] false (112, 0, 0) qb_w6 [wa_i 481] [] [(481, (0, 12))] [] [] [((121, 0, 0), (qb_w6, [wa_i 404, wa_r 329]), [], [])] = true ∧
    pt_row qbY 252 [132, 155] false (122, 0, 0) qb_w6 [wa_i 481] [] [(481, (-1, -1))] [] [] [((155, 0, 0), (qb_w6, [wa_i 407, wa_r 329, wa_i 404, wa_r 329]), [], [])] = true ∧
    pt_row qbY 252 [132, 155] false (122, 0, 0) qb_w6 [wa_i 481] [] [(481, (0, 2147483647))] [] [] [((132, 0, 0), (qb_w6, [wa_i 407, wa_r 329]), [], [])] = true := by decide +kernel
noncomputable def qb_w41 : List pt_E := [((159, 0, 0), (qb_wL (wa_k 0) (wa_i 406) wa_u, []), [], [(0, wq_p 481, wq_p 482)]), ((155, 0, 0), (qb_w6, [wa_i 407, wa_r 329, wa_i 404, wa_r 329]), [], [(0, wq_p 482, qb_xd 481 (-1))])]
theorem qb_w_c4 : pt_row qbY 252 [140] false (133, 0, 0) qb_w6 [wa_i 481] [] [(481, (0, 12))] [] [] [((140, 0, 0), (qb_w6, [wa_i 404, wa_r 329, wa_i 482]), [(482, qb_xd 481 1)], [])] = true ∧
    pt_row qbY 252 [155, 159] false (141, 0, 0) qb_w6 [wa_i 481, wa_i 482] [] [] [] [] qb_w41 = true ∧
    pt_row qbY 252 [158] false (156, 0, 0) qb_w6 [wa_i 481, wa_i 404, wa_r 329] [] [(481, (0, 12))] [] [] [((158, 0, 0), (qb_w6, [wa_i 482, wa_i 404, wa_r 329]), [(482, qb_xd 481 1)], [])] = true ∧
    pt_row qbY 252 [77] false (159, 0, 0) (qb_wL (wa_k 0) (wa_i 406) wa_u) [] [] [(406, (0, 12))] [] [] [((77, 0, 0), (qb_wL (wa_k 0) (wa_i 406) wa_u, []), [(406, qb_xd 406 1)], [])] = true := by decide +kernel
theorem qb_w_c5 : pt_row qbY 252 [176] false (171, 0, 0) (qb_wL wa_u wa_u wa_u) [] [] [] [] [] [((176, 0, 0), (qb_wL wa_u wa_u wa_u, [wa_k 0, wa_r 329]), [], [])] = true ∧
    pt_row qbY 252 [182, 189] false (177, 0, 0) (qb_wL wa_u wa_u wa_u) [wa_i 481] [] [(481, (-1, -1))] [] [] [((182, 0, 0), (qb_wL wa_u wa_u wa_u, [wa_n]), [], [])] = true ∧
    pt_row qbY 252 [182, 189] false (177, 0, 0) (qb_wL wa_u wa_u wa_u) [wa_i 481] [] [(481, (0, 12))] [] [] [((189, 0, 0), (qb_wL wa_u wa_u wa_u, [wa_k 0, wa_r 329, wa_r 264]), [], [])] = true ∧
    pt_row qbY 252 [198] false (190, 0, 0) (qb_wL wa_u wa_u wa_u) [wa_i 481, wa_r 264] [] [(481, (0, 12))] [] [] [((198, 0, 0), (qb_wz wa_u wa_u, []), [(112, wq_p 481), (404, wq_k 0), (405, wq_k 0)], [])] = true := by decide +kernel
noncomputable def qb_w98 : List pt_E := [((293, 0, 0), (qb_wz wa_u wa_u, [wa_i 481]), [(481, wq_p 112)], [(0, wq_p 112, wq_p 405)]), ((215, 0, 0), (qb_wz (wa_i 406) wa_u, qb_wS), [(406, wq_k 0)], [(0, wq_p 405, qb_xd 112 (-1))])]
theorem qb_w_c6 : pt_row qbY 252 [215, 293] true (198, 0, 0) (qb_wz wa_u wa_u) [] [] [] [] [] qb_w98 = true ∧
    pt_row qbY 252 [220] false (218, 0, 0) (qb_wz (wa_i 406) wa_u) [wa_i 481] [] [] [] [] [((220, 0, 0), (qb_wz (wa_i 406) (wa_i 407), []), [(407, wq_p 481)], [])] = true ∧
    pt_row qbY 252 [220] false (266, 0, 0) (qb_wz (wa_i 406) wa_u) [wa_i 481] [] [] [] [] [((220, 0, 0), (qb_wz (wa_i 406) (wa_i 407), []), [(407, wq_p 481)], [])] = true := by decide +kernel
theorem qb_w_c7 : pt_row qbY 252 [232, 263] true (220, 0, 0) (qb_wz (wa_i 406) (wa_i 407)) [] [] [(407, (-1, -1)), (406, (0, 12))] [] [] [((263, 0, 0), (qb_wz (wa_i 406) wa_u, qb_wS), [(406, qb_xd 406 1)], [])] = true ∧
    pt_row qbY 252 [232, 263] true (220, 0, 0) (qb_wz (wa_i 406) (wa_i 407)) [] [] [(407, (0, 4095)), (406, (0, 12))] [] [] [((232, 0, 0), (qb_wz (wa_i 406) (wa_i 407), [wa_i 407, wa_r 329]), [], [])] = true ∧
    pt_row qbY 252 [243, 263] false (233, 0, 0) (qb_wz (wa_i 406) (wa_i 407)) [wa_i 481] [] [(481, (-1, -1)), (406, (0, 12))] [] [] [((263, 0, 0), (qb_wz (wa_i 406) wa_u, qb_wS), [(406, qb_xd 406 1)], [])] = true ∧
    pt_row qbY 252 [243, 263] false (233, 0, 0) (qb_wz (wa_i 406) (wa_i 407)) [wa_i 481] [] [(481, (0, 12)), (406, (0, 12))] [] [] [((243, 0, 0), (qb_wz (wa_i 406) (wa_i 407), [wa_i 407, wa_r 329]), [], [])] = true := by decide +kernel
noncomputable def qb_w52 : List pt_E := [((279, 0, 0), (qb_wz (wa_i 406) (wa_i 407), [wa_i 406, wa_i 405, wa_r 330]), [], [(0, wq_p 481, wq_p 482), (0, wq_p 482, wq_p 481)]), ((263, 0, 0), (qb_wz (wa_i 406) wa_u, qb_wS), [(406, qb_xd 406 1)], [(1, wq_p 482, wq_p 481)])]
theorem qb_w_c8 : pt_row qbY 252 [251] false (244, 0, 0) (qb_wz (wa_i 406) (wa_i 407)) [wa_i 481] [] [(481, (0, 12))] [] [] [((251, 0, 0), (qb_wz (wa_i 406) (wa_i 407), [wa_i 404, wa_r 329, wa_i 482]), [(482, qb_xd 481 1)], [])] = true ∧
    pt_row qbY 252 [263, 279] false (252, 0, 0) (qb_wz (wa_i 406) (wa_i 407)) [wa_i 481, wa_i 482] [] [(406, (0, 12))] [] [] qb_w52 = true ∧
    pt_row qbY 252 [198] false (280, 0, 0) (qb_wz (wa_i 406) (wa_i 407)) [] [] [(405, (0, 12))] [] [] [((198, 0, 0), (qb_wz wa_u wa_u, []), [(404, wq_p 407), (405, qb_xd 405 1)], [])] = true := by decide +kernel
theorem qb_w_k : (cy_vk 252 94 251 qbY.2.1 qb_wS qb_wA [] && pt_cck qbY 252 251 (94, 0, 0) 1 481 (qb_wL (wa_k 0) (wa_i 406) wa_u) [] qb_wA qb_wB) = true ∧
    (cy_vk 252 215 251 qbY.2.1 qb_wS qb_wA [] && pt_cck qbY 252 251 (215, 0, 0) 1 481 (qb_wz (wa_i 406) wa_u) [] qb_wA qb_wB) = true ∧
    (cy_vk 252 263 251 qbY.2.1 qb_wS qb_wA [] && pt_cck qbY 252 251 (263, 0, 0) 1 481 (qb_wz (wa_i 406) wa_u) [] qb_wA qb_wB) = true := by decide +kernel
theorem qb_w_l : (pt_lck qbY 252 111 1 329 4096 0 481 qb_w6 [] = true ∧ pt_lck qbY 252 121 1 329 4096 0 481 qb_w6 [] = true ∧ pt_lck qbY 252 132 1 329 4096 0 481 qb_w6 [] = true ∧ pt_lck qbY 252 140 1 329 4096 0 481 qb_w6 [wa_i 482] = true ∧ pt_lck qbY 252 155 1 329 4096 0 481 qb_w6 [wa_i 404, wa_r 329] = true) ∧
    (pt_lck qbY 252 176 1 329 4096 0 481 (qb_wL wa_u wa_u wa_u) [] = true ∧ pt_lck qbY 252 189 1 329 4096 0 481 (qb_wL wa_u wa_u wa_u) [wa_r 264] = true) ∧
    (pt_lck qbY 252 232 1 329 4096 0 481 (qb_wz (wa_i 406) (wa_i 407)) [] = true ∧ pt_lck qbY 252 243 1 329 4096 0 481 (qb_wz (wa_i 406) (wa_i 407)) [] = true ∧ pt_lck qbY 252 251 1 329 4096 0 481 (qb_wz (wa_i 406) (wa_i 407)) [wa_i 482] = true) ∧
    (pt_sck qbY 252 73 2 329 4096 0 = true ∧ pt_sck qbY 252 158 2 329 4096 0 = true ∧ pt_sck qbY 252 279 2 330 13 0 = true) ∧ pt_is 5 252 182 = true ∧ pt_is 5 252 293 = true ∧ (ct_mt 252).2.2.1 = 7 := by decide +kernel
