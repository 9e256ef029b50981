/-! WAY: seek (the class): rows -/
noncomputable def qa_kL (u : ai_V) : List ai_V := [wa_r 198, wa_i 403, wa_i 404, wa_i 405, wa_i 406, u]
noncomputable def qa_k0 : List ai_V := [wa_r 198, wa_i 403, wa_u, wa_u, wa_u, wa_u]
noncomputable def qa_xg (t : Nat) : pt_X := [(0, t, 0), (0, 405, 0), (2, 5, 0)]
theorem qa_k_c1 : pt_row qaY 119 [10] true (0, 0, 0) qa_k0 [] [] [] [] [] [((10, 0, 0), (qa_k0, [wa_n, wa_r 201]), [(70, wq_p 403)], [])] = true ∧
    pt_row qaY 119 [19] false (13, 0, 0) qa_k0 [] [] [] [] [] [((19, 0, 0), (qa_k0, [wa_k 0, wa_k 0, wa_r 201]), [], [])] = true ∧
    pt_row qaY 119 [26] false (20, 0, 0) qa_k0 [] [] [] [] [] [((26, 0, 0), (qa_k0, [wa_k 0, wa_k 0, wa_r 200]), [], [])] = true ∧
    (List.range 5).all (fun p => pt_row qaY 119 [54] false (27, 0, 0) qa_k0 [] [] [(73, (.ofNat p, .ofNat p))] [] [] [((54, 0, 0), (qa_kL wa_u, []), [(71, wq_k 1), (404, wq_k (2 ^ p - 1)), (405, wq_k ((2 ^ p - 1) * 257)), (406, wq_k 0)], [])]) = true := by decide +kernel
noncomputable def qa_kE : List pt_E := [((108, 0, 0), (qa_kL wa_u, [wa_n]), [], [(0, wq_p 71, wq_p 406)]), ((77, 0, 0), (qa_kL wa_u, [wa_i 406, wa_r 200]), [], [(0, wq_p 406, [(0, 71, 0), (3, 0, -1)])])]
noncomputable def qa_k2E : List pt_E := [((98, 0, 0), (qa_kL (wa_i 407), [wa_i 407, wa_r 198]), [(407, wq_p 482)], [(1, qa_xg 482, wq_p 405)]),
  ((91, 0, 0), (qa_kL (wa_i 407), [wa_i 407, wa_r 198]), [(407, wq_p 482)], [(0, qa_xg 482, wq_p 405), (0, wq_p 405, qa_xg 482)])]
theorem qa_k_c2 : pt_row qaY 119 [77, 108] true (54, 0, 0) (qa_kL wa_u) [] [] [(71, (0, 4096)), (406, (0, 4096))] [] [] qa_kE = true ∧
    pt_row qaY 119 [91, 98] false (78, 0, 0) (qa_kL wa_u) [wa_i 482] [] [] [] [] qa_k2E = true ∧
    pt_row qaY 119 [54] false (101, 0, 0) (qa_kL (wa_i 407)) [] [] [(406, (0, 4095))] [] [] [((54, 0, 0), (qa_kL wa_u, []), [(406, [(0, 406, 0), (3, 0, 1)])], [])] = true := by decide +kernel
theorem qa_k_k : (pt_sk 119 10 287 [wa_n, wa_r 201] [wa_r 201, wa_n] [] && pt_cck qaY 119 287 (10, 0, 0) 0 482 qa_k0 [] [wa_r 201, wa_n] [wa_r 201, wa_i 403]) = true ∧
    (cy_vk 119 98 120 qaY.2.1 [wa_i 407, wa_r 198] [wa_r 198, wa_i 407] [] && pt_cck qaY 119 120 (98, 0, 0) 0 482 (qa_kL (wa_i 407)) [] [wa_r 198, wa_i 407] [wa_r 198, wa_i 403]) = true ∧
    (cy_vk 119 91 121 qaY.2.1 [wa_i 407, wa_r 198] [wa_r 198, wa_i 407] [] && pt_cck qaY 119 121 (91, 0, 0) 1 482 (qa_kL (wa_i 407)) [] [wa_r 198, wa_i 407] [wa_r 198, wa_i 403]) = true := by decide +kernel
theorem qa_k_l : pt_sck qaY 119 19 2 201 4096 0 = true ∧ pt_sck qaY 119 26 2 200 4096 0 = true ∧ pt_lck qaY 119 77 1 200 4096 0 482 (qa_kL wa_u) [] = true ∧ pt_is 5 119 94 = true ∧ pt_is 5 119 108 = true ∧ (ct_mt 119).2.2.1 = 6 := by decide +kernel
theorem qa_k_x : ls_code 119 10 = some (.invokestatic 29, 3, 287, (ct_mt 287).2.2.2.2.2) := by decide +kernel
theorem qa_k_y : Cond.methodLink (ct_mt 119).1.cls 29 (ct_mt 287).1 ∈ ft_W := by decide +kernel
theorem qa_k_m : (ct_mt 287).2.2.2.2.1.isSome = true ∨ (∀ idx, ls_code 119 10 = some (.invokestatic idx, 3, 287, (ct_mt 287).2.2.2.2.2) → Cond.methodLink (ct_mt 119).1.cls idx (ct_mt 287).1 ∈ ft_W) := Or.inr (fun idx h => by
  rw [qa_k_x] at h
  cases h
  exact qa_k_y)
