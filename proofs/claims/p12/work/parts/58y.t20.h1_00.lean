/-! TEXTS (the reference): byteAt, is -/
theorem gb_b0 : ∀ q ∈ [185, 188, 189, 190, 191, 192, 193, 194, 195, 196, 197, 198, 199, 200, 201, 202, 203], ct_bud q = (0, 0) ∧ lh_plain q = true := by decide +kernel
noncomputable def gb_T (A : Nat → Int) (n : Nat) (r : Nat → Int) (M : Nat → Nat → Int) : Prop := r 77 = (n : Int) ∧ ps_A A n ∧ ∀ j, j < n → M 285 j = A j
theorem gb_T_c {A : Nat → Int} {N : Nat} {r r2 : Nat → Int} {M M2 : Nat → Nat → Int} (e : r2 77 = r 77) (e2 : M2 285 = M 285) (h : gb_T A N r M) : gb_T A N r2 M2 := ⟨e.trans h.1, h.2.1, fun j hj => by rw [e2]; exact h.2.2 j hj⟩
theorem gb_b_c : pt_row gbY 185 [13, 18] true (0, 0, 0) [wa_r 264, wa_i 392] [] [] [(392, (0, 199))] [((392, 1), (77, 0))] [] [((13, 0, 0), ([wa_r 264, wa_i 392], [wa_i 392, wa_r 285]), [], [])] = true ∧
    pt_row gbY 185 [13, 18] true (0, 0, 0) [wa_r 264, wa_i 392] [] [] [(392, (0, 200))] [((77, 0), (392, 0))] [] [((18, 0, 0), ([wa_r 264, wa_i 392], [gz_n (-1)]), [], [])] = true ∧
    pt_row gbY 185 [18] false (14, 0, 0) [wa_r 264, wa_i 392] [wa_i 471] [] [] [] [] [((18, 0, 0), ([wa_r 264, wa_i 392], [wa_i 471]), [], [])] = true := by decide +kernel
theorem gb_b_l : pt_lck gbY 185 13 1 285 200 0 471 [wa_r 264, wa_i 392] [] = true ∧ pt_is 5 185 18 = true ∧ (ct_mt 185).2.2.1 = 2 := by decide +kernel
theorem gb_bM {A : Nat → Int} {N n : Nat} (hn : 4 ≤ n) : pt_Met (n + 1) 185 gbY [wa_r 264, wa_i 392] (fun r M => gb_T A N r M ∧ 0 ≤ r 392 ∧ r 392 ≤ 200) (gz_pu 391 (fun r => ps_b A N (r 392).toNat)) 1 := by
  refine pt_intro (L0 := [wa_r 264, wa_i 392]) (gb_b0 185 (by decide)).2 hn gbsys (by
    rw [gb_b_l.2.2]
    rfl) (fun P r M h hp => ?_)
  obtain ⟨hseg, henv, -, -, hld, -, -, -, -, -, hret, -, -, -⟩ := h
  obtain ⟨⟨t1, ⟨t2, t3⟩, t4⟩, a1, a2⟩ := hp
  obtain ⟨i, hi⟩ : ∃ i : Nat, r 392 = (i : Int) := ⟨(r 392).toNat, by omega⟩
  have ei : (r 392).toNat = i := by omega
  by_cases c : i < N
  · refine hseg _ _ _ _ _ r M _ _ _ _ _ gb_b_c.1 ⟨pt_m0, pt_m1 ⟨by show (0 : Int) ≤ r 392; omega, by show r 392 ≤ (199 : Int); omega⟩, pt_m1 (by show r 392 + 1 ≤ r 77 + 0; omega)⟩ ⟨fun _ => ?_, trivial⟩
    show P (13, 0, 0) [wa_r 264, wa_i 392] [wa_i 392, wa_r 285] r M
    refine hld (13, 0, 0) _ [] r M 285 200 471 i (392, 0) gb_b_l.1 (by omega) (by show r 392 + 0 = _; omega) ?_
    obtain ⟨r1, hr1⟩ : ∃ r1, r1 = pt_set r 471 (M 285 i) := ⟨_, rfl⟩
    rw [← hr1]
    refine hseg _ _ _ _ _ r1 M _ _ _ _ _ gb_b_c.2.2 ⟨pt_m0, pt_m0, pt_m0⟩ ⟨fun _ => ?_, trivial⟩
    show P (18, 0, 0) [wa_r 264, wa_i 392] [wa_i 471] r1 M
    refine hret (18, 0, 0) _ (471, 0) r1 M rfl gb_b_l.2.1 (by decide +kernel) (by decide +kernel) ⟨?_, rfl, fun t ht => ?_⟩
    · refine congrArg some ?_
      show r1 471 + 0 = ps_b A N (r 392).toNat
      rw [hr1, gz_sset, ei, ps_b_lt c, t4 i c, Int.add_zero]
    · rw [hr1]
      exact if_neg (by omega)
  · refine henv _ _ _ _ _ (fun hE _ => ?_)
    refine hseg _ _ _ _ _ r M _ _ _ _ _ gb_b_c.2.1 ⟨pt_m0, pt_m1 ⟨by show (0 : Int) ≤ r 392; omega, by show r 392 ≤ (200 : Int); omega⟩, pt_m1 (by show r 77 + 0 ≤ r 392 + 0; omega)⟩ ⟨fun _ => ?_, trivial⟩
    show P (18, 0, 0) [wa_r 264, wa_i 392] [gz_n (-1)] r M
    refine hret (18, 0, 0) _ (0, -1) r M rfl gb_b_l.2.1 (by decide +kernel) (by decide +kernel) ⟨?_, rfl, fun t ht => rfl⟩
    refine congrArg some ?_
    show r 0 + -1 = ps_b A N (r 392).toNat
    rw [hE.1, ei, ps_b_ge (by omega)]
    rfl
/-- a call of byteAt with the place -/
theorem gb_bcall {n mi : Nat} {rt : Nat} {Z : (Nat → Int) → (Nat → Nat → Int) → Option Int → Prop} {P : pt_P} (h : pt_Cl (n + 1) mi gbY rt Z P) (hn : 4 ≤ n) {pc : Nat} {L S' : List ai_V} {r : Nat → Int} {M : Nat → Nat → Int} {A : Nat → Int} {N i : Nat}
    (hck : (cy_vk mi pc 185 gbY.2.1 (wa_i 76 :: wa_r 264 :: S') [wa_r 264, wa_i 76] S' && pt_cck gbY mi 185 (pc, 0, 0) 1 471 L S' [wa_r 264, wa_i 76] [wa_r 264, wa_i 392]) = true) (hT : gb_T A N r M) (hi : r 76 = (i : Int)) (h2 : i ≤ 200)
    (k : P (pc + 3, 0, 0) L (wa_i 471 :: S') (pt_set r 471 (ps_b A N i)) M) : P (pc, 0, 0) L (wa_i 76 :: wa_r 264 :: S') r M := by
  obtain ⟨rc, hrc⟩ : ∃ rc, rc = pt_up r (pt_wc [wa_r 264, wa_i 76] [wa_r 264, wa_i 392]) := ⟨_, rfl⟩
  have rcv : ∀ t, rc t = if t = 392 then r 76 else r t := fun t => by
    rw [hrc]
    rfl
  have rcl : ∀ t, t < 391 → rc t = r t := fun t ht => by rw [rcv, if_neg (by omega)]
  have a1 : rc 392 = (i : Int) := by rw [rcv, if_pos rfl, hi]
  obtain ⟨t1, t2, t3⟩ := hT
  refine gz_cv h (gb_b0 185 (by decide)).1 (show 391 ≤ 471 by omega) (gb_b0 185 (by decide)).2 hck (gb_bM (A := A) (N := N) hn) ?_ (fun t ht => ?_) ?_
  · rw [← hrc]
    exact ⟨⟨(rcl _ (by omega)).trans t1, t2, t3⟩, by omega, by omega⟩
  · rw [← hrc]
    exact rcl t ht
  · rw [← hrc, a1]
    exact k
noncomputable def gb_iL (k : Nat) (u v : ai_V) : List ai_V := [wa_r 264, rd_ref (k + 1), u, v]
noncomputable def gb_iB (k : Nat) : List ai_V := gb_iL k (gz_n 1) (wa_i 393)
noncomputable abbrev gb_ir (k : Nat) (st : List Nat) (sk : Bool) (pc : Nat) (L S : List ai_V) (cp : List (Nat × Int × Int)) (pc2 : Nat) (L2 S2 : List ai_V) (W : List (Nat × pt_X)) : Bool := pt_row gbY 191 st sk (pc, 0, 0) L S [] cp [] [] [((pc2, 0, 0), (L2, S2), W, [])]
theorem gb_i_c1 : (List.range 10).all (fun k => (gb_ir k [16, 83] true 0 (gb_iL k wa_u wa_u) [] [(83, (1, 3))] 83 (gb_iL k wa_u wa_u) [gz_n 0] [] && (gb_ir k [16, 83] true 0 (gb_iL k wa_u wa_u) [] [(83, (0, 0)), (78, (0, 0))] 83 (gb_iL k wa_u wa_u) [gz_n 0] [] && (gb_ir k [16, 83] true 0 (gb_iL k wa_u wa_u) [] [(83, (0, 0)), (78, (2, 4))] 83 (gb_iL k wa_u wa_u) [gz_n 0] [] && gb_ir k [16, 83] true 0 (gb_iL k wa_u wa_u) [] [(83, (0, 0)), (78, (1, 1))] 16 (gb_iL k wa_u wa_u) [rd_ref (k + 1)] []))) &&
    (pt_row gbY 191 [45, 83] false (19, 0, 0) (gb_iL k wa_u wa_u) [.inl (0, .ofNat (rd_n k))] [] [] [] [] [((83, 0, 0), (gb_iL k wa_u wa_u, [gz_n 0]), [], [(1, [(0, 82, 0), (0, 81, 0), (2, 1, 0)], gz_k (.ofNat (rd_n k)))]), ((45, 0, 0), (gb_iB k, [rd_ref (k + 1), wa_i 393]), [(393, gz_k 0)], [(0, gz_k (.ofNat (rd_n k)), [(0, 82, 0), (0, 81, 0), (2, 1, 0)]), (0, [(0, 82, 0), (0, 81, 0), (2, 1, 0)], gz_k (.ofNat (rd_n k)))])] &&
    (gb_ir k [53, 83] false 48 (gb_iB k) [.inl (0, .ofNat (rd_n k)), wa_i 393] [(393, (0, .ofNat (rd_n k) - 1))] 53 (gb_iB k) [wa_i 393, rd_ref (k + 1)] [] && gb_ir k [53, 83] false 48 (gb_iB k) [.inl (0, .ofNat (rd_n k)), wa_i 393] [(393, (.ofNat (rd_n k), .ofNat (rd_n k)))] 83 (gb_iL k wa_u wa_u) [gz_n 1] []))) = true := by decide +kernel
theorem gb_i_c2 : (List.range 10).all (fun k => (List.range (rd_n k)).all (fun j => gb_ir k [66] false 56 (gb_iB k) [.inl (0, ps_ch k j)] [] 66 (gb_iB k) [wa_i 472, wa_r 285, .inl (0, ps_ch k j)] [(472, [(0, 81, 0), (0, 393, 0), (2, 0, 0)])] &&
    pt_row gbY 191 [45, 83] false (67, 0, 0) (gb_iB k) [wa_i 471, .inl (0, ps_ch k j)] [] [(393, (0, 6))] [] [] [((83, 0, 0), (gb_iL k wa_u wa_u, [gz_n 0]), [], [(1, gz_p 471, gz_k (ps_ch k j))]), ((45, 0, 0), (gb_iB k, [rd_ref (k + 1), wa_i 393]), [(393, gz_d 393 1)], [(0, gz_k (ps_ch k j), gz_p 471), (0, gz_p 471, gz_k (ps_ch k j))])])) = true := by decide +kernel
theorem gb_i_l : (List.range 10).all (fun k => (List.range (rd_n k)).all (fun j => pt_lck gbY 191 66 1 285 200 0 471 (gb_iB k) [.inl (0, ps_ch k j)])) = true ∧ pt_is 8 191 83 = true ∧ (ct_mt 191).2.2.1 = 4 := by decide +kernel
