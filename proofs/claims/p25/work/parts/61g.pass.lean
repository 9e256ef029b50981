/-! BY HAND: cn_passG: minutes are counted one by one; the ghost is what was counted and n together -/
noncomputable def cn_passG : us_C := ([(.ofNat 0, .ofNat 1000), (.ofNat 0, .ofNat 4), (.ofNat 0, .ofNat 5), (.ofNat 0, .ofNat 4), (.ofNat 0, .ofNat 1), cb_i, cb_i, (.ofNat 0, .ofNat 3), (.ofNat 0, .ofNat 3), (.ofNat 0, .ofNat 2), (.ofNat 0, .ofNat 7), cb_i, cb_i, cb_i, cb_i, cb_i, cb_i, cb_i, (.ofNat 0, .ofNat 1), cb_i, (.ofNat 0, .ofNat 3), (.ofNat 0, .ofNat 3), (.ofNat 0, .ofNat 2), (.ofNat 0, .ofNat 7), cb_i, cb_i, cb_i, cb_i, cb_i, cb_i, cb_i, (.ofNat 0, .ofNat 1), cb_i, (.ofNat 0, .ofNat 3), (.ofNat 0, .ofNat 3), (.ofNat 0, .ofNat 2), (.ofNat 0, .ofNat 7), cb_i, cb_i, cb_i, cb_i, cb_i, cb_i, cb_i, (.ofNat 0, .ofNat 1), cb_i, (.ofNat 0, .ofNat 3), (.ofNat 0, .ofNat 3), (.ofNat 0, .ofNat 2), (.ofNat 0, .ofNat 7), cb_i, cb_i, cb_i, cb_i, cb_i, cb_i, cb_i, (.ofNat 0, .ofNat 1), cb_i, (.ofNat 0, .ofNat 1), (.ofNat 0, .ofNat 1), cb_i, (.ofNat 0, .ofNat 1000), cb_i, (.ofNat 0, .ofNat 4), (.ofNat 0, .ofNat 4), cb_i, cb_i, (.negSucc 0, .ofNat 999), (.negSucc 0, .ofNat 999), (.negSucc 0, .ofNat 999), (.negSucc 0, .ofNat 999), (.ofNat 0, .ofNat 1000)], [.inr (.inr (some (some 193))), .inl (1, .ofNat 0)], (336, ai_nd 8 (ai_nd 7 (ai_nd 6 (ai_nd 5 (ce_5) (ai_nd 4 (ce_4) (ai_nd 3 (ce_3) (ai_nd 2 (ai_nd 1 (ai_nd 0 (some (.inl (4, [.inl (34, .ofNat 0), .inl (35, .ofNat 0), .inl (36, .ofNat 0), .inl (37, .ofNat 0), .inl (38, .ofNat 0), .inl (39, .ofNat 0), .inl (40, .ofNat 0), .inl (41, .ofNat 0), .inl (42, .ofNat 0), .inl (43, .ofNat 0), .inl (44, .ofNat 0), .inl (45, .ofNat 0), .inl (46, .ofNat 0), .inr (.inr (some (some 57))), .inr (.inr (some (some 58)))]))) (ce_0)) (ce_1)) (ce_2))))) (ai_nd 5 (ai_nd 4 (ai_nd 3 (ai_nd 2 (ce_2) (ai_nd 1 (ce_1) (ai_nd 0 (some (ca_0_4_m2147483648_2147483647)) (ce_0)))) (ce_3)) (ce_4)) (ai_nd 4 (ai_nd 3 (ce_3) (ai_nd 2 (ai_nd 1 (ai_nd 0 (some (.inl (4, [.inl (8, .ofNat 0), .inl (9, .ofNat 0), .inl (10, .ofNat 0), .inl (11, .ofNat 0), .inl (12, .ofNat 0), .inl (13, .ofNat 0), .inl (14, .ofNat 0), .inl (15, .ofNat 0), .inl (16, .ofNat 0), .inl (17, .ofNat 0), .inl (18, .ofNat 0), .inl (19, .ofNat 0), .inl (20, .ofNat 0), .inr (.inr (some (some 45))), .inr (.inr (some (some 46)))]))) (ce_0)) (ce_1)) (ce_2))) (ce_4)))) (ai_nd 6 (ai_nd 5 (ai_nd 4 (ai_nd 3 (ai_nd 2 (ce_2) (ai_nd 1 (ce_1) (ai_nd 0 (some (ca_0_4_m2147483648_2147483647)) (ce_0)))) (ce_3)) (ai_nd 3 (ce_3) (ai_nd 2 (ai_nd 1 (ai_nd 0 (some (.inl (4, [.inl (21, .ofNat 0), .inl (22, .ofNat 0), .inl (23, .ofNat 0), .inl (24, .ofNat 0), .inl (25, .ofNat 0), .inl (26, .ofNat 0), .inl (27, .ofNat 0), .inl (28, .ofNat 0), .inl (29, .ofNat 0), .inl (30, .ofNat 0), .inl (31, .ofNat 0), .inl (32, .ofNat 0), .inl (33, .ofNat 0), .inr (.inr (some (some 51))), .inr (.inr (some (some 52)))]))) (ce_0)) (ce_1)) (ce_2)))) (ce_5)) (ai_nd 5 (ce_5) (ai_nd 4 (ce_4) (ai_nd 3 (ce_3) (ai_nd 2 (ai_nd 1 (ai_nd 0 (some (.inl (4, [.inl (47, .ofNat 0), .inl (48, .ofNat 0), .inl (49, .ofNat 0), .inl (50, .ofNat 0), .inl (51, .ofNat 0), .inl (52, .ofNat 0), .inl (53, .ofNat 0), .inl (54, .ofNat 0), .inl (55, .ofNat 0), .inl (56, .ofNat 0), .inl (57, .ofNat 0), .inl (58, .ofNat 0), .inl (59, .ofNat 0), .inr (.inr (some (some 63))), .inr (.inr (some (some 64)))]))) (ce_0)) (ce_1)) (ce_2))))))) (ai_nd 7 (ai_nd 6 (ai_nd 5 (ai_nd 4 (ai_nd 3 (ai_nd 2 (ce_2) (ai_nd 1 (ce_1) (ai_nd 0 (some (.inl (5, [.inl (60, .ofNat 0), .inl (61, .ofNat 0), .inl (62, .ofNat 0), .inl (63, .ofNat 0), .inl (64, .ofNat 0), .inr (.inr (some (some 17))), .inl (65, .ofNat 0), .inl (66, .ofNat 0), .inl (67, .ofNat 0), .inl (68, .ofNat 0), .inr (.inr (some (some 194))), .inr (.inr (some (some 195))), .inr (.inr (some (some 196))), .inr (.inr (some (some 197)))]))) (ce_0)))) (ce_3)) (ai_nd 3 (ai_nd 2 (ai_nd 1 (ai_nd 0 (some (.inl (3, [.inl (2, .ofNat 0), .inl (3, .ofNat 0), .inl (4, .ofNat 0), .inl (5, .ofNat 0), .inl (6, .ofNat 0), .inl (7, .ofNat 0), .inr (.inr (some (some 18))), .inr (.inr (some (some 23))), .inr (.inr (some (some 24))), .inr (.inr (some (some 25))), .inr (.inr (some (some 26))), .inr (.inr (some (some 27))), .inr (.inr (some (some 28))), .inr (.inr (some (some 29))), .inr (.inr (some (some 36))), .inr (.inr (some (some 40)))]))) (ce_0)) (ce_1)) (ce_2)) (ce_3))) (ce_5)) (ai_nd 5 (ai_nd 4 (ai_nd 3 (ai_nd 2 (ce_2) (ai_nd 1 (ce_1) (ai_nd 0 (some (.inr (.inl (0, 4, .negSucc 0, .ofNat 999, [((0, .ofNat 0), (69, .ofNat 0)), ((0, .ofNat 1), (70, .ofNat 0)), ((0, .ofNat 2), (71, .ofNat 0)), ((0, .ofNat 3), (72, .ofNat 0))])))) (ce_0)))) (ce_3)) (ce_4)) (ce_5))) (ai_nd 6 (ai_nd 5 (ai_nd 4 (ai_nd 3 (ai_nd 2 (ce_2) (ai_nd 1 (ce_1) (ai_nd 0 (some (ca_0_4_m2147483648_2147483647)) (ce_0)))) (ce_3)) (ce_4)) (ce_5)) (ai_nd 5 (ai_nd 4 (ce_4) (ai_nd 3 (ai_nd 2 (ai_nd 1 (ai_nd 0 (some (cf_4_44)) (ce_0)) (ce_1)) (ce_2)) (ce_3))) (ce_5))))), [(.inr (some (.inl (78, .ofNat 0))), [(.ofNat 0, .ofNat 1), cb_i, cb_i, cb_i, cb_i], (336, ai_nd 8 (ai_nd 7 (ai_nd 6 (ai_nd 5 (ce_5) (ai_nd 4 (ce_4) (ai_nd 3 (ce_3) (ai_nd 2 (ai_nd 1 (ai_nd 0 (some (.inl (4, [.inl (34, .ofNat 0), .inl (35, .ofNat 0), .inl (36, .ofNat 0), .inl (37, .ofNat 0), .inl (38, .ofNat 0), .inl (39, .ofNat 0), .inl (40, .ofNat 0), .inl (41, .ofNat 0), .inl (42, .ofNat 0), .inl (43, .ofNat 0), .inl (44, .ofNat 0), .inl (45, .ofNat 0), .inl (46, .ofNat 0), .inr (.inr (some (some 57))), .inr (.inr (some (some 58)))]))) (ce_0)) (ce_1)) (ce_2))))) (ai_nd 5 (ai_nd 4 (ai_nd 3 (ai_nd 2 (ce_2) (ai_nd 1 (ce_1) (ai_nd 0 (some (ca_0_4_m2147483648_2147483647)) (ce_0)))) (ce_3)) (ce_4)) (ai_nd 4 (ai_nd 3 (ce_3) (ai_nd 2 (ai_nd 1 (ai_nd 0 (some (.inl (4, [.inl (8, .ofNat 0), .inl (9, .ofNat 0), .inl (10, .ofNat 0), .inl (11, .ofNat 0), .inl (12, .ofNat 0), .inl (13, .ofNat 0), .inl (14, .ofNat 0), .inl (15, .ofNat 0), .inl (16, .ofNat 0), .inl (17, .ofNat 0), .inl (18, .ofNat 0), .inl (19, .ofNat 0), .inl (20, .ofNat 0), .inr (.inr (some (some 45))), .inr (.inr (some (some 46)))]))) (ce_0)) (ce_1)) (ce_2))) (ce_4)))) (ai_nd 6 (ai_nd 5 (ai_nd 4 (ai_nd 3 (ai_nd 2 (ce_2) (ai_nd 1 (ce_1) (ai_nd 0 (some (ca_0_4_m2147483648_2147483647)) (ce_0)))) (ce_3)) (ai_nd 3 (ce_3) (ai_nd 2 (ai_nd 1 (ai_nd 0 (some (.inl (4, [.inl (21, .ofNat 0), .inl (22, .ofNat 0), .inl (23, .ofNat 0), .inl (24, .ofNat 0), .inl (25, .ofNat 0), .inl (26, .ofNat 0), .inl (27, .ofNat 0), .inl (28, .ofNat 0), .inl (29, .ofNat 0), .inl (30, .ofNat 0), .inl (31, .ofNat 0), .inl (32, .ofNat 0), .inl (33, .ofNat 0), .inr (.inr (some (some 51))), .inr (.inr (some (some 52)))]))) (ce_0)) (ce_1)) (ce_2)))) (ce_5)) (ai_nd 5 (ce_5) (ai_nd 4 (ce_4) (ai_nd 3 (ce_3) (ai_nd 2 (ai_nd 1 (ai_nd 0 (some (.inl (4, [.inl (47, .ofNat 0), .inl (48, .ofNat 0), .inl (49, .ofNat 0), .inl (50, .ofNat 0), .inl (51, .ofNat 0), .inl (52, .ofNat 0), .inl (53, .ofNat 0), .inl (54, .ofNat 0), .inl (55, .ofNat 0), .inl (56, .ofNat 0), .inl (57, .ofNat 0), .inl (58, .ofNat 0), .inl (59, .ofNat 0), .inr (.inr (some (some 63))), .inr (.inr (some (some 64)))]))) (ce_0)) (ce_1)) (ce_2))))))) (ai_nd 7 (ai_nd 6 (ai_nd 5 (ai_nd 4 (ai_nd 3 (ai_nd 2 (ce_2) (ai_nd 1 (ce_1) (ai_nd 0 (some (.inl (5, [.inl (60, .ofNat 0), .inl (74, .ofNat 0), .inl (75, .ofNat 0), .inl (73, .ofNat 0), .inl (76, .ofNat 0), .inr (.inr (some (some 17))), .inl (65, .ofNat 0), .inl (66, .ofNat 0), .inl (67, .ofNat 0), .inl (77, .ofNat 0), .inr (.inr (some (some 194))), .inr (.inr (some (some 195))), .inr (.inr (some (some 196))), .inr (.inr (some (some 197)))]))) (ce_0)))) (ce_3)) (ai_nd 3 (ai_nd 2 (ai_nd 1 (ai_nd 0 (some (.inl (3, [.inl (2, .ofNat 0), .inl (3, .ofNat 0), .inl (4, .ofNat 0), .inl (5, .ofNat 0), .inl (6, .ofNat 0), .inl (7, .ofNat 0), .inr (.inr (some (some 18))), .inr (.inr (some (some 23))), .inr (.inr (some (some 24))), .inr (.inr (some (some 25))), .inr (.inr (some (some 26))), .inr (.inr (some (some 27))), .inr (.inr (some (some 28))), .inr (.inr (some (some 29))), .inr (.inr (some (some 36))), .inr (.inr (some (some 40)))]))) (ce_0)) (ce_1)) (ce_2)) (ce_3))) (ce_5)) (ai_nd 5 (ai_nd 4 (ai_nd 3 (ai_nd 2 (ce_2) (ai_nd 1 (ce_1) (ai_nd 0 (some (.inr (.inl (0, 4, .negSucc 0, .ofNat 999, [((0, .ofNat 0), (69, .ofNat 0)), ((0, .ofNat 1), (70, .ofNat 0)), ((0, .ofNat 2), (71, .ofNat 0)), ((0, .ofNat 3), (72, .ofNat 0))])))) (ce_0)))) (ce_3)) (ce_4)) (ce_5))) (ai_nd 6 (ai_nd 5 (ai_nd 4 (ai_nd 3 (ai_nd 2 (ce_2) (ai_nd 1 (ce_1) (ai_nd 0 (some (ca_0_4_m2147483648_2147483647)) (ce_0)))) (ce_3)) (ce_4)) (ce_5)) (ai_nd 5 (ai_nd 4 (ce_4) (ai_nd 3 (ai_nd 2 (ai_nd 1 (ai_nd 0 (some (cf_4_44)) (ce_0)) (ce_1)) (ce_2)) (ce_3))) (ce_5))))))])
noncomputable def pg_gs : List (Nat × Nat × ai_X × ai_X) := [(73, 0, (63, 0), (1, 0))]
noncomputable def pg_T : List (Nat × us_C) := [(57, cn_passOne)]
theorem pg_Tok : lt_all 3 pg_T := ⟨cp_passOne.mono (by decide), trivial⟩
noncomputable def pg_E : ai_E := sm_E (1, [], []) cn_passG.1
noncomputable def pg_h : ai_H := cn_passG.2.2.1
noncomputable def pg_W : List sm_W := cn_passG.2.2.2
/-- the start, with what the ghost stands for -/
noncomputable def pg_G0 : ai_G := ((pg_E.1, pg_E.2.1, [(0, 73, (63, 0), (1, 0))]), pg_h, 0, 0)
noncomputable def pg_k : ai_H := hg_fld (hg_fld (hg_fld (hg_fld (hg_fld (pg_h) 193 1 (74, 0)) 193 2 (75, 0)) 193 4 (76, 0)) 193 9 (77, 0)) 193 3 (78, 0)
noncomputable def pg_nb : List (Int × Int) := [(.ofNat 0, .ofNat 1), cb_i, cb_i, cb_i, (.ofNat 0, .ofNat 1000), (.ofNat 0, .ofNat 1000)]
noncomputable def pg_GA : ai_G := (sm_E pg_E pg_nb, pg_k, 0, 0)
noncomputable def pg_L : List ai_V := [.inr (.inr (some (some 193))), .inl (1, 0), .inl (79, 0)]
noncomputable def pg_at (pc : Nat) (S : List ai_V) (f : ai_F) : Bool := Nat.beq f.1 pc && (decide (f.2.2.1 = S) && (Nat.ble 74 f.2.2.2.1.1 && (Nat.beq f.2.2.2.2.1.1 336 && (Nat.beq f.2.2.2.2.2.1 0 && Nat.beq f.2.2.2.2.2.2 0))))
theorem pg_atok {pc : Nat} {S : List ai_V} {f : ai_F} (h : pg_at pc S f = true) : f.1 = pc ∧ f.2.2.1 = S ∧ 74 ≤ f.2.2.2.1.1 ∧ f.2.2.2.2.1.1 = 336 ∧ f.2.2.2.2.2.1 = 0 ∧ f.2.2.2.2.2.2 = 0 := by
  unfold pg_at at h
  simp only [Bool.and_eq_true, decide_eq_true_eq] at h
  obtain ⟨h1, h2, h3, h4, h5, h6⟩ := h
  exact ⟨Nat.eq_of_beq_eq_true h1, h2, Nat.le_of_ble_eq_true h3, Nat.eq_of_beq_eq_true h4, Nat.eq_of_beq_eq_true h5, Nat.eq_of_beq_eq_true h6⟩
noncomputable def pg_c (o : List (Nat × ai_X)) (f : ai_F) : Bool := pg_at 2 [] f && hw_subY pg_E pg_nb pg_k pg_L [] f.2.1 [] f.2.2.2 o
noncomputable def pg_o0 : List (Nat × ai_X) := [(79, (0, 0)), (78, (63, 0))]
noncomputable def pg_o1 : List (Nat × ai_X) := [(79, (79, 1)), (78, (78, 1))]
noncomputable def pg_c4 (f : ai_F) : Bool := pg_at 4 [.inl (1, 0), .inl (79, 0)] f && (Nat.blt 79 f.2.2.2.1.1 && ((List.range 16).all (fun q => (ai_cell f.2.2.2.2.1 q).isNone) && (lz_fin pg_T 56 [] pg_E pg_W 44 f.2.1 [] (tq_G 78 73 f.2.2.2) && lz_chk pg_T 56 [2] false 7 f.2.1 [] (rd_cap (rd_cap f.2.2.2 78 (0, 999)) 79 (0, 999)) (pg_c pg_o1))))
theorem pg_pl : ls_plain 56 = true := by decide +kernel
theorem pg_k0 : lz_chk pg_T 56 [2] false 0 [.inr (.inr (some (some 193))), .inl (1, 0), .inr (.inr none)] [] pg_G0 (pg_c pg_o0) = true := by decide +kernel
theorem pgt5 : lz_chk pg_T 56 [4] false 2 pg_L [] pg_GA (fun f => lz_chk pg_T 56 [2] false 7 f.2.1 [] (rd_cap (rd_cap f.2.2.2 78 (0, 999)) 79 (0, 999)) (fun f => hw_subY pg_E pg_nb pg_k pg_L [] f.2.1 [] f.2.2.2 [])) = true := by decide +kernel
theorem pg_k1 : lz_chk pg_T 56 [4] false 2 pg_L [] pg_GA pg_c4 = true := by decide +kernel
theorem pg_dc : decode (ct_mt 56).2.1 4 = .ok (.if_icmp .ge 40, 3) := by decide +kernel
theorem pg_N : pg_E.1 = 74 ∧ pg_E.2.2 = [] ∧ pg_h.1 = 336 ∧ pg_k.1 = 336 ∧ (pg_GA).1.1 = 80 := by decide +kernel
theorem pg_b : (73, ((0 : Int), (1000 : Int))) ∈ pg_E.2.1 ∧ (63, ((0 : Int), (1000 : Int))) ∈ pg_E.2.1 ∧ (1, ((0 : Int), (1000 : Int))) ∈ pg_E.2.1 ∧ (79, ((0 : Int), (1000 : Int))) ∈ pg_GA.1.2.1 ∧ (78, ((0 : Int), (1000 : Int))) ∈ pg_GA.1.2.1 := by decide +kernel
section Gpg
variable {p : Program} {l : Launch} {e : Env} {s : State} {m : MethodId} {args : Array Value} {below : List Frame} {meth : Method} {c : Code}
variable {D : va_G} {tyc : Nat → ClassId} {A : Nat → Prop} {sa : ai_B} {ws0 : va_W} {r : Nat → Int} {ad : Nat → Nat} {n : Nat}
theorem pg_loop (hn : 7 ≤ n) (F : ls_Fr p (lt_rm (n + 1) 56) s m args meth c D tyc A sa 56) (hl : l.stackTraces = false) (hret : meth.sig.returnType = (ct_mt 56).2.2.2.1) (htb : ∀ x ∈ c.exceptionTable.toList, False) (hPw : ai_Pw tyc ws0) (hE : ai_gE r pg_E) (hs : r 73 = r 63 + r 1) :
    ∀ (d : Nat) (r' : Nat → Int) (ad' : Nat → Nat) (H : Heap) (locs : List Loc) (ls : Array Slot) (st : List Value), (1000 - r' 79).toNat = d → r' 78 = r 63 + r' 79 → r' 79 ≤ r 1 → ai_Rel D tyc A s sa ws0 (ct_mt 56).2.2.1 r' ad' pg_L [] pg_GA H locs ls st → ai_ext 74 r r' → ai_ext 336 ad ad' →
      W p l e (lt_rm (n + 1) 56) s m args below meth c H locs 0 0 (vx_MQ below (ai_Qc D tyc A sa ws0 r ad pg_E.1 336 (pg_W.map (sm_out pg_E))) (ai_XC D tyc A sa ws0 r ad pg_E.1 336 (pg_W.map (sm_out pg_E))) args s (lt_rm (n + 1) 56).cells (lt_rm (n + 1) 56).slots A) (F0 m 2 ls st) := by
  obtain ⟨N1, N2, N3, N4, N5⟩ := pg_N
  obtain ⟨bZ, bg, b1, bi, bG⟩ := pg_b
  intro d
  induction d using Nat.strongRecOn with
  | _ d ih =>
    intro r' ad' H locs ls st hd hg hi hR hx hax
    refine lz_ok (k0 := 3) (G := pg_GA) pg_pl F hl pg_Tok hn hPw pg_k1 hR (fun f hf => ?_)
    intro r1 ad1 x1 x2 x3 x4 H1 locs1 ls1 st1 hR1
    have x1 : ai_ext 80 r' r1 := by rw [N5] at x1; exact x1
    have x2 : ai_ext 336 ad' ad1 := x2.mono (by
      have : (pg_GA).2.1.1 = 336 := N4
      omega)
    have hx1 : ai_ext 74 r r1 := fun u hu => (x1 u (by omega)).trans (hx u hu)
    have hax1 : ai_ext 336 ad ad1 := fun u hu => (x2 u hu).trans (hax u hu)
    unfold pg_c4 at hf
    simp only [Bool.and_eq_true] at hf
    obtain ⟨c1, c2, c5, c3, c4⟩ := hf
    have c2 : 79 < f.2.2.2.1.1 := Nat.le_of_ble_eq_true c2
    obtain ⟨d1, d2, d3, d4, d5, d6⟩ := pg_atok c1
    rw [d1]
    rw [d2] at hR1
    have ei : r1 79 = r' 79 := x1 79 (by omega)
    have eg : r1 78 = r' 78 := x1 78 (by omega)
    have en : r1 1 = r 1 := hx1 1 (by omega)
    have eZ : r1 73 = r 73 := hx1 73 (by omega)
    have hbZ : 0 ≤ r 73 ∧ r 73 ≤ 1000 := (hE.2.2.2.1 _ bZ).2
    have hb1 : 0 ≤ r 1 ∧ r 1 ≤ 1000 := (hE.2.2.2.1 _ b1).2
    have hbg := (hE.2.2.2.1 _ bg).2
    have hbg1 : 0 ≤ r 63 := Int.le_trans (by decide) hbg.1
    have hbi : 0 ≤ r' 79 ∧ r' 79 ≤ 1000 := (hR.env.2.2.2.1 _ bi).2
    refine hg_icmp (G := f.2.2.2) (x := (79, 0)) (y := (1, 0)) (tgt := 44) F pg_dc (by decide) hR1 (fun hk st2 hR2 => ?_) (fun hk st2 hR2 => ?_)
    · have hk : r1 1 + 0 ≤ r1 79 + 0 := hk
      have h16 : ∀ q, q < 16 → ai_cell f.2.2.2.2.1 q = none := fun q hq => by
        have := List.all_eq_true.mp c5 q (List.mem_range.mpr hq)
        exact Option.isNone_iff_eq_none.mp this
      have hR3 := tq_ok (t := 78) (u := 73) hR2 (by omega) (by omega) h16
      exact lz_fin_ok (G := tq_G 78 73 f.2.2.2) (k0 := 3) (r0 := r) (ad0 := ad) (n0 := 336) pg_pl F hl hret htb pg_Tok hn hPw hE N2 c3 hR3 (by rw [N1]; exact hx1) hax1 (by rw [N1]; exact d3) (by show 336 ≤ f.2.2.2.2.1.1; omega)
    · have hk : ¬ (r1 1 + 0 ≤ r1 79 + 0) := hk
      have hR3 := rd_cap_ok (t := 78) (b := (0, 999)) hR2 (by omega) ⟨by show (0 : Int) ≤ _; omega, by show _ ≤ (999 : Int); omega⟩
      have hR3 := rd_cap_ok (t := 79) (b := (0, 999)) hR3 c2 ⟨by show (0 : Int) ≤ _; omega, by show _ ≤ (999 : Int); omega⟩
      refine lz_ok (k0 := 3) (G := rd_cap (rd_cap f.2.2.2 78 (0, 999)) 79 (0, 999)) pg_pl F hl pg_Tok hn hPw c4 hR3 (fun g hg' => ?_)
      intro r4 ad4 y1 y2 y3 y4 H4 locs4 ls4 st4 hR4
      unfold pg_c at hg'
      rw [Bool.and_eq_true] at hg'
      obtain ⟨e1, e2, e3, e4, e5, e6⟩ := pg_atok hg'.1
      rw [e1, e5, e6]
      rw [e2] at hR4
      have y1 : ai_ext f.2.2.2.1.1 r1 r4 := y1
      have y2 : ai_ext 336 ad1 ad4 := y2.mono (by show 336 ≤ f.2.2.2.2.1.1; omega)
      have hx4 : ai_ext 74 r r4 := fun u hu => (y1 u (by omega)).trans (hx1 u hu)
      have hax4 : ai_ext 336 ad ad4 := fun u hu => (y2 u hu).trans (hax1 u hu)
      obtain ⟨r5, z1, hR5, z2⟩ := hw_okY (L' := pg_L) (S' := []) hE N2 (by rw [N1]; exact hx4) (by rw [N1]; exact e3) hR4 hg'.2
      rw [N1] at z1
      have gz : g.2.2.2.2.2 = (0, 0) := Prod.ext e5 e6
      rw [gz] at hR5
      have w1 : r5 79 = r4 79 + 1 := z2 _ List.mem_cons_self
      have w2 : r5 78 = r4 78 + 1 := z2 _ (List.mem_cons_of_mem _ List.mem_cons_self)
      have w3 : r4 79 = r1 79 := y1 79 c2
      have w4 : r4 78 = r1 78 := y1 78 (by omega)
      exact ih (1000 - r5 79).toNat (by omega) r5 ad4 H4 locs4 ls4 st4 rfl (by omega) (by omega) hR5 z1 hax4
end Gpg
theorem cp_passG : gx_ok 8 56 (cn_passG, pg_gs) := by
  obtain ⟨N1, N2, N3, N4, N5⟩ := pg_N
  refine gx_hand (n := 7) pg_pl (by decide +kernel) [.inr (.inr (some (some 193))), .inl (1, 0), .inr (.inr none)] (by
    have e : (ct_mt 56).2.2.1 = 3 := by decide +kernel
    show ai_pad (ct_mt 56).2.2.1 [.inr (.inr (some (some 193))), .inl (1, .ofNat 0)] = _
    rw [e]
    rfl) (fun l D tyc A sa hl ws0 r ad hPw hE hsd p e s m args below meth c ls F hret htb hR => ?_)
  have hE : ai_gE r pg_E := hE
  obtain ⟨bZ, bg, b1, bi, bG⟩ := pg_b
  have hbg := (hE.2.2.2.1 _ bg).2
  have hb1 : 0 ≤ r 1 ∧ r 1 ≤ 1000 := (hE.2.2.2.1 _ b1).2
  have hs0 : r 73 = ai_op 0 (r 63 + 0) (r 1 + 0) := hsd _ List.mem_cons_self
  have hbg1 : r 63 ≤ 1000 := Int.le_trans hbg.2 (by decide)
  have hbg0 : 0 ≤ r 63 := Int.le_trans (by decide) hbg.1
  have hs : r 73 = r 63 + r 1 := by
    rw [hs0]
    show (r 63 + 0 + (r 1 + 0)).bmod 4294967296 = _
    rw [Int.add_zero, Int.add_zero]
    exact Int.bmod_eq_of_le_mul_two (by omega) (by omega)
  have hE2 : ai_gE r pg_G0.1 := ⟨hE.1, hE.2.1, hE.2.2.1, hE.2.2.2.1, fun q hq => by
    rcases List.mem_cons.mp hq with rfl | hq
    · have h9 : pg_G0.1.1 = 74 := N1
      exact ⟨by rw [h9]; show 73 < 74; omega, by rw [h9]; show 63 < 74; omega, by rw [h9]; show 1 < 74; omega, hs0⟩
    · cases hq⟩
  have hR0 : ai_Rel D tyc A s sa ws0 (ct_mt 56).2.2.1 r ad [.inr (.inr (some (some 193))), .inl (1, 0), .inr (.inr none)] [] pg_G0 s.heap [] ls [] := hR.re (E' := pg_G0.1) (r' := r) (S' := []) (st' := []) ai_ext.rfl' (Nat.le_refl _) hE2 trivial
  have h9 : cn_passG.2.2.1.1 = 336 := N3
  rw [h9]
  refine lz_ok (k0 := 3) (G := pg_G0) pg_pl F hl pg_Tok (by omega) hPw pg_k0 hR0 (fun f hf => ?_)
  intro r1 ad1 x1 x2 x3 x4 H1 locs1 ls1 st1 hR1
  have x1 : ai_ext pg_E.1 r r1 := x1
  rw [N1] at x1
  have x2 : ai_ext 336 ad ad1 := x2.mono (by
    have : pg_G0.2.1.1 = 336 := N3
    omega)
  unfold pg_c at hf
  rw [Bool.and_eq_true] at hf
  obtain ⟨e1, e2, e3, e4, e5, e6⟩ := pg_atok hf.1
  rw [e1, e5, e6]
  rw [e2] at hR1
  obtain ⟨r5, z1, hR5, z2⟩ := hw_okY (L' := pg_L) (S' := []) hE N2 (by rw [N1]; exact x1) (by rw [N1]; exact e3) hR1 hf.2
  rw [N1] at z1
  have gz : f.2.2.2.2.2 = (0, 0) := Prod.ext e5 e6
  rw [gz] at hR5
  have w1 : r5 79 = r1 0 + 0 := z2 _ List.mem_cons_self
  have w2 : r5 78 = r1 63 + 0 := z2 _ (List.mem_cons_of_mem _ List.mem_cons_self)
  have w3 : r1 0 = 0 := hR1.env.1
  have w4 : r1 63 = r 63 := x1 63 (by omega)
  exact pg_loop (n := 7) (by omega) F hl hret htb hPw hE hs _ r5 ad1 H1 locs1 ls1 st1 rfl (by omega) (by omega) hR5 z1 x2
/-! BY HAND: cn_minutesG: minutes are counted one by one; the ghost is what was counted and n together -/
noncomputable def cn_minutesG : us_C := ([(.ofNat 0, .ofNat 1000), cb_i, (.ofNat 0, .ofNat 4), (.ofNat 0, .ofNat 5), (.ofNat 0, .ofNat 4), (.ofNat 0, .ofNat 12), (.ofNat 0, .ofNat 200), (.ofNat 0, .ofNat 200), (.ofNat 0, .ofNat 200), cb_i, cb_i, cb_i, (.ofNat 0, .ofNat 200), (.ofNat 0, .ofNat 200), cb_i, cb_i, cb_i, cb_i, (.ofNat 0, .ofNat 1), cb_i, cb_i, cb_i, cb_i, cb_i, (.ofNat 0, .ofNat 1), (.ofNat 0, .ofNat 4), (.ofNat 0, .ofNat 4), cb_i, (.ofNat 0, .ofNat 4), (.ofNat 0, .ofNat 4), (.ofNat 0, .ofNat 1), (.ofNat 0, .ofNat 1), cb_i, cb_i, (.ofNat 0, .ofNat 1000), cb_i, cb_i, (.ofNat 0, .ofNat 4), (.ofNat 0, .ofNat 4), (.ofNat 0, .ofNat 4), (.negSucc 0, .ofNat 13), cb_i, (.ofNat 0, .ofNat 60), (.negSucc 0, .ofNat 999), (.negSucc 0, .ofNat 999), (.negSucc 0, .ofNat 999), (.negSucc 0, .ofNat 999), (.ofNat 0, .ofNat 1000)], [.inr (.inr (some (some 264))), .inl (1, .ofNat 0)], (336, ai_nd 8 (ai_nd 7 (ai_nd 6 (ai_nd 5 (ce_5) (ai_nd 4 (ai_nd 3 (ai_nd 2 (ai_nd 1 (ai_nd 0 (ce_0) (some (.inl (12, [.inr (.inr (some (some 265))), .inl (2, .ofNat 0), .inl (3, .ofNat 0), .inl (4, .ofNat 0), .inl (5, .ofNat 0), .inl (6, .ofNat 0), .inr (.inr (some (some 266))), .inr (.inr (some (some 267))), .inr (.inr (some (some 268))), .inr (.inr (some (some 269))), .inr (.inr (some (some 270))), .inr (.inr (some (some 271))), .inr (.inr (some (some 272))), .inr (.inr (some (some 273))), .inr (.inr (some (some 274))), .inr (.inr (some (some 275))), .inr (.inr (some (some 276))), .inr (.inr (some (some 277))), .inr (.inr (some (some 278))), .inr (.inr (some (some 279))), .inr (.inr (some (some 280))), .inr (.inr (some (some 281))), .inr (.inr (some (some 282))), .inr (.inr (some (some 283))), .inr (.inr (some (some 284))), .inr (.inr (some (some 285))), .inl (7, .ofNat 0), .inl (8, .ofNat 0), .inl (9, .ofNat 0), .inl (10, .ofNat 0), .inl (11, .ofNat 0), .inl (12, .ofNat 0), .inl (13, .ofNat 0), .inl (14, .ofNat 0), .inl (15, .ofNat 0), .inl (16, .ofNat 0), .inl (17, .ofNat 0), .inl (18, .ofNat 0), .inr (.inr (some (some 286))), .inr (.inr (some (some 287))), .inr (.inr (some (some 288))), .inr (.inr (some (some 289))), .inr (.inr (some (some 290))), .inr (.inr (some (some 291))), .inr (.inr (some (some 292))), .inr (.inr (some (some 293))), .inl (19, .ofNat 0), .inl (20, .ofNat 0), .inl (21, .ofNat 0), .inr (.inr (some (some 294))), .inr (.inr (some (some 295))), .inr (.inr (some (some 296))), .inr (.inr (some (some 297))), .inr (.inr (some (some 298))), .inr (.inr (some (some 299))), .inr (.inr (some (some 300))), .inr (.inr (some (some 301))), .inr (.inr (some (some 302))), .inr (.inr (some (some 303))), .inl (22, .ofNat 0), .inl (23, .ofNat 0), .inl (24, .ofNat 0), .inl (25, .ofNat 0), .inl (26, .ofNat 0), .inr (.inr (some (some 304))), .inr (.inr (some (some 305))), .inr (.inr (some (some 306))), .inr (.inr (some (some 307))), .inr (.inr (some (some 308))), .inl (27, .ofNat 0), .inl (28, .ofNat 0), .inl (29, .ofNat 0), .inl (30, .ofNat 0), .inr (.inr (some (some 309))), .inr (.inr (some (some 310))), .inr (.inr (some (some 311))), .inr (.inr (some (some 312))), .inr (.inr (some (some 313))), .inr (.inr (some (some 314))), .inr (.inr (some (some 315))), .inr (.inr (some (some 316))), .inr (.inr (some (some 317))), .inr (.inr (some (some 318))), .inl (31, .ofNat 0), .inr (.inr (some (some 319))), .inr (.inr (some (some 320))), .inr (.inr (some (some 321))), .inl (0, .ofNat 1), .inl (32, .ofNat 0), .inl (33, .ofNat 0), .inl (34, .ofNat 0), .inl (35, .ofNat 0), .inl (36, .ofNat 0), .inl (37, .ofNat 0), .inl (38, .ofNat 0), .inr (.inr (some (some 322))), .inr (.inr (some (some 323))), .inr (.inr (some (some 324))), .inr (.inr (some (some 325))), .inr (.inr (some (some 326))), .inl (39, .ofNat 0), .inl (40, .ofNat 0), .inr (.inr (some (some 327))), .inr (.inr (some (some 328))), .inr (.inr (some (some 329))), .inr (.inr (some (some 330))), .inl (41, .ofNat 0), .inl (42, .ofNat 0), .inl (43, .ofNat 0), .inr (.inr (some (some 331))), .inr (.inr (some (some 332))), .inr (.inr (some (some 333))), .inr (.inr (some (some 334)))])))) (ce_1)) (ce_2)) (ce_3)) (ce_4))) (ai_nd 5 (ai_nd 4 (ai_nd 3 (ai_nd 2 (ce_2) (ai_nd 1 (ai_nd 0 (ce_0) (some (ca_0_4_0_3))) (ce_1))) (ce_3)) (ce_4)) (ce_5))) (ai_nd 6 (ai_nd 5 (ai_nd 4 (ai_nd 3 (ai_nd 2 (ce_2) (ai_nd 1 (ai_nd 0 (ce_0) (some (ca_0_4_m2147483648_2147483647))) (ce_1))) (ce_3)) (ce_4)) (ce_5)) (ai_nd 5 (ai_nd 4 (ai_nd 3 (ai_nd 2 (ce_2) (ai_nd 1 (ai_nd 0 (ce_0) (some (ca_0_4_0_7))) (ce_1))) (ce_3)) (ce_4)) (ce_5)))) (ai_nd 7 (ai_nd 6 (ce_6) (ai_nd 5 (ai_nd 4 (ai_nd 3 (ai_nd 2 (ce_2) (ai_nd 1 (ai_nd 0 (ce_0) (some (ca_0_4_m2147483648_2147483647))) (ce_1))) (ce_3)) (ce_4)) (ce_5))) (ai_nd 6 (ai_nd 5 (ai_nd 4 (ai_nd 3 (ai_nd 2 (ce_2) (ai_nd 1 (ai_nd 0 (ce_0) (some (.inr (.inl (0, 4, .negSucc 0, .ofNat 999, [((0, .ofNat 0), (44, .ofNat 0)), ((0, .ofNat 1), (45, .ofNat 0)), ((0, .ofNat 2), (46, .ofNat 0)), ((0, .ofNat 3), (47, .ofNat 0))]))))) (ce_1))) (ce_3)) (ce_4)) (ce_5)) (ce_6)))), [(.inr (some (.inl (54, .ofNat 0))), [cb_i, (.ofNat 0, .ofNat 1), cb_i, cb_i, (.ofNat 0, .ofNat 4), cb_i], (336, ai_nd 8 (ai_nd 7 (ai_nd 6 (ai_nd 5 (ce_5) (ai_nd 4 (ai_nd 3 (ai_nd 2 (ai_nd 1 (ai_nd 0 (ce_0) (some (.inl (12, [.inr (.inr (some (some 265))), .inl (49, .ofNat 0), .inl (3, .ofNat 0), .inl (4, .ofNat 0), .inl (5, .ofNat 0), .inl (6, .ofNat 0), .inr (.inr (some (some 266))), .inr (.inr (some (some 267))), .inr (.inr (some (some 268))), .inr (.inr (some (some 269))), .inr (.inr (some (some 270))), .inr (.inr (some (some 271))), .inr (.inr (some (some 272))), .inr (.inr (some (some 273))), .inr (.inr (some (some 274))), .inr (.inr (some (some 275))), .inr (.inr (some (some 276))), .inr (.inr (some (some 277))), .inr (.inr (some (some 278))), .inr (.inr (some (some 279))), .inr (.inr (some (some 280))), .inr (.inr (some (some 281))), .inr (.inr (some (some 282))), .inr (.inr (some (some 283))), .inr (.inr (some (some 284))), .inr (.inr (some (some 285))), .inl (7, .ofNat 0), .inl (8, .ofNat 0), .inl (9, .ofNat 0), .inl (10, .ofNat 0), .inl (11, .ofNat 0), .inl (12, .ofNat 0), .inl (13, .ofNat 0), .inl (14, .ofNat 0), .inl (15, .ofNat 0), .inl (16, .ofNat 0), .inl (17, .ofNat 0), .inl (18, .ofNat 0), .inr (.inr (some (some 286))), .inr (.inr (some (some 287))), .inr (.inr (some (some 288))), .inr (.inr (some (some 289))), .inr (.inr (some (some 290))), .inr (.inr (some (some 291))), .inr (.inr (some (some 292))), .inr (.inr (some (some 293))), .inl (19, .ofNat 0), .inl (20, .ofNat 0), .inl (21, .ofNat 0), .inr (.inr (some (some 294))), .inr (.inr (some (some 295))), .inr (.inr (some (some 296))), .inr (.inr (some (some 297))), .inr (.inr (some (some 298))), .inr (.inr (some (some 299))), .inr (.inr (some (some 300))), .inr (.inr (some (some 301))), .inr (.inr (some (some 302))), .inr (.inr (some (some 303))), .inl (22, .ofNat 0), .inl (23, .ofNat 0), .inl (24, .ofNat 0), .inl (25, .ofNat 0), .inl (26, .ofNat 0), .inr (.inr (some (some 304))), .inr (.inr (some (some 305))), .inr (.inr (some (some 306))), .inr (.inr (some (some 307))), .inr (.inr (some (some 308))), .inl (27, .ofNat 0), .inl (28, .ofNat 0), .inl (29, .ofNat 0), .inl (30, .ofNat 0), .inr (.inr (some (some 309))), .inr (.inr (some (some 310))), .inr (.inr (some (some 311))), .inr (.inr (some (some 312))), .inr (.inr (some (some 313))), .inr (.inr (some (some 314))), .inr (.inr (some (some 315))), .inr (.inr (some (some 316))), .inr (.inr (some (some 317))), .inr (.inr (some (some 318))), .inl (31, .ofNat 0), .inr (.inr (some (some 319))), .inr (.inr (some (some 320))), .inr (.inr (some (some 321))), .inl (0, .ofNat 1), .inl (50, .ofNat 0), .inl (33, .ofNat 0), .inl (34, .ofNat 0), .inl (48, .ofNat 0), .inl (51, .ofNat 0), .inl (52, .ofNat 0), .inl (53, .ofNat 0), .inr (.inr (some (some 322))), .inr (.inr (some (some 323))), .inr (.inr (some (some 324))), .inr (.inr (some (some 325))), .inr (.inr (some (some 326))), .inl (39, .ofNat 0), .inl (40, .ofNat 0), .inr (.inr (some (some 327))), .inr (.inr (some (some 328))), .inr (.inr (some (some 329))), .inr (.inr (some (some 330))), .inl (41, .ofNat 0), .inl (42, .ofNat 0), .inl (43, .ofNat 0), .inr (.inr (some (some 331))), .inr (.inr (some (some 332))), .inr (.inr (some (some 333))), .inr (.inr (some (some 334)))])))) (ce_1)) (ce_2)) (ce_3)) (ce_4))) (ai_nd 5 (ai_nd 4 (ai_nd 3 (ai_nd 2 (ce_2) (ai_nd 1 (ai_nd 0 (ce_0) (some (ca_0_4_0_3))) (ce_1))) (ce_3)) (ce_4)) (ce_5))) (ai_nd 6 (ai_nd 5 (ai_nd 4 (ai_nd 3 (ai_nd 2 (ce_2) (ai_nd 1 (ai_nd 0 (ce_0) (some (ca_0_4_m2147483648_2147483647))) (ce_1))) (ce_3)) (ce_4)) (ce_5)) (ai_nd 5 (ai_nd 4 (ai_nd 3 (ai_nd 2 (ce_2) (ai_nd 1 (ai_nd 0 (ce_0) (some (ca_0_4_0_7))) (ce_1))) (ce_3)) (ce_4)) (ce_5)))) (ai_nd 7 (ai_nd 6 (ce_6) (ai_nd 5 (ai_nd 4 (ai_nd 3 (ai_nd 2 (ce_2) (ai_nd 1 (ai_nd 0 (ce_0) (some (ca_0_4_m2147483648_2147483647))) (ce_1))) (ce_3)) (ce_4)) (ce_5))) (ai_nd 6 (ai_nd 5 (ai_nd 4 (ai_nd 3 (ai_nd 2 (ce_2) (ai_nd 1 (ai_nd 0 (ce_0) (some (.inr (.inl (0, 4, .negSucc 0, .ofNat 999, [((0, .ofNat 0), (44, .ofNat 0)), ((0, .ofNat 1), (45, .ofNat 0)), ((0, .ofNat 2), (46, .ofNat 0)), ((0, .ofNat 3), (47, .ofNat 0))]))))) (ce_1))) (ce_3)) (ce_4)) (ce_5)) (ce_6)))))])
noncomputable def pm_gs : List (Nat × Nat × ai_X × ai_X) := [(48, 0, (35, 0), (1, 0))]
noncomputable def pm_T : List (Nat × us_C) := [(245, cn_passMinute)]
theorem pm_Tok : lt_all 2 pm_T := ⟨cp_passMinute.mono (by decide), trivial⟩
noncomputable def pm_E : ai_E := sm_E (1, [], []) cn_minutesG.1
noncomputable def pm_h : ai_H := cn_minutesG.2.2.1
noncomputable def pm_W : List sm_W := cn_minutesG.2.2.2
/-- the start, with what the ghost stands for -/
noncomputable def pm_G0 : ai_G := ((pm_E.1, pm_E.2.1, [(0, 48, (35, 0), (1, 0))]), pm_h, 0, 0)
noncomputable def pm_k : ai_H := hg_fld (hg_fld (hg_fld (hg_fld (hg_fld (hg_fld (pm_h) 264 1 (49, 0)) 264 88 (50, 0)) 264 92 (51, 0)) 264 93 (52, 0)) 264 94 (53, 0)) 264 91 (54, 0)
noncomputable def pm_nb : List (Int × Int) := [cb_i, (.ofNat 0, .ofNat 1), cb_i, cb_i, (.ofNat 0, .ofNat 4), (.ofNat 0, .ofNat 1000), (.ofNat 0, .ofNat 1000)]
noncomputable def pm_GA : ai_G := (sm_E pm_E pm_nb, pm_k, 0, 0)
noncomputable def pm_L : List ai_V := [.inr (.inr (some (some 264))), .inl (1, 0), .inl (55, 0)]
noncomputable def pm_at (pc : Nat) (S : List ai_V) (f : ai_F) : Bool := Nat.beq f.1 pc && (decide (f.2.2.1 = S) && (Nat.ble 49 f.2.2.2.1.1 && (Nat.beq f.2.2.2.2.1.1 336 && (Nat.beq f.2.2.2.2.2.1 0 && Nat.beq f.2.2.2.2.2.2 0))))
theorem pm_atok {pc : Nat} {S : List ai_V} {f : ai_F} (h : pm_at pc S f = true) : f.1 = pc ∧ f.2.2.1 = S ∧ 49 ≤ f.2.2.2.1.1 ∧ f.2.2.2.2.1.1 = 336 ∧ f.2.2.2.2.2.1 = 0 ∧ f.2.2.2.2.2.2 = 0 := by
  unfold pm_at at h
  simp only [Bool.and_eq_true, decide_eq_true_eq] at h
  obtain ⟨h1, h2, h3, h4, h5, h6⟩ := h
  exact ⟨Nat.eq_of_beq_eq_true h1, h2, Nat.le_of_ble_eq_true h3, Nat.eq_of_beq_eq_true h4, Nat.eq_of_beq_eq_true h5, Nat.eq_of_beq_eq_true h6⟩
noncomputable def pm_c (o : List (Nat × ai_X)) (f : ai_F) : Bool := pm_at 45 [] f && hw_subY pm_E pm_nb pm_k pm_L [] f.2.1 [] f.2.2.2 o
noncomputable def pm_o0 : List (Nat × ai_X) := [(55, (0, 0)), (54, (35, 0))]
noncomputable def pm_o1 : List (Nat × ai_X) := [(55, (55, 1)), (54, (54, 1))]
noncomputable def pm_c4 (f : ai_F) : Bool := pm_at 47 [.inl (1, 0), .inl (55, 0)] f && (Nat.blt 55 f.2.2.2.1.1 && ((List.range 16).all (fun q => (ai_cell f.2.2.2.2.1 q).isNone) && (lz_fin pm_T 246 [] pm_E pm_W 60 f.2.1 [] (tq_G 54 48 f.2.2.2) && lz_chk pm_T 246 [45] false 50 f.2.1 [] (rd_cap (rd_cap f.2.2.2 54 (0, 999)) 55 (0, 999)) (pm_c pm_o1))))
theorem pm_pl : ls_plain 246 = true := by decide +kernel
theorem pm_k0 : lz_chk pm_T 246 [45] false 0 [.inr (.inr (some (some 264))), .inl (1, 0), .inr (.inr none)] [] pm_G0 (pm_c pm_o0) = true := by decide +kernel
theorem pm_k1 : lz_chk pm_T 246 [47] false 45 pm_L [] pm_GA pm_c4 = true := by decide +kernel
theorem pm_dc : decode (ct_mt 246).2.1 47 = .ok (.if_icmp .ge 13, 3) := by decide +kernel
theorem pm_N : pm_E.1 = 49 ∧ pm_E.2.2 = [] ∧ pm_h.1 = 336 ∧ pm_k.1 = 336 ∧ (pm_GA).1.1 = 56 := by decide +kernel
theorem pm_b : (48, ((0 : Int), (1000 : Int))) ∈ pm_E.2.1 ∧ (35, ((0 : Int), (1000 : Int))) ∈ pm_E.2.1 ∧ (1, ((0 : Int), (1000 : Int))) ∈ pm_E.2.1 ∧ (55, ((0 : Int), (1000 : Int))) ∈ pm_GA.1.2.1 ∧ (54, ((0 : Int), (1000 : Int))) ∈ pm_GA.1.2.1 := by decide +kernel
section Gpm
variable {p : Program} {l : Launch} {e : Env} {s : State} {m : MethodId} {args : Array Value} {below : List Frame} {meth : Method} {c : Code}
variable {D : va_G} {tyc : Nat → ClassId} {A : Nat → Prop} {sa : ai_B} {ws0 : va_W} {r : Nat → Int} {ad : Nat → Nat} {n : Nat}
theorem pm_loop (hn : 6 ≤ n) (F : ls_Fr p (lt_rm (n + 1) 246) s m args meth c D tyc A sa 246) (hl : l.stackTraces = false) (hret : meth.sig.returnType = (ct_mt 246).2.2.2.1) (htb : ∀ x ∈ c.exceptionTable.toList, False) (hPw : ai_Pw tyc ws0) (hE : ai_gE r pm_E) (hs : r 48 = r 35 + r 1) :
    ∀ (d : Nat) (r' : Nat → Int) (ad' : Nat → Nat) (H : Heap) (locs : List Loc) (ls : Array Slot) (st : List Value), (1000 - r' 55).toNat = d → r' 54 = r 35 + r' 55 → r' 55 ≤ r 1 → ai_Rel D tyc A s sa ws0 (ct_mt 246).2.2.1 r' ad' pm_L [] pm_GA H locs ls st → ai_ext 49 r r' → ai_ext 336 ad ad' →
      W p l e (lt_rm (n + 1) 246) s m args below meth c H locs 0 0 (vx_MQ below (ai_Qc D tyc A sa ws0 r ad pm_E.1 336 (pm_W.map (sm_out pm_E))) (ai_XC D tyc A sa ws0 r ad pm_E.1 336 (pm_W.map (sm_out pm_E))) args s (lt_rm (n + 1) 246).cells (lt_rm (n + 1) 246).slots A) (F0 m 45 ls st) := by
  obtain ⟨N1, N2, N3, N4, N5⟩ := pm_N
  obtain ⟨bZ, bg, b1, bi, bG⟩ := pm_b
  intro d
  induction d using Nat.strongRecOn with
  | _ d ih =>
    intro r' ad' H locs ls st hd hg hi hR hx hax
    refine lz_ok (k0 := 2) (G := pm_GA) pm_pl F hl pm_Tok hn hPw pm_k1 hR (fun f hf => ?_)
    intro r1 ad1 x1 x2 x3 x4 H1 locs1 ls1 st1 hR1
    have x1 : ai_ext 56 r' r1 := by rw [N5] at x1; exact x1
    have x2 : ai_ext 336 ad' ad1 := x2.mono (by
      have : (pm_GA).2.1.1 = 336 := N4
      omega)
    have hx1 : ai_ext 49 r r1 := fun u hu => (x1 u (by omega)).trans (hx u hu)
    have hax1 : ai_ext 336 ad ad1 := fun u hu => (x2 u hu).trans (hax u hu)
    unfold pm_c4 at hf
    simp only [Bool.and_eq_true] at hf
    obtain ⟨c1, c2, c5, c3, c4⟩ := hf
    have c2 : 55 < f.2.2.2.1.1 := Nat.le_of_ble_eq_true c2
    obtain ⟨d1, d2, d3, d4, d5, d6⟩ := pm_atok c1
    rw [d1]
    rw [d2] at hR1
    have ei : r1 55 = r' 55 := x1 55 (by omega)
    have eg : r1 54 = r' 54 := x1 54 (by omega)
    have en : r1 1 = r 1 := hx1 1 (by omega)
    have eZ : r1 48 = r 48 := hx1 48 (by omega)
    have hbZ : 0 ≤ r 48 ∧ r 48 ≤ 1000 := (hE.2.2.2.1 _ bZ).2
    have hb1 : 0 ≤ r 1 ∧ r 1 ≤ 1000 := (hE.2.2.2.1 _ b1).2
    have hbg := (hE.2.2.2.1 _ bg).2
    have hbg1 : 0 ≤ r 35 := Int.le_trans (by decide) hbg.1
    have hbi : 0 ≤ r' 55 ∧ r' 55 ≤ 1000 := (hR.env.2.2.2.1 _ bi).2
    refine hg_icmp (G := f.2.2.2) (x := (55, 0)) (y := (1, 0)) (tgt := 60) F pm_dc (by decide) hR1 (fun hk st2 hR2 => ?_) (fun hk st2 hR2 => ?_)
    · have hk : r1 1 + 0 ≤ r1 55 + 0 := hk
      have h16 : ∀ q, q < 16 → ai_cell f.2.2.2.2.1 q = none := fun q hq => by
        have := List.all_eq_true.mp c5 q (List.mem_range.mpr hq)
        exact Option.isNone_iff_eq_none.mp this
      have hR3 := tq_ok (t := 54) (u := 48) hR2 (by omega) (by omega) h16
      exact lz_fin_ok (G := tq_G 54 48 f.2.2.2) (k0 := 2) (r0 := r) (ad0 := ad) (n0 := 336) pm_pl F hl hret htb pm_Tok hn hPw hE N2 c3 hR3 (by rw [N1]; exact hx1) hax1 (by rw [N1]; exact d3) (by show 336 ≤ f.2.2.2.2.1.1; omega)
    · have hk : ¬ (r1 1 + 0 ≤ r1 55 + 0) := hk
      have hR3 := rd_cap_ok (t := 54) (b := (0, 999)) hR2 (by omega) ⟨by show (0 : Int) ≤ _; omega, by show _ ≤ (999 : Int); omega⟩
      have hR3 := rd_cap_ok (t := 55) (b := (0, 999)) hR3 c2 ⟨by show (0 : Int) ≤ _; omega, by show _ ≤ (999 : Int); omega⟩
      refine lz_ok (k0 := 2) (G := rd_cap (rd_cap f.2.2.2 54 (0, 999)) 55 (0, 999)) pm_pl F hl pm_Tok hn hPw c4 hR3 (fun g hg' => ?_)
      intro r4 ad4 y1 y2 y3 y4 H4 locs4 ls4 st4 hR4
      unfold pm_c at hg'
      rw [Bool.and_eq_true] at hg'
      obtain ⟨e1, e2, e3, e4, e5, e6⟩ := pm_atok hg'.1
      rw [e1, e5, e6]
      rw [e2] at hR4
      have y1 : ai_ext f.2.2.2.1.1 r1 r4 := y1
      have y2 : ai_ext 336 ad1 ad4 := y2.mono (by show 336 ≤ f.2.2.2.2.1.1; omega)
      have hx4 : ai_ext 49 r r4 := fun u hu => (y1 u (by omega)).trans (hx1 u hu)
      have hax4 : ai_ext 336 ad ad4 := fun u hu => (y2 u hu).trans (hax1 u hu)
      obtain ⟨r5, z1, hR5, z2⟩ := hw_okY (L' := pm_L) (S' := []) hE N2 (by rw [N1]; exact hx4) (by rw [N1]; exact e3) hR4 hg'.2
      rw [N1] at z1
      have gz : g.2.2.2.2.2 = (0, 0) := Prod.ext e5 e6
      rw [gz] at hR5
      have w1 : r5 55 = r4 55 + 1 := z2 _ List.mem_cons_self
      have w2 : r5 54 = r4 54 + 1 := z2 _ (List.mem_cons_of_mem _ List.mem_cons_self)
      have w3 : r4 55 = r1 55 := y1 55 c2
      have w4 : r4 54 = r1 54 := y1 54 (by omega)
      exact ih (1000 - r5 55).toNat (by omega) r5 ad4 H4 locs4 ls4 st4 rfl (by omega) (by omega) hR5 z1 hax4
end Gpm
theorem cp_minutesG : gx_ok 7 246 (cn_minutesG, pm_gs) := by
  obtain ⟨N1, N2, N3, N4, N5⟩ := pm_N
  refine gx_hand (n := 6) pm_pl (by decide +kernel) [.inr (.inr (some (some 264))), .inl (1, 0), .inr (.inr none)] (by
    have e : (ct_mt 246).2.2.1 = 3 := by decide +kernel
    show ai_pad (ct_mt 246).2.2.1 [.inr (.inr (some (some 264))), .inl (1, .ofNat 0)] = _
    rw [e]
    rfl) (fun l D tyc A sa hl ws0 r ad hPw hE hsd p e s m args below meth c ls F hret htb hR => ?_)
  have hE : ai_gE r pm_E := hE
  obtain ⟨bZ, bg, b1, bi, bG⟩ := pm_b
  have hbg := (hE.2.2.2.1 _ bg).2
  have hb1 : 0 ≤ r 1 ∧ r 1 ≤ 1000 := (hE.2.2.2.1 _ b1).2
  have hs0 : r 48 = ai_op 0 (r 35 + 0) (r 1 + 0) := hsd _ List.mem_cons_self
  have hbg1 : r 35 ≤ 1000 := Int.le_trans hbg.2 (by decide)
  have hbg0 : 0 ≤ r 35 := Int.le_trans (by decide) hbg.1
  have hs : r 48 = r 35 + r 1 := by
    rw [hs0]
    show (r 35 + 0 + (r 1 + 0)).bmod 4294967296 = _
    rw [Int.add_zero, Int.add_zero]
    exact Int.bmod_eq_of_le_mul_two (by omega) (by omega)
  have hE2 : ai_gE r pm_G0.1 := ⟨hE.1, hE.2.1, hE.2.2.1, hE.2.2.2.1, fun q hq => by
    rcases List.mem_cons.mp hq with rfl | hq
    · have h9 : pm_G0.1.1 = 49 := N1
      exact ⟨by rw [h9]; show 48 < 49; omega, by rw [h9]; show 35 < 49; omega, by rw [h9]; show 1 < 49; omega, hs0⟩
    · cases hq⟩
  have hR0 : ai_Rel D tyc A s sa ws0 (ct_mt 246).2.2.1 r ad [.inr (.inr (some (some 264))), .inl (1, 0), .inr (.inr none)] [] pm_G0 s.heap [] ls [] := hR.re (E' := pm_G0.1) (r' := r) (S' := []) (st' := []) ai_ext.rfl' (Nat.le_refl _) hE2 trivial
  have h9 : cn_minutesG.2.2.1.1 = 336 := N3
  rw [h9]
  refine lz_ok (k0 := 2) (G := pm_G0) pm_pl F hl pm_Tok (by omega) hPw pm_k0 hR0 (fun f hf => ?_)
  intro r1 ad1 x1 x2 x3 x4 H1 locs1 ls1 st1 hR1
  have x1 : ai_ext pm_E.1 r r1 := x1
  rw [N1] at x1
  have x2 : ai_ext 336 ad ad1 := x2.mono (by
    have : pm_G0.2.1.1 = 336 := N3
    omega)
  unfold pm_c at hf
  rw [Bool.and_eq_true] at hf
  obtain ⟨e1, e2, e3, e4, e5, e6⟩ := pm_atok hf.1
  rw [e1, e5, e6]
  rw [e2] at hR1
  obtain ⟨r5, z1, hR5, z2⟩ := hw_okY (L' := pm_L) (S' := []) hE N2 (by rw [N1]; exact x1) (by rw [N1]; exact e3) hR1 hf.2
  rw [N1] at z1
  have gz : f.2.2.2.2.2 = (0, 0) := Prod.ext e5 e6
  rw [gz] at hR5
  have w1 : r5 55 = r1 0 + 0 := z2 _ List.mem_cons_self
  have w2 : r5 54 = r1 35 + 0 := z2 _ (List.mem_cons_of_mem _ List.mem_cons_self)
  have w3 : r1 0 = 0 := hR1.env.1
  have w4 : r1 35 = r 35 := x1 35 (by omega)
  exact pm_loop (n := 6) (by omega) F hl hret htb hPw hE hs _ r5 ad1 H1 locs1 ls1 st1 rfl (by omega) (by omega) hR5 z1 x2
