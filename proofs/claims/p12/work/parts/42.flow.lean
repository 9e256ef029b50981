/-! BY HAND: flow (the reference): the common part by remainders, longs of any sign -/
/-- m.flow: LMModel.flow(IIII)I (by hand) -/
noncomputable def cn_m_flow : us_C := ([cb_i, cb_i, cb_i, cb_i, cb_i, (.ofNat 0, .ofNat 4), (.ofNat 0, .ofNat 5), (.ofNat 0, .ofNat 4), (.ofNat 0, .ofNat 12), (.ofNat 0, .ofNat 200), (.ofNat 0, .ofNat 200), (.ofNat 0, .ofNat 200), cb_i, cb_i, cb_i, (.ofNat 0, .ofNat 200), (.ofNat 0, .ofNat 200), cb_i, cb_i, cb_i, cb_i, (.ofNat 0, .ofNat 1), cb_i, cb_i, cb_i, cb_i, cb_i, (.ofNat 0, .ofNat 1), (.ofNat 0, .ofNat 4), (.ofNat 0, .ofNat 4), cb_i, (.ofNat 0, .ofNat 4), (.ofNat 0, .ofNat 4), (.ofNat 0, .ofNat 1), (.ofNat 0, .ofNat 1), (.ofNat 0, .ofNat 1), cb_i, cb_i, cb_i, cb_i, cb_i, (.ofNat 0, .ofNat 4), (.ofNat 0, .ofNat 4), (.ofNat 0, .ofNat 4), (.negSucc 0, .ofNat 13), cb_i, (.ofNat 0, .ofNat 60), (.ofNat 0, .ofNat 3), (.ofNat 0, .ofNat 3), (.ofNat 0, .ofNat 3), (.ofNat 0, .ofNat 3), (.ofNat 0, .ofNat 3), (.ofNat 0, .ofNat 3), (.ofNat 0, .ofNat 3), (.ofNat 0, .ofNat 3), (.ofNat 0, .ofNat 3), (.ofNat 0, .ofNat 3), (.ofNat 0, .ofNat 9), (.ofNat 0, .ofNat 9), (.ofNat 0, .ofNat 9), (.ofNat 0, .ofNat 9), (.ofNat 0, .ofNat 9)], [.inr (.inr (some (some 264))), .inl (1, .ofNat 0), .inl (2, .ofNat 0), .inl (3, .ofNat 0), .inl (4, .ofNat 0)], (336, ai_nd 8 (ai_nd 7 (ai_nd 6 (ai_nd 5 (ce_5) (ai_nd 4 (ai_nd 3 (ai_nd 2 (ai_nd 1 (ai_nd 0 (ce_0) (some (.inl (12, [.inr (.inr (some (some 265))), .inl (5, .ofNat 0), .inl (6, .ofNat 0), .inl (7, .ofNat 0), .inl (8, .ofNat 0), .inl (9, .ofNat 0), .inr (.inr (some (some 266))), .inr (.inr (some (some 267))), .inr (.inr (some (some 268))), .inr (.inr (some (some 269))), .inr (.inr (some (some 270))), .inr (.inr (some (some 271))), .inr (.inr (some (some 272))), .inr (.inr (some (some 273))), .inr (.inr (some (some 274))), .inr (.inr (some (some 275))), .inr (.inr (some (some 276))), .inr (.inr (some (some 277))), .inr (.inr (some (some 278))), .inr (.inr (some (some 279))), .inr (.inr (some (some 280))), .inr (.inr (some (some 281))), .inr (.inr (some (some 282))), .inr (.inr (some (some 283))), .inr (.inr (some (some 284))), .inr (.inr (some (some 285))), .inl (10, .ofNat 0), .inl (11, .ofNat 0), .inl (12, .ofNat 0), .inl (13, .ofNat 0), .inl (14, .ofNat 0), .inl (15, .ofNat 0), .inl (16, .ofNat 0), .inl (17, .ofNat 0), .inl (18, .ofNat 0), .inl (19, .ofNat 0), .inl (20, .ofNat 0), .inl (21, .ofNat 0), .inr (.inr (some (some 286))), .inr (.inr (some (some 287))), .inr (.inr (some (some 288))), .inr (.inr (some (some 289))), .inr (.inr (some (some 290))), .inr (.inr (some (some 291))), .inr (.inr (some (some 292))), .inr (.inr (some (some 293))), .inl (22, .ofNat 0), .inl (23, .ofNat 0), .inl (24, .ofNat 0), .inr (.inr (some (some 294))), .inr (.inr (some (some 295))), .inr (.inr (some (some 296))), .inr (.inr (some (some 297))), .inr (.inr (some (some 298))), .inr (.inr (some (some 299))), .inr (.inr (some (some 300))), .inr (.inr (some (some 301))), .inr (.inr (some (some 302))), .inr (.inr (some (some 303))), .inl (25, .ofNat 0), .inl (26, .ofNat 0), .inl (27, .ofNat 0), .inl (28, .ofNat 0), .inl (29, .ofNat 0), .inr (.inr (some (some 304))), .inr (.inr (some (some 305))), .inr (.inr (some (some 306))), .inr (.inr (some (some 307))), .inr (.inr (some (some 308))), .inl (30, .ofNat 0), .inl (31, .ofNat 0), .inl (32, .ofNat 0), .inl (33, .ofNat 0), .inr (.inr (some (some 309))), .inr (.inr (some (some 310))), .inr (.inr (some (some 311))), .inr (.inr (some (some 312))), .inr (.inr (some (some 313))), .inr (.inr (some (some 314))), .inr (.inr (some (some 315))), .inr (.inr (some (some 316))), .inr (.inr (some (some 317))), .inr (.inr (some (some 318))), .inl (34, .ofNat 0), .inr (.inr (some (some 319))), .inr (.inr (some (some 320))), .inr (.inr (some (some 321))), .inl (35, .ofNat 0), .inl (36, .ofNat 0), .inl (37, .ofNat 0), .inl (38, .ofNat 0), .inl (39, .ofNat 0), .inl (40, .ofNat 0), .inl (41, .ofNat 0), .inl (42, .ofNat 0), .inr (.inr (some (some 322))), .inr (.inr (some (some 323))), .inr (.inr (some (some 324))), .inr (.inr (some (some 325))), .inr (.inr (some (some 326))), .inl (43, .ofNat 0), .inl (44, .ofNat 0), .inr (.inr (some (some 327))), .inr (.inr (some (some 328))), .inr (.inr (some (some 329))), .inr (.inr (some (some 330))), .inl (45, .ofNat 0), .inl (46, .ofNat 0), .inl (47, .ofNat 0), .inr (.inr (some (some 331))), .inr (.inr (some (some 332))), .inr (.inr (some (some 333))), .inr (.inr (some (some 334)))])))) (ce_1)) (ce_2)) (ai_nd 2 (ai_nd 1 (ai_nd 0 (ce_0) (some (ca_1_16_m9223372036854775808_9223372036854775807))) (ce_1)) (ce_2))) (ce_4))) (ai_nd 5 (ce_5) (ai_nd 4 (ai_nd 3 (ai_nd 2 (ai_nd 1 (ai_nd 0 (ce_0) (some (.inr (.inl (0, 5, .negSucc 2147483647, .ofNat 2147483647, [((0, .ofNat 0), (58, .ofNat 0)), ((0, .ofNat 1), (59, .ofNat 0)), ((0, .ofNat 2), (60, .ofNat 0)), ((0, .ofNat 3), (61, .ofNat 0)), ((0, .ofNat 4), (62, .ofNat 0))]))))) (ce_1)) (ce_2)) (ce_3)) (ce_4)))) (ai_nd 6 (ai_nd 5 (ce_5) (ai_nd 4 (ai_nd 3 (ai_nd 2 (ai_nd 1 (ai_nd 0 (ce_0) (some (.inr (.inl (0, 5, .ofNat 0, .ofNat 3, [((0, .ofNat 0), (48, .ofNat 0)), ((0, .ofNat 1), (49, .ofNat 0)), ((0, .ofNat 2), (50, .ofNat 0)), ((0, .ofNat 3), (51, .ofNat 0)), ((0, .ofNat 4), (52, .ofNat 0))]))))) (ce_1)) (ce_2)) (ce_3)) (ce_4))) (ai_nd 5 (ai_nd 4 (ai_nd 3 (ce_3) (ai_nd 2 (ai_nd 1 (ai_nd 0 (ce_0) (some (ca_1_6_m9223372036854775808_9223372036854775807))) (ce_1)) (ce_2))) (ce_4)) (ce_5)))) (ai_nd 7 (ce_7) (ai_nd 6 (ai_nd 5 (ce_5) (ai_nd 4 (ai_nd 3 (ai_nd 2 (ai_nd 1 (ai_nd 0 (ce_0) (some (.inr (.inl (0, 5, .ofNat 0, .ofNat 3, [((0, .ofNat 0), (53, .ofNat 0)), ((0, .ofNat 1), (54, .ofNat 0)), ((0, .ofNat 2), (55, .ofNat 0)), ((0, .ofNat 3), (56, .ofNat 0)), ((0, .ofNat 4), (57, .ofNat 0))]))))) (ce_1)) (ce_2)) (ce_3)) (ce_4))) (ai_nd 5 (ai_nd 4 (ai_nd 3 (ce_3) (ai_nd 2 (ai_nd 1 (ai_nd 0 (ce_0) (some (ca_1_120_m9223372036854775808_9223372036854775807))) (ce_1)) (ce_2))) (ce_4)) (ce_5))))), [(.inr (some (.inl (64, .ofNat 0))), [cb_i, cb_i], (336, ai_nd 8 (ai_nd 7 (ai_nd 6 (ai_nd 5 (ce_5) (ai_nd 4 (ai_nd 3 (ai_nd 2 (ai_nd 1 (ai_nd 0 (ce_0) (some (.inl (12, [.inr (.inr (some (some 265))), .inl (63, .ofNat 0), .inl (6, .ofNat 0), .inl (7, .ofNat 0), .inl (8, .ofNat 0), .inl (9, .ofNat 0), .inr (.inr (some (some 266))), .inr (.inr (some (some 267))), .inr (.inr (some (some 268))), .inr (.inr (some (some 269))), .inr (.inr (some (some 270))), .inr (.inr (some (some 271))), .inr (.inr (some (some 272))), .inr (.inr (some (some 273))), .inr (.inr (some (some 274))), .inr (.inr (some (some 275))), .inr (.inr (some (some 276))), .inr (.inr (some (some 277))), .inr (.inr (some (some 278))), .inr (.inr (some (some 279))), .inr (.inr (some (some 280))), .inr (.inr (some (some 281))), .inr (.inr (some (some 282))), .inr (.inr (some (some 283))), .inr (.inr (some (some 284))), .inr (.inr (some (some 285))), .inl (10, .ofNat 0), .inl (11, .ofNat 0), .inl (12, .ofNat 0), .inl (13, .ofNat 0), .inl (14, .ofNat 0), .inl (15, .ofNat 0), .inl (16, .ofNat 0), .inl (17, .ofNat 0), .inl (18, .ofNat 0), .inl (19, .ofNat 0), .inl (20, .ofNat 0), .inl (21, .ofNat 0), .inr (.inr (some (some 286))), .inr (.inr (some (some 287))), .inr (.inr (some (some 288))), .inr (.inr (some (some 289))), .inr (.inr (some (some 290))), .inr (.inr (some (some 291))), .inr (.inr (some (some 292))), .inr (.inr (some (some 293))), .inl (22, .ofNat 0), .inl (23, .ofNat 0), .inl (24, .ofNat 0), .inr (.inr (some (some 294))), .inr (.inr (some (some 295))), .inr (.inr (some (some 296))), .inr (.inr (some (some 297))), .inr (.inr (some (some 298))), .inr (.inr (some (some 299))), .inr (.inr (some (some 300))), .inr (.inr (some (some 301))), .inr (.inr (some (some 302))), .inr (.inr (some (some 303))), .inl (25, .ofNat 0), .inl (26, .ofNat 0), .inl (27, .ofNat 0), .inl (28, .ofNat 0), .inl (29, .ofNat 0), .inr (.inr (some (some 304))), .inr (.inr (some (some 305))), .inr (.inr (some (some 306))), .inr (.inr (some (some 307))), .inr (.inr (some (some 308))), .inl (30, .ofNat 0), .inl (31, .ofNat 0), .inl (32, .ofNat 0), .inl (33, .ofNat 0), .inr (.inr (some (some 309))), .inr (.inr (some (some 310))), .inr (.inr (some (some 311))), .inr (.inr (some (some 312))), .inr (.inr (some (some 313))), .inr (.inr (some (some 314))), .inr (.inr (some (some 315))), .inr (.inr (some (some 316))), .inr (.inr (some (some 317))), .inr (.inr (some (some 318))), .inl (34, .ofNat 0), .inr (.inr (some (some 319))), .inr (.inr (some (some 320))), .inr (.inr (some (some 321))), .inl (35, .ofNat 0), .inl (36, .ofNat 0), .inl (37, .ofNat 0), .inl (38, .ofNat 0), .inl (39, .ofNat 0), .inl (40, .ofNat 0), .inl (41, .ofNat 0), .inl (42, .ofNat 0), .inr (.inr (some (some 322))), .inr (.inr (some (some 323))), .inr (.inr (some (some 324))), .inr (.inr (some (some 325))), .inr (.inr (some (some 326))), .inl (43, .ofNat 0), .inl (44, .ofNat 0), .inr (.inr (some (some 327))), .inr (.inr (some (some 328))), .inr (.inr (some (some 329))), .inr (.inr (some (some 330))), .inl (45, .ofNat 0), .inl (46, .ofNat 0), .inl (47, .ofNat 0), .inr (.inr (some (some 331))), .inr (.inr (some (some 332))), .inr (.inr (some (some 333))), .inr (.inr (some (some 334)))])))) (ce_1)) (ce_2)) (ai_nd 2 (ai_nd 1 (ai_nd 0 (ce_0) (some (ca_1_16_m9223372036854775808_9223372036854775807))) (ce_1)) (ce_2))) (ce_4))) (ai_nd 5 (ce_5) (ai_nd 4 (ai_nd 3 (ai_nd 2 (ai_nd 1 (ai_nd 0 (ce_0) (some (.inr (.inl (0, 5, .negSucc 2147483647, .ofNat 2147483647, [((0, .ofNat 0), (58, .ofNat 0)), ((0, .ofNat 1), (59, .ofNat 0)), ((0, .ofNat 2), (60, .ofNat 0)), ((0, .ofNat 3), (61, .ofNat 0)), ((0, .ofNat 4), (62, .ofNat 0))]))))) (ce_1)) (ce_2)) (ce_3)) (ce_4)))) (ai_nd 6 (ai_nd 5 (ce_5) (ai_nd 4 (ai_nd 3 (ai_nd 2 (ai_nd 1 (ai_nd 0 (ce_0) (some (.inr (.inl (0, 5, .ofNat 0, .ofNat 3, [((0, .ofNat 0), (48, .ofNat 0)), ((0, .ofNat 1), (49, .ofNat 0)), ((0, .ofNat 2), (50, .ofNat 0)), ((0, .ofNat 3), (51, .ofNat 0)), ((0, .ofNat 4), (52, .ofNat 0))]))))) (ce_1)) (ce_2)) (ce_3)) (ce_4))) (ai_nd 5 (ai_nd 4 (ai_nd 3 (ce_3) (ai_nd 2 (ai_nd 1 (ai_nd 0 (ce_0) (some (ca_1_6_m9223372036854775808_9223372036854775807))) (ce_1)) (ce_2))) (ce_4)) (ce_5)))) (ai_nd 7 (ce_7) (ai_nd 6 (ai_nd 5 (ce_5) (ai_nd 4 (ai_nd 3 (ai_nd 2 (ai_nd 1 (ai_nd 0 (ce_0) (some (.inr (.inl (0, 5, .ofNat 0, .ofNat 3, [((0, .ofNat 0), (53, .ofNat 0)), ((0, .ofNat 1), (54, .ofNat 0)), ((0, .ofNat 2), (55, .ofNat 0)), ((0, .ofNat 3), (56, .ofNat 0)), ((0, .ofNat 4), (57, .ofNat 0))]))))) (ce_1)) (ce_2)) (ce_3)) (ce_4))) (ai_nd 5 (ai_nd 4 (ai_nd 3 (ce_3) (ai_nd 2 (ai_nd 1 (ai_nd 0 (ce_0) (some (ca_1_120_m9223372036854775808_9223372036854775807))) (ce_1)) (ce_2))) (ce_4)) (ce_5))))))])
noncomputable def fl_T : List (Nat × us_C) := [(213, cn_tellNet)]
noncomputable def fl_E : ai_E := sm_E (1, [], []) cn_m_flow.1
noncomputable def fl_h : ai_H := cn_m_flow.2.2.1
noncomputable def fl_W : List sm_W := cn_m_flow.2.2.2
noncomputable def fl_L (a b c w n x y : ai_V) : List ai_V := [wk_ref 264, a, b, c, w, n, wk_u, x, wk_u, y, wk_u, wk_u, wk_u]
abbrev fl_i (t : Nat) : ai_V := .inl (t, 0)
abbrev fl_l (t : Nat) : ai_V := .inr (.inl (t, 0))
noncomputable def fl_L0 : List ai_V := fl_L (fl_i 1) (fl_i 2) (fl_i 3) (fl_i 4) wk_u wk_u wk_u
noncomputable def fl_G0 : ai_G := (fl_E, fl_h, 0, 0)
/-- a field of a cell is another number -/
noncomputable def hg_fld (h : ai_H) (q k : Nat) (x : ai_X) : ai_H := (h.1, ai_tset 9 h.2 q (match ai_cell h q with
  | some (.inl (ci, fs)) => some (.inl (ci, ai_setv fs k (.inl x)))
  | c => c))
/-- the heap of the later states: the field code is a number of its own -/
noncomputable def fl_k : ai_H := hg_fld fl_h 264 1 (63, 0)
noncomputable def fl_L57 : List ai_V := fl_L (fl_i 64) (fl_i 65) (fl_i 66) (fl_i 4) wk_u wk_u wk_u
noncomputable def fl_nb57 : List (Int × Int) := [cb_i, (0, 4), (0, 3), (0, 3)]
noncomputable def fl_G57 : ai_G := (sm_E fl_E fl_nb57, fl_k, 0, 0)
noncomputable def fl_GP : ai_G := hg_pin fl_G57 294 6 0 ai_lo64 ai_hi64
noncomputable def fl_LL : List ai_V := fl_L wk_u wk_u wk_u (fl_i 4) (fl_l 64) (fl_l 65) (fl_l 66)
/-- bounds of a number that isn't 0, by its sign -/
noncomputable def fl_b (s : Bool) : Int × Int := match s with
  | true => (1, 9223372036854775807)
  | false => (-9223372036854775808, -1)
noncomputable def fl_nb (s : Bool) : List (Int × Int) := [cb_i, cb_l, cb_l, fl_b s]
noncomputable def fl_GL (s : Bool) : ai_G := (sm_E fl_E (fl_nb s), fl_k, 0, 0)
/-- an end of a segment: its place, how it lies within a state -/
noncomputable def fl_at (pc : Nat) (f : ai_F) : Bool := Nat.beq f.1 pc && (decide (f.2.2.1 = []) && (Nat.ble 63 f.2.2.2.1.1 && (Nat.beq f.2.2.2.2.1.1 336 && (Nat.beq f.2.2.2.2.2.1 0 && Nat.beq f.2.2.2.2.2.2 0))))
noncomputable def fl_in (nb : List (Int × Int)) (L' : List ai_V) (f : ai_F) : Bool := hw_sub fl_E nb fl_k L' [] f.2.1 [] f.2.2.2
noncomputable def fl_c1 (f : ai_F) : Bool := fl_at 57 f && fl_in fl_nb57 fl_L57 f
noncomputable def fl_c0 (f : ai_F) : Bool := (fl_at 46 f && lz_fin fl_T 215 [] fl_E fl_W 46 f.2.1 [] f.2.2.2) || (fl_at 52 f && lz_chk fl_T 215 [57] false 52 f.2.1 [] f.2.2.2 fl_c1)
noncomputable def fl_c2 (s : Bool) (f : ai_F) : Bool := fl_at 108 f && fl_in (fl_nb s) fl_LL f
noncomputable def fl_c3 (s : Bool) (f : ai_F) : Bool := fl_c2 s f && (decide (ai_lget f.2.1 7 = fl_l 68) && decide ((24, 68, (66, 0), (65, 0)) ∈ f.2.2.2.1.2.2))
theorem fl_pl : ls_plain 215 = true := by decide +kernel
theorem fl_k0 : lz_chk fl_T 215 [46, 52] false 0 fl_L0 [] fl_G0 fl_c0 = true := by decide +kernel
theorem fl_k1 : lz_fin fl_T 215 [] fl_E fl_W 57 fl_L57 [] (hg_cap fl_GP 67 (0, 0)) = true := by decide +kernel
theorem fl_k2 : ∀ s, lz_chk fl_T 215 [108] false 57 fl_L57 [] (hg_cap fl_GP 67 (fl_b s)) (fl_c2 s) = true := by decide +kernel
theorem fl_k3 : ∀ s, lz_fin fl_T 215 [] fl_E fl_W 108 fl_LL [] (hg_cap (fl_GL s) 65 (0, 0)) = true := by decide +kernel
theorem fl_k4 : ∀ s t, lz_chk fl_T 215 [108] true 108 fl_LL [] (hg_cap (fl_GL s) 65 (fl_b t)) (fl_c3 t) = true := by decide +kernel
theorem fl_N : fl_E.1 = 63 ∧ fl_G57.1.1 = 67 ∧ fl_GP.1.1 = 68 ∧ (∀ s, (fl_GL s).1.1 = 67) ∧ fl_E.2.2 = [] ∧ fl_h.1 = 336 := by decide +kernel
/-- an array of longs, of this length, any numbers -/
noncomputable def hg_isl (n : Nat) (c : Option ai_C) : Bool := match c with
  | some (.inr (.inl (ty, k, lo, hi, []))) => Nat.beq ty 1 && (Nat.beq k n && (ai_eq lo ai_lo64 && ai_eq hi ai_hi64))
  | _ => false
theorem hg_isl_ok {n : Nat} {c : Option ai_C} (h : hg_isl n c = true) : c = some (.inr (.inl (1, n, ai_lo64, ai_hi64, []))) := by
  unfold hg_isl at h
  split at h
  · simp only [Bool.and_eq_true] at h
    obtain ⟨h1, h2, h3, h4⟩ := h
    rw [Nat.eq_of_beq_eq_true h1, Nat.eq_of_beq_eq_true h2, ai_eq_iff.mp h3, ai_eq_iff.mp h4]
  · cases h
theorem fl_cell : ai_cell fl_k 294 = some (.inr (.inl (1, 6, ai_lo64, ai_hi64, []))) := hg_isl_ok (by decide +kernel)
theorem fl_mod {a b : Int} (hb : b ≠ 0) (h1 : ai_lo64 ≤ b) (h2 : b ≤ ai_hi64) : ((a - a.tdiv b * b).bmod 18446744073709551616).natAbs < b.natAbs := by
  have e : a - a.tdiv b * b = a.tmod b := ai_sub_tdiv a b
  have h3 : (a.tmod b).natAbs < b.natAbs := by
    rw [Int.natAbs_tmod]
    exact Nat.mod_lt _ (by omega)
  have h1' : -9223372036854775808 ≤ b := h1
  have h2' : b ≤ 9223372036854775807 := h2
  rw [e, ai_bm64_id (by show -9223372036854775808 ≤ a.tmod b; omega) (by show a.tmod b ≤ 9223372036854775807; omega)]
  exact h3
theorem hg_lloc {s : State} {D : va_G} {tyc : Nat → ClassId} {A : Nat → Prop} {sa : ai_B} {ws0 : va_W} {nL : Nat} {r : Nat → Int} {ad : Nat → Nat} {L S : List ai_V} {G : ai_G} {H : Heap} {locs : List Loc} {ls : Array Slot} {st : List Value} {i : Nat} {x : ai_X} (hR : ai_Rel D tyc A s sa ws0 nL r ad L S G H locs ls st) (h : ai_lget L i = .inr (.inl x)) : ∃ v : Int64, ls[i]? = some (.val (.long v)) ∧ v.toInt = ai_vx r x := by
  obtain ⟨ws, hP, hD, hS, hE, hH, hO, hsa, hL, hSt⟩ := hR
  obtain ⟨v, h1, h2⟩ := hL.2.2.2 i (by rw [h]; intro q; cases q)
  rw [h] at h2
  obtain ⟨h3, w, rfl, h4⟩ := h2
  exact ⟨w, h1, h4⟩
section FL
variable {p : Program} {l : Launch} {e : Env} {s : State} {m : MethodId} {args : Array Value} {below : List Frame} {meth : Method} {c : Code}
variable {D : va_G} {tyc : Nat → ClassId} {A : Nat → Prop} {sa : ai_B} {ws0 : va_W} {n k0 : Nat} {r : Nat → Int} {ad : Nat → Nat}
abbrev fl_Q (below : List Frame) (D : va_G) (tyc : Nat → ClassId) (A : Nat → Prop) (sa : ai_B) (ws0 : va_W) (r : Nat → Int) (ad : Nat → Nat) (args : Array Value) (s : State) (n : Nat) : State → Prop := vx_MQ below (ai_Qc D tyc A sa ws0 r ad fl_E.1 336 (fl_W.map (sm_out fl_E))) (ai_XC D tyc A sa ws0 r ad fl_E.1 336 (fl_W.map (sm_out fl_E))) args s (lt_rm (n + 1) 215).cells (lt_rm (n + 1) 215).slots A
theorem fl_atok {pc : Nat} {f : ai_F} (h : fl_at pc f = true) : f.1 = pc ∧ f.2.2.1 = [] ∧ 63 ≤ f.2.2.2.1.1 ∧ f.2.2.2.2.1.1 = 336 ∧ f.2.2.2.2.2.1 = 0 ∧ f.2.2.2.2.2.2 = 0 := by
  unfold fl_at at h
  simp only [Bool.and_eq_true, decide_eq_true_eq] at h
  obtain ⟨h1, h2, h3, h4, h5, h6⟩ := h
  exact ⟨Nat.eq_of_beq_eq_true h1, h2, Nat.le_of_ble_eq_true h3, Nat.eq_of_beq_eq_true h4, Nat.eq_of_beq_eq_true h5, Nat.eq_of_beq_eq_true h6⟩
theorem fl_loop (F : ls_Fr p (lt_rm (n + 1) 215) s m args meth c D tyc A sa 215) (hl : l.stackTraces = false) (hret : meth.sig.returnType = (ct_mt 215).2.2.2.1) (htb : ∀ x ∈ c.exceptionTable.toList, False) (hT : lt_all k0 fl_T) (hk0 : k0 + 4 ≤ n) (hPw : ai_Pw tyc ws0) (hE : ai_gE r fl_E) :
    ∀ (k : Nat) (sg skip : Bool) (r' : Nat → Int) (ad' : Nat → Nat) (H : Heap) (locs : List Loc) (ls : Array Slot) (st : List Value), (r' 65).natAbs = k → ai_Rel D tyc A s sa ws0 (ct_mt 215).2.2.1 r' ad' fl_LL [] (fl_GL sg) H locs ls st → ai_ext 63 r r' → ai_ext 336 ad ad' →
      W p l e (lt_rm (n + 1) 215) s m args below meth c H locs 0 0 (fl_Q below D tyc A sa ws0 r ad args s n) (F0 m 108 ls st) := by
  intro k
  induction k using Nat.strongRecOn with
  | _ k ih =>
    intro sg skip r' ad' H locs ls st hk hR hx hax
    obtain ⟨N1, N2, N3, N4, N5, N6⟩ := fl_N
    have hNs := N4 sg
    have hEr := hR.env
    have h50 := hEr.2.2.1 65 (by rw [hNs]; omega)
    have go : ∀ t : Bool, (fl_b t).1 ≤ r' 65 ∧ r' 65 ≤ (fl_b t).2 → r' 65 ≠ 0 → W p l e (lt_rm (n + 1) 215) s m args below meth c H locs 0 0 (fl_Q below D tyc A sa ws0 r ad args s n) (F0 m 108 ls st) := fun t hb hne => by
      have hRc := hg_cap_ok (t := 65) (b := fl_b t) hR (by rw [hNs]; omega) hb
      refine lz_ok (G := hg_cap (fl_GL sg) 65 (fl_b t)) (skip := true) fl_pl F hl hT hk0 hPw (fl_k4 sg t) hRc (fun f hf => ?_)
      intro r1 ad1 x1 x2 x3 x4 H1 locs1 ls1 st1 hR1
      have hf2 := hf
      unfold fl_c3 fl_c2 at hf2
      simp only [Bool.and_eq_true, decide_eq_true_eq] at hf2
      obtain ⟨⟨c1, c2⟩, c3, c4⟩ := hf2
      obtain ⟨d1, d2, d3, d4, d5, d6⟩ := fl_atok c1
      rw [d1, d5, d6]
      rw [d2] at hR1
      have hNc : (hg_cap (fl_GL sg) 65 (fl_b t)).1.1 = 67 := hNs
      have x1 : ai_ext 67 r' r1 := by rw [hNc] at x1; exact x1
      have x2 : ai_ext 336 ad' ad1 := x2.mono (by
        have : (hg_cap (fl_GL sg) 65 (fl_b t)).2.1.1 = 336 := N6
        omega)
      obtain ⟨r2, y1, hR2⟩ := hw_ok (L' := fl_LL) (S' := []) hE N5 (by rw [N1]; exact fun u hu => (x1 u (by omega)).trans (hx u hu)) (by rw [N1]; exact d3) hR1 c2
      rw [N1] at y1
      obtain ⟨v1, g1, g2⟩ := hg_lloc (i := 7) hR1 c3
      obtain ⟨v2, g3, g4⟩ := hg_lloc (i := 7) (x := (65, 0)) hR2 rfl
      rw [g1] at g3
      cases g3
      have e1 : r2 65 = r1 68 := by
        have a1 : v1.toInt = r1 68 + 0 := g2
        have a2 : v1.toInt = r2 65 + 0 := g4
        omega
      have e2 : r1 68 = ((r1 66 + 0) - (r1 66 + 0).tdiv (r1 65 + 0) * (r1 65 + 0)).bmod 18446744073709551616 := (hR1.env.2.2.2.2 _ c4).2.2.2
      have e3 : r1 65 + 0 = r' 65 := by rw [x1 65 (by omega)]; omega
      rw [e3] at e2
      refine ih (r2 65).natAbs (by rw [e1, e2, ← hk]; exact fl_mod hne h50.1 h50.2) t false r2 ad1 H1 locs1 ls1 st1 rfl hR2 y1 (fun u hu => (x2 u hu).trans (hax u hu))
    by_cases h0 : r' 65 = 0
    · have hRc := hg_cap_ok (t := 65) (b := (0, 0)) hR (by rw [hNs]; omega) (by rw [h0]; exact ⟨Int.le_refl _, Int.le_refl _⟩)
      exact lz_fin_ok (G := hg_cap (fl_GL sg) 65 (0, 0)) (r0 := r) (ad0 := ad) (n0 := 336) fl_pl F hl hret htb hT hk0 hPw hE N5 (fl_k3 sg) hRc (by rw [N1]; exact hx) hax (by
        have : (hg_cap (fl_GL sg) 65 (0, 0)).1.1 = 67 := hNs
        rw [N1, this]; omega) (by
        have : (hg_cap (fl_GL sg) 65 (0, 0)).2.1.1 = 336 := N6
        rw [this]; exact Nat.le_refl _)
    · by_cases hp : 0 < r' 65
      · exact go true ⟨by show (1 : Int) ≤ _; omega, h50.2⟩ h0
      · exact go false ⟨h50.1, by show _ ≤ (-1 : Int); omega⟩ h0
end FL
theorem cp_m_flow : lt_ok 40 215 cn_m_flow := by
  have hT : lt_all 35 fl_T := ⟨cp_tellNet.mono (by decide), trivial⟩
  refine lt_hand (n := 39) fl_pl (by decide +kernel) fl_L0 (by decide +kernel) (fun l D tyc A sa hl ws0 r ad hPw hE p e s m args below meth c ls F hret htb hR => ?_)
  have hR : ai_Rel D tyc A s sa ws0 (ct_mt 215).2.2.1 r ad fl_L0 [] fl_G0 s.heap [] ls [] := hR
  have hE : ai_gE r fl_E := hE
  obtain ⟨N1, N2, N3, N4, N5, N6⟩ := fl_N
  show W p l e (lt_rm (39 + 1) 215) s m args below meth c s.heap [] 0 0 (fl_Q below D tyc A sa ws0 r ad args s 39) (F0 m 0 ls [])
  refine lz_ok (G := fl_G0) fl_pl F hl hT (by omega) hPw fl_k0 hR (fun f hf => ?_)
  intro r1 ad1 x1 x2 x3 x4 H1 locs1 ls1 st1 hR1
  unfold fl_c0 at hf
  simp only [Bool.or_eq_true, Bool.and_eq_true] at hf
  have x1 : ai_ext 63 r r1 := by rw [← N1]; exact x1
  have x2 : ai_ext 336 ad ad1 := x2.mono (by
    have : fl_G0.2.1.1 = 336 := N6
    omega)
  rcases hf with ⟨c1, c2⟩ | ⟨c1, c2⟩
  · obtain ⟨d1, d2, d3, d4, d5, d6⟩ := fl_atok c1
    rw [d1]
    rw [d2] at hR1
    exact lz_fin_ok (r0 := r) (ad0 := ad) (n0 := 336) fl_pl F hl hret htb hT (by omega) hPw hE N5 c2 hR1 (by rw [N1]; exact x1) x2 (by rw [N1]; exact d3) (by rw [d4]; exact Nat.le_refl _)
  · obtain ⟨d1, d2, d3, d4, d5, d6⟩ := fl_atok c1
    rw [d1]
    rw [d2] at hR1
    refine lz_ok (G := f.2.2.2) fl_pl F hl hT (by omega) hPw c2 hR1 (fun g hg => ?_)
    intro r2 ad2 y1 y2 y3 y4 H2 locs2 ls2 st2 hR2
    unfold fl_c1 at hg
    simp only [Bool.and_eq_true] at hg
    obtain ⟨e1, e2, e3, e4, e5, e6⟩ := fl_atok hg.1
    rw [e1, e5, e6]
    rw [e2] at hR2
    have y1 : ai_ext 63 r r2 := fun u hu => (y1 u (by omega)).trans (x1 u hu)
    have y2 : ai_ext 336 ad ad2 := fun u hu => (y2 u (by omega)).trans (x2 u hu)
    obtain ⟨r3, z1, hR3⟩ := hw_ok (L' := fl_L57) (S' := []) hE N5 (by rw [N1]; exact y1) (by rw [N1]; exact e3) hR2 hg.2
    rw [N1] at z1
    have hR3 : ai_Rel D tyc A s sa ws0 (ct_mt 215).2.2.1 r3 ad2 fl_L57 [] fl_G57 H2 locs2 ls2 st2 := hR3
    obtain ⟨r4, w1, w2, w3, hR4⟩ := hg_pin_ok (q := 294) (n := 6) (j := 0) hR3 (by omega) (by
      have : fl_G57.2.1.1 = 336 := N6
      rw [this]; omega) (by omega) fl_cell
    have hR4 : ai_Rel D tyc A s sa ws0 (ct_mt 215).2.2.1 r4 ad2 fl_L57 [] fl_GP H2 locs2 ls2 st2 := hR4
    rw [N2] at w1 w2 w3
    have hx4 : ai_ext 63 r r4 := fun u hu => (w1 u (by omega)).trans (z1 u hu)
    have hNP : ∀ b, (hg_cap fl_GP 67 b).1.1 = 68 := fun _ => N3
    have hnP : ∀ b, (hg_cap fl_GP 67 b).2.1.1 = 336 := fun _ => N6
    have go : ∀ t : Bool, (fl_b t).1 ≤ r4 67 ∧ r4 67 ≤ (fl_b t).2 → W p l e (lt_rm (39 + 1) 215) s m args below meth c H2 locs2 0 0 (fl_Q below D tyc A sa ws0 r ad args s 39) (F0 m 57 ls2 st2) := fun t hb => by
      have hRc := hg_cap_ok (t := 67) (b := fl_b t) hR4 (by rw [N3]; omega) hb
      refine lz_ok (G := hg_cap fl_GP 67 (fl_b t)) fl_pl F hl hT (by omega) hPw (fl_k2 t) hRc (fun i hi => ?_)
      intro r5 ad5 u1 u2 u3 u4 H5 locs5 ls5 st5 hR5
      unfold fl_c2 at hi
      simp only [Bool.and_eq_true] at hi
      obtain ⟨i1, i2, i3, i4, i5, i6⟩ := fl_atok hi.1
      rw [i1, i5, i6]
      rw [i2] at hR5
      have u1 : ai_ext 63 r r5 := fun u hu => (u1 u (by rw [hNP]; omega)).trans (hx4 u hu)
      have u2 : ai_ext 336 ad ad5 := fun u hu => (u2 u (by rw [hnP]; omega)).trans (y2 u hu)
      obtain ⟨r6, t1, hR6⟩ := hw_ok (L' := fl_LL) (S' := []) hE N5 (by rw [N1]; exact u1) (by rw [N1]; exact i3) hR5 hi.2
      rw [N1] at t1
      exact fl_loop (n := 39) (k0 := 35) F hl hret htb hT (by omega) hPw hE _ t false r6 ad5 H5 locs5 ls5 st5 rfl hR6 t1 u2
    by_cases h0 : r4 67 = 0
    · have hRc := hg_cap_ok (t := 67) (b := (0, 0)) hR4 (by rw [N3]; omega) (by rw [h0]; exact ⟨Int.le_refl _, Int.le_refl _⟩)
      exact lz_fin_ok (G := hg_cap fl_GP 67 (0, 0)) (r0 := r) (ad0 := ad) (n0 := 336) fl_pl F hl hret htb hT (by omega) hPw hE N5 fl_k1 hRc (by rw [N1]; exact hx4) y2 (by rw [N1, hNP]; omega) (by rw [hnP]; exact Nat.le_refl _)
    · by_cases hp : 0 < r4 67
      · exact go true ⟨by show (1 : Int) ≤ _; omega, w3⟩
      · exact go false ⟨w2, by show _ ≤ (-1 : Int); omega⟩
