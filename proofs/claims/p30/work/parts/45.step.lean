/-! BY HAND: step (the reference): the three loops go on along the tape -/
/-- m.step: LMModel.step()V (by hand) -/
noncomputable def cn_m_step : us_C := ([cb_i, (.ofNat 0, .ofNat 4), (.ofNat 0, .ofNat 5), (.ofNat 0, .ofNat 4), (.ofNat 0, .ofNat 12), (.ofNat 0, .ofNat 200), (.ofNat 0, .ofNat 200), (.ofNat 0, .ofNat 200), cb_i, cb_i, cb_i, (.ofNat 0, .ofNat 200), (.ofNat 0, .ofNat 200), cb_i, cb_i, cb_i, cb_i, (.ofNat 0, .ofNat 1), cb_i, cb_i, cb_i, cb_i, cb_i, (.ofNat 0, .ofNat 1), (.ofNat 0, .ofNat 4), (.ofNat 0, .ofNat 4), cb_i, (.ofNat 0, .ofNat 4), (.ofNat 0, .ofNat 4), (.ofNat 0, .ofNat 1), (.ofNat 0, .ofNat 1), (.ofNat 0, .ofNat 1), cb_i, cb_i, cb_i, cb_i, cb_i, (.ofNat 0, .ofNat 4), (.ofNat 0, .ofNat 4), (.ofNat 0, .ofNat 4), (.negSucc 0, .ofNat 13), cb_i, (.ofNat 0, .ofNat 60)], [.inr (.inr (some (some 264)))], (336, ai_nd 8 (ai_nd 7 (ai_nd 6 (ai_nd 5 (ce_5) (ai_nd 4 (ai_nd 3 (ai_nd 2 (ai_nd 1 (ai_nd 0 (ce_0) (some (.inl (12, [.inr (.inr (some (some 265))), .inl (1, .ofNat 0), .inl (2, .ofNat 0), .inl (3, .ofNat 0), .inl (4, .ofNat 0), .inl (5, .ofNat 0), .inr (.inr (some (some 266))), .inr (.inr (some (some 267))), .inr (.inr (some (some 268))), .inr (.inr (some (some 269))), .inr (.inr (some (some 270))), .inr (.inr (some (some 271))), .inr (.inr (some (some 272))), .inr (.inr (some (some 273))), .inr (.inr (some (some 274))), .inr (.inr (some (some 275))), .inr (.inr (some (some 276))), .inr (.inr (some (some 277))), .inr (.inr (some (some 278))), .inr (.inr (some (some 279))), .inr (.inr (some (some 280))), .inr (.inr (some (some 281))), .inr (.inr (some (some 282))), .inr (.inr (some (some 283))), .inr (.inr (some (some 284))), .inr (.inr (some (some 285))), .inl (6, .ofNat 0), .inl (7, .ofNat 0), .inl (8, .ofNat 0), .inl (9, .ofNat 0), .inl (10, .ofNat 0), .inl (11, .ofNat 0), .inl (12, .ofNat 0), .inl (13, .ofNat 0), .inl (14, .ofNat 0), .inl (15, .ofNat 0), .inl (16, .ofNat 0), .inl (17, .ofNat 0), .inr (.inr (some (some 286))), .inr (.inr (some (some 287))), .inr (.inr (some (some 288))), .inr (.inr (some (some 289))), .inr (.inr (some (some 290))), .inr (.inr (some (some 291))), .inr (.inr (some (some 292))), .inr (.inr (some (some 293))), .inl (18, .ofNat 0), .inl (19, .ofNat 0), .inl (20, .ofNat 0), .inr (.inr (some (some 294))), .inr (.inr (some (some 295))), .inr (.inr (some (some 296))), .inr (.inr (some (some 297))), .inr (.inr (some (some 298))), .inr (.inr (some (some 299))), .inr (.inr (some (some 300))), .inr (.inr (some (some 301))), .inr (.inr (some (some 302))), .inr (.inr (some (some 303))), .inl (21, .ofNat 0), .inl (22, .ofNat 0), .inl (23, .ofNat 0), .inl (24, .ofNat 0), .inl (25, .ofNat 0), .inr (.inr (some (some 304))), .inr (.inr (some (some 305))), .inr (.inr (some (some 306))), .inr (.inr (some (some 307))), .inr (.inr (some (some 308))), .inl (26, .ofNat 0), .inl (27, .ofNat 0), .inl (28, .ofNat 0), .inl (29, .ofNat 0), .inr (.inr (some (some 309))), .inr (.inr (some (some 310))), .inr (.inr (some (some 311))), .inr (.inr (some (some 312))), .inr (.inr (some (some 313))), .inr (.inr (some (some 314))), .inr (.inr (some (some 315))), .inr (.inr (some (some 316))), .inr (.inr (some (some 317))), .inr (.inr (some (some 318))), .inl (30, .ofNat 0), .inr (.inr (some (some 319))), .inr (.inr (some (some 320))), .inr (.inr (some (some 321))), .inl (31, .ofNat 0), .inl (32, .ofNat 0), .inl (33, .ofNat 0), .inl (34, .ofNat 0), .inl (35, .ofNat 0), .inl (36, .ofNat 0), .inl (37, .ofNat 0), .inl (38, .ofNat 0), .inr (.inr (some (some 322))), .inr (.inr (some (some 323))), .inr (.inr (some (some 324))), .inr (.inr (some (some 325))), .inr (.inr (some (some 326))), .inl (39, .ofNat 0), .inl (40, .ofNat 0), .inr (.inr (some (some 327))), .inr (.inr (some (some 328))), .inr (.inr (some (some 329))), .inr (.inr (some (some 330))), .inl (41, .ofNat 0), .inl (42, .ofNat 0), .inl (43, .ofNat 0), .inr (.inr (some (some 331))), .inr (.inr (some (some 332))), .inr (.inr (some (some 333))), .inr (.inr (some (some 334)))])))) (ce_1)) (ce_2)) (ce_3)) (ce_4))) (ce_6)) (ce_7)) (ai_nd 7 (ai_nd 6 (ce_6) (ai_nd 5 (ce_5) (ai_nd 4 (ce_4) (ai_nd 3 (ai_nd 2 (ai_nd 1 (ai_nd 0 (ce_0) (some (ca_0_200_m2147483648_2147483647))) (ce_1)) (ce_2)) (ce_3))))) (ce_7))), [(.inr none, [(.ofNat 0, .ofNat 200), cb_i, cb_i, cb_i, (.ofNat 0, .ofNat 200), (.ofNat 0, .ofNat 200)], (336, ai_nd 8 (ai_nd 7 (ai_nd 6 (ai_nd 5 (ce_5) (ai_nd 4 (ai_nd 3 (ai_nd 2 (ai_nd 1 (ai_nd 0 (ce_0) (some (.inl (12, [.inr (.inr (some (some 265))), .inl (1, .ofNat 0), .inl (2, .ofNat 0), .inl (3, .ofNat 0), .inl (4, .ofNat 0), .inl (5, .ofNat 0), .inr (.inr (some (some 266))), .inr (.inr (some (some 267))), .inr (.inr (some (some 268))), .inr (.inr (some (some 269))), .inr (.inr (some (some 270))), .inr (.inr (some (some 271))), .inr (.inr (some (some 272))), .inr (.inr (some (some 273))), .inr (.inr (some (some 274))), .inr (.inr (some (some 275))), .inr (.inr (some (some 276))), .inr (.inr (some (some 277))), .inr (.inr (some (some 278))), .inr (.inr (some (some 279))), .inr (.inr (some (some 280))), .inr (.inr (some (some 281))), .inr (.inr (some (some 282))), .inr (.inr (some (some 283))), .inr (.inr (some (some 284))), .inr (.inr (some (some 285))), .inl (6, .ofNat 0), .inl (44, .ofNat 0), .inl (8, .ofNat 0), .inl (45, .ofNat 0), .inl (46, .ofNat 0), .inl (47, .ofNat 0), .inl (48, .ofNat 0), .inl (49, .ofNat 0), .inl (14, .ofNat 0), .inl (15, .ofNat 0), .inl (16, .ofNat 0), .inl (17, .ofNat 0), .inr (.inr (some (some 286))), .inr (.inr (some (some 287))), .inr (.inr (some (some 288))), .inr (.inr (some (some 289))), .inr (.inr (some (some 290))), .inr (.inr (some (some 291))), .inr (.inr (some (some 292))), .inr (.inr (some (some 293))), .inl (18, .ofNat 0), .inl (19, .ofNat 0), .inl (20, .ofNat 0), .inr (.inr (some (some 294))), .inr (.inr (some (some 295))), .inr (.inr (some (some 296))), .inr (.inr (some (some 297))), .inr (.inr (some (some 298))), .inr (.inr (some (some 299))), .inr (.inr (some (some 300))), .inr (.inr (some (some 301))), .inr (.inr (some (some 302))), .inr (.inr (some (some 303))), .inl (21, .ofNat 0), .inl (22, .ofNat 0), .inl (23, .ofNat 0), .inl (24, .ofNat 0), .inl (25, .ofNat 0), .inr (.inr (some (some 304))), .inr (.inr (some (some 305))), .inr (.inr (some (some 306))), .inr (.inr (some (some 307))), .inr (.inr (some (some 308))), .inl (26, .ofNat 0), .inl (27, .ofNat 0), .inl (28, .ofNat 0), .inl (29, .ofNat 0), .inr (.inr (some (some 309))), .inr (.inr (some (some 310))), .inr (.inr (some (some 311))), .inr (.inr (some (some 312))), .inr (.inr (some (some 313))), .inr (.inr (some (some 314))), .inr (.inr (some (some 315))), .inr (.inr (some (some 316))), .inr (.inr (some (some 317))), .inr (.inr (some (some 318))), .inl (30, .ofNat 0), .inr (.inr (some (some 319))), .inr (.inr (some (some 320))), .inr (.inr (some (some 321))), .inl (31, .ofNat 0), .inl (32, .ofNat 0), .inl (33, .ofNat 0), .inl (34, .ofNat 0), .inl (35, .ofNat 0), .inl (36, .ofNat 0), .inl (37, .ofNat 0), .inl (38, .ofNat 0), .inr (.inr (some (some 322))), .inr (.inr (some (some 323))), .inr (.inr (some (some 324))), .inr (.inr (some (some 325))), .inr (.inr (some (some 326))), .inl (39, .ofNat 0), .inl (40, .ofNat 0), .inr (.inr (some (some 327))), .inr (.inr (some (some 328))), .inr (.inr (some (some 329))), .inr (.inr (some (some 330))), .inl (41, .ofNat 0), .inl (42, .ofNat 0), .inl (43, .ofNat 0), .inr (.inr (some (some 331))), .inr (.inr (some (some 332))), .inr (.inr (some (some 333))), .inr (.inr (some (some 334)))])))) (ce_1)) (ce_2)) (ce_3)) (ce_4))) (ce_6)) (ce_7)) (ai_nd 7 (ai_nd 6 (ce_6) (ai_nd 5 (ce_5) (ai_nd 4 (ce_4) (ai_nd 3 (ai_nd 2 (ai_nd 1 (ai_nd 0 (ce_0) (some (ca_0_200_m2147483648_2147483647))) (ce_1)) (ce_2)) (ce_3))))) (ce_7))))])
noncomputable def st_E : ai_E := sm_E (1, [], []) cn_m_step.1
noncomputable def st_h : ai_H := cn_m_step.2.2.1
noncomputable def st_W : List sm_W := cn_m_step.2.2.2
noncomputable def st_G0 : ai_G := (st_E, st_h, 0, 0)
noncomputable def st_u : ai_V := .inr (.inr none)
noncomputable def st_L (x : ai_V) : List ai_V := [.inr (.inr (some (some 264))), x, st_u]
noncomputable def st_k : ai_H := hg_fld (hg_fld (hg_fld (hg_fld (hg_fld (hg_fld st_h 264 27 (44, 0)) 264 29 (45, 0)) 264 30 (46, 0)) 264 31 (47, 0)) 264 32 (48, 0)) 264 33 (49, 0)
noncomputable def st_nb : List (Int × Int) := [(0, 200), cb_i, cb_i, cb_i, (0, 200), (0, 200), cb_i]
noncomputable def st_G : ai_G := (sm_E st_E st_nb, st_k, 0, 0)
/-- the loop's head: its place, whether the letter is read -/
noncomputable def st_Lh (hd : Nat) : List ai_V := match hd with
  | 0 => st_L st_u
  | _ => st_L (.inl (50, 0))
/-- a state within the head's; how far the tape is read -/
noncomputable def st_sub (hd : Nat) (L S : List ai_V) (G : ai_G) (o : Option ai_X) : Bool := match xt_in st_E.1 L S G (st_Lh hd) [] (sm_E st_E st_nb, st_k, G.2.2.1, G.2.2.2) with
  | some y => ((st_Lh hd).all (sm_wv (st_E.1 + st_nb.length) st_k.1) && sm_wh (st_E.1 + st_nb.length) st_k) && match o with
    | some x => decide (ai_ylook y 44 = some x)
    | none => true
  | none => false
theorem st_sub_ok {s : State} {D : va_G} {tyc : Nat → ClassId} {A : Nat → Prop} {sa : ai_B} {ws0 : va_W} {nL : Nat} {r0 r : Nat → Int} {ad : Nat → Nat} {L S : List ai_V} {G : ai_G} {H : Heap} {locs : List Loc} {ls : Array Slot} {st : List Value} {hd : Nat} {o : Option ai_X}
    (hE0 : ai_gE r0 st_E) (hd0 : st_E.2.2 = []) (hx : ai_ext st_E.1 r0 r) (hN : st_E.1 ≤ G.1.1) (hR : ai_Rel D tyc A s sa ws0 nL r ad L S G H locs ls st) (hs : st_sub hd L S G o = true) :
    ∃ r2, ai_ext st_E.1 r0 r2 ∧ ai_Rel D tyc A s sa ws0 nL r2 ad (st_Lh hd) [] (sm_E st_E st_nb, st_k, G.2.2) H locs ls st ∧ ∀ x, o = some x → r2 44 = ai_vx r x := by
  unfold st_sub at hs
  rw [xt_in_eq] at hs
  split at hs
  · rename_i y ey
    simp only [Bool.and_eq_true] at hs
    obtain ⟨⟨c2, c4⟩, c5⟩ := hs
    have hq : ∀ q ∈ (sm_E st_E st_nb).2.1, q.1 < (sm_E st_E st_nb).1 ∧ (q.1 < st_E.1 → q.2.1 ≤ r q.1 ∧ r q.1 ≤ q.2.2) ∧ (st_E.1 ≤ q.1 → ai_look (sm_E st_E st_nb).2.1 q.1 = q.2) := fun q hq => by
      rcases List.mem_append.mp hq with hq' | hq'
      · have := sm_nb_mem hq'
        refine ⟨this.2, fun g => absurd g (Nat.not_lt.mpr this.1), fun _ => sm_look hq'⟩
      · have := hE0.2.2.2.1 q hq'
        refine ⟨Nat.lt_of_lt_of_le this.1 (Nat.le_add_right _ _), fun g => by rw [hx _ this.1]; exact this.2, fun g => absurd this.1 (Nat.not_lt.mpr g)⟩
    obtain ⟨r2, a1, a2, a3, a4, -, -⟩ := ai_in_ok ey hR hE0.2.1 hN (Nat.le_add_right _ _) (fun a ha => sm_wv_ok (List.all_eq_true.mp c2 a ha)) (fun a ha => by cases ha) (sm_wh_ok c4) hq
      (fun q hq => by cases hq) (fun _ => 0) (fun t h1 h2 h3 => ⟨⟨by decide, by decide⟩, fun q hq1 e => by
        have e50 := (by decide +kernel : ∀ q ∈ (sm_E st_E st_nb).2.1, st_E.1 ≤ q.1 → q.2.1 ≤ 0 ∧ 0 ≤ q.2.2) q hq1 (by omega)
        exact e50⟩)
    refine ⟨r2, fun u hu => (a1 u hu).trans (hx u hu), a3, fun x hx => ?_⟩
    subst hx
    exact a2 44 x (of_decide_eq_true c5)
  · cases hs
noncomputable def st_at (pc : Nat) (f : ai_F) : Bool := Nat.beq f.1 pc && (decide (f.2.2.1 = []) && (Nat.ble 44 f.2.2.2.1.1 && (Nat.beq f.2.2.2.2.1.1 336 && (Nat.beq f.2.2.2.2.2.1 0 && Nat.beq f.2.2.2.2.2.2 0))))
theorem st_atok {pc : Nat} {f : ai_F} (h : st_at pc f = true) : f.1 = pc ∧ f.2.2.1 = [] ∧ 44 ≤ f.2.2.2.1.1 ∧ f.2.2.2.2.1.1 = 336 ∧ f.2.2.2.2.2.1 = 0 ∧ f.2.2.2.2.2.2 = 0 := by
  unfold st_at at h
  simp only [Bool.and_eq_true, decide_eq_true_eq] at h
  obtain ⟨h1, h2, h3, h4, h5, h6⟩ := h
  exact ⟨Nat.eq_of_beq_eq_true h1, h2, Nat.le_of_ble_eq_true h3, Nat.eq_of_beq_eq_true h4, Nat.eq_of_beq_eq_true h5, Nat.eq_of_beq_eq_true h6⟩
noncomputable def st_fin (f : ai_F) : Bool := st_at 280 f && lz_fin [] 188 [] st_E st_W 280 f.2.1 [] f.2.2.2
noncomputable def st_again (hd : Nat) (f : ai_F) : Bool := st_at hd f && st_sub hd f.2.1 [] f.2.2.2 (some (44, 1))
noncomputable def st_c1 (hd : Nat) (f : ai_F) : Bool := st_fin f || st_again hd f
noncomputable def st_c0 (f : ai_F) : Bool := (st_fin f || st_again 0 f) || ((st_at 81 f && st_sub 81 f.2.1 [] f.2.2.2 none) || (st_at 128 f && st_sub 128 f.2.1 [] f.2.2.2 none))
theorem st_pl : ls_plain 188 = true := by decide +kernel
theorem st_k0 : lz_chk [] 188 [0, 81, 128, 280] true 0 (st_Lh 0) [] st_G st_c0 = true := by decide +kernel
theorem st_k1 : lz_chk [] 188 [81, 280] true 81 (st_Lh 81) [] st_G (st_c1 81) = true := by decide +kernel
theorem st_k2 : lz_chk [] 188 [128, 280] true 128 (st_Lh 128) [] st_G (st_c1 128) = true := by decide +kernel
theorem st_k3 : st_sub 0 (st_Lh 0) [] st_G0 none = true := by decide +kernel
theorem st_N : st_E.1 = 44 ∧ st_E.2.2 = [] ∧ st_k.1 = 336 ∧ st_G.1.1 = 51 ∧ st_G0.1.1 = 44 ∧ st_h.1 = 336 := by decide +kernel
theorem st_b : (44, ((0 : Int), (200 : Int))) ∈ st_G.1.2.1 := by decide +kernel
section ST2
variable {p : Program} {l : Launch} {e : Env} {s : State} {m : MethodId} {args : Array Value} {below : List Frame} {meth : Method} {c : Code}
variable {D : va_G} {tyc : Nat → ClassId} {A : Nat → Prop} {sa : ai_B} {ws0 : va_W} {n : Nat} {r : Nat → Int} {ad : Nat → Nat}
abbrev st_Q (below : List Frame) (D : va_G) (tyc : Nat → ClassId) (A : Nat → Prop) (sa : ai_B) (ws0 : va_W) (r : Nat → Int) (ad : Nat → Nat) (args : Array Value) (s : State) (n : Nat) : State → Prop := vx_MQ below (ai_Qc D tyc A sa ws0 r ad st_E.1 336 (st_W.map (sm_out st_E))) (ai_XC D tyc A sa ws0 r ad st_E.1 336 (st_W.map (sm_out st_E))) args s (lt_rm (n + 1) 188).cells (lt_rm (n + 1) 188).slots A
theorem st_finok {f : ai_F} {r' : Nat → Int} {ad' : Nat → Nat} {H : Heap} {locs : List Loc} {ls : Array Slot} {st : List Value} (hn : 0 + 4 ≤ n) (F : ls_Fr p (lt_rm (n + 1) 188) s m args meth c D tyc A sa 188) (hl : l.stackTraces = false) (hret : meth.sig.returnType = (ct_mt 188).2.2.2.1) (htb : ∀ x ∈ c.exceptionTable.toList, False) (hPw : ai_Pw tyc ws0) (hE : ai_gE r st_E)
    (h : st_fin f = true) (hR : ai_Rel D tyc A s sa ws0 (ct_mt 188).2.2.1 r' ad' f.2.1 f.2.2.1 f.2.2.2 H locs ls st) (hx : ai_ext 44 r r') (hax : ai_ext 336 ad ad') :
    W p l e (lt_rm (n + 1) 188) s m args below meth c H locs f.2.2.2.2.2.1 f.2.2.2.2.2.2 (st_Q below D tyc A sa ws0 r ad args s n) (F0 m f.1 ls st) := by
  unfold st_fin at h
  rw [Bool.and_eq_true] at h
  obtain ⟨d1, d2, d3, d4, d5, d6⟩ := st_atok h.1
  obtain ⟨N1, N2, N3, N4, N5, N6⟩ := st_N
  rw [d1]
  rw [d2] at hR
  exact lz_fin_ok (T := []) (k0 := 0) (r0 := r) (ad0 := ad) (n0 := 336) st_pl F hl hret htb trivial hn hPw hE N2 h.2 hR (by rw [N1]; exact hx) hax (by rw [N1]; exact d3) (by rw [d4]; exact Nat.le_refl _)
/-- a loop whose rounds each go on along the tape -/
theorem st_loop (hn : 0 + 4 ≤ n) (F : ls_Fr p (lt_rm (n + 1) 188) s m args meth c D tyc A sa 188) (hl : l.stackTraces = false) (hret : meth.sig.returnType = (ct_mt 188).2.2.2.1) (htb : ∀ x ∈ c.exceptionTable.toList, False) (hPw : ai_Pw tyc ws0) (hE : ai_gE r st_E) {hd : Nat} {stop : List Nat} {chk : ai_F → Bool} (hchk : lz_chk [] 188 stop true hd (st_Lh hd) [] st_G chk = true)
    (hk : ∀ f, chk f = true → st_again hd f = true ∨ ∀ (r' : Nat → Int) (ad' : Nat → Nat) (H : Heap) (locs : List Loc) (ls : Array Slot) (st : List Value), ai_Rel D tyc A s sa ws0 (ct_mt 188).2.2.1 r' ad' f.2.1 f.2.2.1 f.2.2.2 H locs ls st → ai_ext 44 r r' → ai_ext 336 ad ad' → W p l e (lt_rm (n + 1) 188) s m args below meth c H locs f.2.2.2.2.2.1 f.2.2.2.2.2.2 (st_Q below D tyc A sa ws0 r ad args s n) (F0 m f.1 ls st)) :
    ∀ (d : Nat) (r' : Nat → Int) (ad' : Nat → Nat) (H : Heap) (locs : List Loc) (ls : Array Slot) (st : List Value), (200 - r' 44).toNat = d → ai_Rel D tyc A s sa ws0 (ct_mt 188).2.2.1 r' ad' (st_Lh hd) [] st_G H locs ls st → ai_ext 44 r r' → ai_ext 336 ad ad' →
      W p l e (lt_rm (n + 1) 188) s m args below meth c H locs 0 0 (st_Q below D tyc A sa ws0 r ad args s n) (F0 m hd ls st) := by
  obtain ⟨N1, N2, N3, N4, N5, N6⟩ := st_N
  intro d
  induction d using Nat.strongRecOn with
  | _ d ih =>
    intro r' ad' H locs ls st hd' hR hx hax
    refine lz_ok (G := st_G) (T := []) (k0 := 0) (skip := true) st_pl F hl trivial hn hPw hchk hR (fun f hf => ?_)
    intro r1 ad1 x1 x2 x3 x4 H1 locs1 ls1 st1 hR1
    have x1 : ai_ext 51 r' r1 := by rw [N4] at x1; exact x1
    have x2 : ai_ext 336 ad' ad1 := x2.mono (by
      have : st_G.2.1.1 = 336 := N3
      omega)
    have hx1 : ai_ext 44 r r1 := fun u hu => (x1 u (by omega)).trans (hx u hu)
    have hax1 : ai_ext 336 ad ad1 := fun u hu => (x2 u hu).trans (hax u hu)
    rcases hk f hf with hf | hf
    · unfold st_again at hf
      rw [Bool.and_eq_true] at hf
      obtain ⟨c1, c2⟩ := hf
      obtain ⟨d1, d2, d3, d4, d5, d6⟩ := st_atok c1
      rw [d1, d5, d6]
      rw [d2] at hR1
      obtain ⟨r2, y1, hR2, y2⟩ := st_sub_ok hE N2 (by rw [N1]; exact hx1) (by rw [N1]; exact d3) hR1 c2
      rw [N1] at y1
      have gz : f.2.2.2.2.2 = (0, 0) := Prod.ext d5 d6
      rw [gz] at hR2
      have v1 : r2 44 = r1 44 + 1 := y2 _ rfl
      have v2 : r1 44 = r' 44 := x1 44 (by omega)
      have hb : r2 44 ≤ 200 := (hR2.env.2.2.2.1 _ st_b).2.2
      exact ih (200 - r2 44).toNat (by omega) r2 ad1 H1 locs1 ls1 st1 rfl hR2 y1 hax1
    · exact hf r1 ad1 H1 locs1 ls1 st1 hR1 hx1 hax1
end ST2
theorem cp_m_step : lt_ok 40 188 cn_m_step := by
  refine lt_hand (n := 39) st_pl (by decide +kernel) (st_L st_u) (by
    have e : (ct_mt 188).2.2.1 = 3 := by decide +kernel
    rw [e]
    rfl) (fun l D tyc A sa hl ws0 r ad hPw hE p e s m args below meth c ls F hret htb hR => ?_)
  have hR : ai_Rel D tyc A s sa ws0 (ct_mt 188).2.2.1 r ad (st_Lh 0) [] st_G0 s.heap [] ls [] := hR
  have hE : ai_gE r st_E := hE
  obtain ⟨N1, N2, N3, N4, N5, N6⟩ := st_N
  show W p l e (lt_rm (39 + 1) 188) s m args below meth c s.heap [] 0 0 (st_Q below D tyc A sa ws0 r ad args s 39) (F0 m 0 ls [])
  obtain ⟨r1, y1, hR1, -⟩ := st_sub_ok (hd := 0) (G := st_G0) (o := none) hE N2 (by rw [N1]; exact ai_ext.rfl') (by rw [N1, N5]; exact Nat.le_refl _) hR st_k3
  rw [N1] at y1
  have inner : ∀ hd, (hd = 81 ∨ hd = 128) → ∀ f, st_at hd f = true → st_sub hd f.2.1 [] f.2.2.2 none = true → ∀ (r' : Nat → Int) (ad' : Nat → Nat) (H : Heap) (locs : List Loc) (ls : Array Slot) (st : List Value), ai_Rel D tyc A s sa ws0 (ct_mt 188).2.2.1 r' ad' f.2.1 f.2.2.1 f.2.2.2 H locs ls st → ai_ext 44 r r' → ai_ext 336 ad ad' → W p l e (lt_rm (39 + 1) 188) s m args below meth c H locs f.2.2.2.2.2.1 f.2.2.2.2.2.2 (st_Q below D tyc A sa ws0 r ad args s 39) (F0 m f.1 ls st) := by
    intro hd hhd f c1 c2 r' ad' H locs ls st hRf hx hax
    obtain ⟨d1, d2, d3, d4, d5, d6⟩ := st_atok c1
    rw [d1, d5, d6]
    rw [d2] at hRf
    obtain ⟨r2, z1, hR2, -⟩ := st_sub_ok (o := none) hE N2 (by rw [N1]; exact hx) (by rw [N1]; exact d3) hRf c2
    rw [N1] at z1
    have gz : f.2.2.2.2.2 = (0, 0) := Prod.ext d5 d6
    rw [gz] at hR2
    have h1 : ∀ hd f, st_c1 hd f = true → st_again hd f = true ∨ ∀ (r' : Nat → Int) (ad' : Nat → Nat) (H : Heap) (locs : List Loc) (ls : Array Slot) (st : List Value), ai_Rel D tyc A s sa ws0 (ct_mt 188).2.2.1 r' ad' f.2.1 f.2.2.1 f.2.2.2 H locs ls st → ai_ext 44 r r' → ai_ext 336 ad ad' → W p l e (lt_rm (39 + 1) 188) s m args below meth c H locs f.2.2.2.2.2.1 f.2.2.2.2.2.2 (st_Q below D tyc A sa ws0 r ad args s 39) (F0 m f.1 ls st) := fun hd f hf => by
      unfold st_c1 at hf
      rw [Bool.or_eq_true] at hf
      rcases hf with hf | hf
      · exact Or.inr (fun r' ad' H locs ls st h1 h2 h3 => st_finok (by omega) F hl hret htb hPw hE hf h1 h2 h3)
      · exact Or.inl hf
    rcases hhd with rfl | rfl
    · exact st_loop (n := 39) (by omega) F hl hret htb hPw hE st_k1 (h1 81) _ r2 ad' H locs ls st rfl hR2 z1 hax
    · exact st_loop (n := 39) (by omega) F hl hret htb hPw hE st_k2 (h1 128) _ r2 ad' H locs ls st rfl hR2 z1 hax
  refine st_loop (n := 39) (hd := 0) (by omega) F hl hret htb hPw hE st_k0 (fun f hf => ?_) _ r1 ad s.heap [] ls [] rfl hR1 y1 ai_ext.rfl'
  unfold st_c0 at hf
  simp only [Bool.or_eq_true, Bool.and_eq_true] at hf
  rcases hf with (hf | hf) | ⟨h1, h2⟩ | ⟨h1, h2⟩
  · exact Or.inr (fun r' ad' H locs ls st h1 h2 h3 => st_finok (by omega) F hl hret htb hPw hE hf h1 h2 h3)
  · exact Or.inl hf
  · exact Or.inr (inner 81 (Or.inl rfl) f h1 h2)
  · exact Or.inr (inner 128 (Or.inr rfl) f h1 h2)
