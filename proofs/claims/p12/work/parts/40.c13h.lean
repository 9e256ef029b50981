/-! CONTRACTS BY HAND 13: askedOfM -/
/-- a number's bounds, known by hand -/
noncomputable def hg_cap (G : ai_G) (t : Nat) (b : Int × Int) : ai_G := ((G.1.1, (t, b) :: G.1.2.1, G.1.2.2), G.2)
theorem hg_cap_ok {s : State} {D : va_G} {tyc : Nat → ClassId} {A : Nat → Prop} {sa : ai_B} {ws0 : va_W} {nL : Nat} {r : Nat → Int} {ad : Nat → Nat} {L S : List ai_V} {G : ai_G} {H : Heap} {locs : List Loc} {ls : Array Slot} {st : List Value} {t : Nat} {b : Int × Int} (hR : ai_Rel D tyc A s sa ws0 nL r ad L S G H locs ls st) (ht : t < G.1.1) (hb : b.1 ≤ r t ∧ r t ≤ b.2) : ai_Rel D tyc A s sa ws0 nL r ad L S (hg_cap G t b) H locs ls st := by
  obtain ⟨ws, hP, hD, hS, hE, hH, hO, hsa, hL, hSt⟩ := hR
  refine ⟨ws, hP, hD, hS, ⟨hE.1, hE.2.1, hE.2.2.1, fun q hq => ?_, hE.2.2.2.2⟩, hH, hO, hsa, hL, hSt⟩
  rcases List.mem_cons.mp hq with rfl | hq
  · exact ⟨ht, hb⟩
  · exact hE.2.2.2.1 q hq
/-! worked -/
noncomputable def wk_T : List (Nat × us_C) := [(205, cn_two)]
noncomputable def ak_E : ai_E := sm_E (1, [], []) cn_askedOfM.1
noncomputable def ak_h : ai_H := cn_askedOfM.2.2.1
noncomputable def wk_E : ai_E := sm_E ak_E [cb_i, (0, 7), (0, 31)]
noncomputable def wk_G0 : ai_G := (wk_E, ak_h, 0, 0)
abbrev wk_u : ai_V := .inr (.inr none)
abbrev wk_ref (q : Nat) : ai_V := .inr (.inr (some (some q)))
noncomputable def wk_L (x y w : ai_V) : List ai_V := [wk_ref 264, .inl (1, 0), .inl (62, 0), x, y, w]
noncomputable def wk_nb : List (Int × Int) := [(0, 110), (0, 1600)]
noncomputable def wk_G : ai_G := (sm_E wk_E wk_nb, ak_h, 0, 0)
noncomputable def wk_LH : List ai_V := wk_L (.inl (63, 0)) (.inl (64, 0)) wk_u
noncomputable def wk_P : ai_F := ls_1 wk_T 206 [12] false 0 (wk_L wk_u wk_u wk_u) [] wk_G0
noncomputable def wk_Q : ai_F := ls_1 wk_T 206 [16] false 13 (wk_L (.inl (0, 0)) wk_u wk_u) [.inl (64, 0), .inl (63, 0)] (hg_new wk_P.2.2.2 (0, 400))
noncomputable def wk_A : ai_F := ls_1 wk_T 206 [28] false 16 wk_LH [] wk_G
noncomputable def wk_B : ai_F := ls_1 wk_T 206 [30] false 29 wk_LH [.inl (66, 0), .inl (65, 0), .inl (64, 0)] (hg_new wk_A.2.2.2 (0, 400))
noncomputable def wk_C : ai_F := ls_1 wk_T 206 [39] false 33 wk_LH [] wk_B.2.2.2
noncomputable def wk_D (wb ab bb : Int × Int) : ai_G := hg_cap (hg_cap (hg_new wk_C.2.2.2 wb) 63 ab) 64 bb
noncomputable def wk_F : ai_F := ls_1 wk_T 206 [61] false 40 wk_LH [.inl (68, 0)] (wk_D (0, 0) (0, 109) (0, 1598))
noncomputable def wk_is (f : ai_F) (pc : Nat) (L S : List ai_V) (N : Nat) (q : Nat) : Bool := Nat.beq f.1 pc && (decide (f.2.1 = L) && (decide (f.2.2.1 = S) && (Nat.beq f.2.2.2.1.1 N && (Nat.beq f.2.2.2.2.1.1 336 && (Nat.beq f.2.2.2.2.2.1 0 && (Nat.beq f.2.2.2.2.2.2 0 && (ai_cell f.2.2.2.2.1 q).isNone))))))
theorem wk_is_ok {f : ai_F} {pc : Nat} {L S : List ai_V} {N q : Nat} (h : wk_is f pc L S N q = true) : f.1 = pc ∧ f.2.1 = L ∧ f.2.2.1 = S ∧ f.2.2.2.1.1 = N ∧ f.2.2.2.2.1.1 = 336 ∧ f.2.2.2.2.2.1 = 0 ∧ f.2.2.2.2.2.2 = 0 ∧ ai_cell f.2.2.2.2.1 q = none := by
  unfold wk_is at h
  simp only [Bool.and_eq_true, decide_eq_true_eq, Option.isNone_iff_eq_none] at h
  obtain ⟨h1, h2, h3, h4, h5, h6, h7, h8⟩ := h
  exact ⟨Nat.eq_of_beq_eq_true h1, h2, h3, Nat.eq_of_beq_eq_true h4, Nat.eq_of_beq_eq_true h5, Nat.eq_of_beq_eq_true h6, Nat.eq_of_beq_eq_true h7, h8⟩
theorem wk_pl : ls_plain 206 = true := by decide +kernel
theorem wk_p1 : ls_one wk_T 206 [12] false 0 (wk_L wk_u wk_u wk_u) [] wk_G0 = true := by decide +kernel
theorem wk_p2 : wk_is wk_P 12 (wk_L (.inl (0, 0)) wk_u wk_u) [.inl (62, 0), wk_ref 288, .inl (63, 0)] 64 288 = true := by decide +kernel
theorem wk_q1 : ls_one wk_T 206 [16] false 13 (wk_L (.inl (0, 0)) wk_u wk_u) [.inl (64, 0), .inl (63, 0)] (hg_new wk_P.2.2.2 (0, 400)) = true := by decide +kernel
theorem wk_q2 : wk_is wk_Q 16 (wk_L (.inl (0, 0)) (.inl (65, 0)) wk_u) [] 66 290 = true := by decide +kernel
theorem wk_q3 : hw_sub wk_E wk_nb ak_h wk_LH [] (wk_L (.inl (0, 0)) (.inl (65, 0)) wk_u) [] wk_Q.2.2.2 = true := by decide +kernel
theorem wk_q4 : (0, 65, (63, 0), (64, 0)) ∈ wk_Q.2.2.2.1.2.2 ∧ (2, 63, (0, 400), (1, 0)) ∈ wk_Q.2.2.2.1.2.2 := by decide +kernel
theorem wk_a1 : ls_one wk_T 206 [28] false 16 wk_LH [] wk_G = true := by decide +kernel
theorem wk_a2 : wk_is wk_A 28 wk_LH [.inl (62, 0), wk_ref 289, .inl (65, 0), .inl (64, 0)] 66 289 = true := by decide +kernel
theorem wk_b1 : ls_one wk_T 206 [30] false 29 wk_LH [.inl (66, 0), .inl (65, 0), .inl (64, 0)] (hg_new wk_A.2.2.2 (0, 400)) = true := by decide +kernel
theorem wk_b2 : wk_is wk_B 30 wk_LH [.inl (67, 0), .inl (64, 0)] 68 290 = true := by decide +kernel
theorem wk_b3 : (0, 67, (65, 0), (66, 0)) ∈ wk_B.2.2.2.1.2.2 ∧ (2, 65, (0, 400), (1, 0)) ∈ wk_B.2.2.2.1.2.2 := by decide +kernel
noncomputable def wk_W : List sm_W := [(.inr (some (.inl (63, 0))), [cb_i], ak_h)]
theorem wk_b4 : ls_fin wk_T 206 [] wk_E wk_W 168 wk_LH [] wk_B.2.2.2 = true := by decide +kernel
theorem wk_c1 : ls_one wk_T 206 [39] false 33 wk_LH [] wk_B.2.2.2 = true := by decide +kernel
theorem wk_c2 : wk_is wk_C 39 wk_LH [.inl (64, 0), wk_ref 290] 68 290 = true := by decide +kernel
/-- segments back to the loop's head -/
noncomputable def wk_back (x y : Int) (o : Option (List ai_F)) : Bool := match o with
  | none => false
  | some fs => fs.all (fun f => Nat.beq f.1 16 && (decide (f.2.2.1 = []) && (hw_sub wk_E wk_nb ak_h wk_LH [] f.2.1 [] f.2.2.2 && (decide (ai_lget f.2.1 3 = .inl (63, x)) && (decide (ai_lget f.2.1 4 = .inl (64, y)) && (Nat.ble 63 f.2.2.2.1.1 && (Nat.beq f.2.2.2.2.1.1 336 && (Nat.beq f.2.2.2.2.2.1 0 && Nat.beq f.2.2.2.2.2.2 0))))))))
theorem wk_k1 : wk_back 1 1 (ls_sg wk_T 206 [16] false 40 wk_LH [.inl (68, 0)] (wk_D (20, 24) (0, 109) (0, 1599))) = true := by decide +kernel
theorem wk_k2 : wk_back 0 1 (ls_sg wk_T 206 [16] false 40 wk_LH [.inl (68, 0)] (wk_D (9, 9) (1, 110) (0, 1599))) = true := by decide +kernel
theorem wk_k3 : wk_back (-1) 1 (ls_sg wk_T 206 [16] false 40 wk_LH [.inl (68, 0)] (wk_D (1, 8) (2, 110) (0, 1599))) = true := by decide +kernel
theorem wk_f1 : ls_one wk_T 206 [61] false 40 wk_LH [.inl (68, 0)] (wk_D (0, 0) (0, 109) (0, 1598)) = true := by decide +kernel
theorem wk_f2 : wk_is wk_F 61 (wk_L (.inl (63, 0)) (.inl (64, 1)) (.inl (68, 0))) [.inl (64, 1), wk_ref 290, .inl (63, 0), wk_ref 292] 69 290 = true := by decide +kernel
theorem wk_k4 : wk_back 1 2 (ls_sg wk_T 206 [16] false 62 (wk_L (.inl (63, 0)) (.inl (64, 1)) (.inl (68, 0))) [.inl (69, 0), .inl (63, 0), wk_ref 292] (hg_new wk_F.2.2.2 (-2147483648, 2147483647))) = true := by decide +kernel
theorem wk_dc : decode (ct_mt 206).2.1 12 = .ok (.iaload, 1) ∧ decode (ct_mt 206).2.1 28 = .ok (.iaload, 1) ∧ decode (ct_mt 206).2.1 39 = .ok (.iaload, 1) ∧ decode (ct_mt 206).2.1 61 = .ok (.iaload, 1) ∧ decode (ct_mt 206).2.1 30 = .ok (.if_icmp .ge 138, 3) := by decide +kernel
theorem wk_N : wk_E.1 = 63 ∧ wk_G.1.1 = 65 ∧ wk_G0.1.1 = 63 ∧ wk_E.2.2 = [] ∧ ak_h.1 = 336 := by decide +kernel
section WK
variable {p : Program} {l : Launch} {e : Env} {s : State} {m : MethodId} {args : Array Value} {below : List Frame} {meth : Method} {c : Code} {Q : State → Prop}
variable {D : va_G} {tyc : Nat → ClassId} {A : Nat → Prop} {sa : ai_B} {ws0 : va_W} {n : Nat} {r : Nat → Int} {ad : Nat → Nat}
theorem wk_again {pc : Nat} {L S : List ai_V} {G : ai_G} {r' : Nat → Int} {ad' : Nat → Nat} {H : Heap} {locs : List Loc} {ls : Array Slot} {st : List Value} {x y : Int} (F : ls_Fr p (lt_rm (n + 1) 206) s m args meth c D tyc A sa 206) (hl : l.stackTraces = false) (hT : lt_all n wk_T) (hPw : ai_Pw tyc ws0) (hE : ai_gE r wk_E)
    (hchk : wk_back x y (ls_sg wk_T 206 [16] false pc L S G) = true) (hR : ai_Rel D tyc A s sa ws0 (ct_mt 206).2.2.1 r' ad' L S G H locs ls st) (h1 : ai_ext 63 r r') (h2 : ai_ext 336 ad ad') (hN : 65 ≤ G.1.1) (hn : G.2.1.1 = 336)
    (ih : ∀ (r2 : Nat → Int) (ad2 : Nat → Nat) (H2 : Heap) (locs2 : List Loc) (ls2 : Array Slot) (st2 : List Value), ai_Rel D tyc A s sa ws0 (ct_mt 206).2.2.1 r2 ad2 wk_LH [] wk_G H2 locs2 ls2 st2 → ai_ext 63 r r2 → ai_ext 336 ad ad2 → r2 63 = r' 63 + x → r2 64 = r' 64 + y → W p l e (lt_rm (n + 1) 206) s m args below meth c H2 locs2 0 0 Q (F0 m 16 ls2 st2)) :
    W p l e (lt_rm (n + 1) 206) s m args below meth c H locs G.2.2.1 G.2.2.2 Q (F0 m pc ls st) := by
  unfold wk_back at hchk
  split at hchk
  · cases hchk
  · rename_i fs ef
    refine ls_ok wk_pl F hl hT hPw ef hR (fun f hf => ?_)
    intro r1 ad1 x1 x2 x3 x4 H1 locs1 ls1 st1 hR1
    have hc := List.all_eq_true.mp hchk f hf
    simp only [Bool.and_eq_true, decide_eq_true_eq] at hc
    obtain ⟨c1, c2, c3, c4, c5, c6, c7, c8, c9⟩ := hc
    rw [Nat.eq_of_beq_eq_true c1, Nat.eq_of_beq_eq_true c8, Nat.eq_of_beq_eq_true c9]
    rw [c2] at hR1
    have hx : ai_ext 63 r r1 := h1.trans (x1.mono (N := 63) (by omega)) (Nat.le_refl _)
    obtain ⟨r2, y1, hR2⟩ := hw_ok (L' := wk_LH) (S' := []) hE wk_N.2.2.2.1 (by rw [wk_N.1]; exact hx) (by rw [wk_N.1]; exact Nat.le_of_ble_eq_true c6) hR1 c3
    rw [wk_N.1] at y1
    have v3 := hg_same (i := 3) (x' := (63, 0)) hR1 hR2 c4 rfl
    have v4 := hg_same (i := 4) (x' := (64, 0)) hR1 hR2 c5 rfl
    refine ih r2 ad1 H1 locs1 ls1 st1 hR2 y1 (h2.trans (x2.mono (N := 336) (by omega)) (Nat.le_refl _)) ?_ ?_
    · have e0 : r2 63 + 0 = r1 63 + x := v3
      have e1 := x1 63 (by omega)
      omega
    · have e0 : r2 64 + 0 = r1 64 + y := v4
      have e1 := x1 64 (by omega)
      omega
/-- what holds at the loop's head -/
theorem wk_loop (F : ls_Fr p (lt_rm (n + 1) 206) s m args meth c D tyc A sa 206) (hl : l.stackTraces = false) (hret : meth.sig.returnType = (ct_mt 206).2.2.2.1) (htb : ∀ x ∈ c.exceptionTable.toList, False) (hT : lt_all n wk_T) (hPw : ai_Pw tyc ws0) (hE : ai_gE r wk_E)
    {f3 f4 : Nat → Int32} (h3 : hg_ia tyc ws0 289 40 f3) (h4 : hg_ia tyc ws0 290 2000 f4) {mm cc j : Nat} (hmm : mm < 4) (hcc : cc < 40) (r1 : r 1 = (mm : Int)) (r2 : r 62 = (cc : Int)) (e3 : (f3 cc).toInt = (j : Int)) (hj : j ≤ 400) :
    ∀ (k i d : Nat), pw_cv (fun q => (f4 (400 * mm + q)).toInt) k i j d → ∀ (r' : Nat → Int) (ad' : Nat → Nat) (H : Heap) (locs : List Loc) (ls : Array Slot) (st : List Value), ai_Rel D tyc A s sa ws0 (ct_mt 206).2.2.1 r' ad' wk_LH [] wk_G H locs ls st → ai_ext 63 r r' → ai_ext 336 ad ad' → r' 63 = (d : Int) → r' 64 = ((400 * mm + i : Nat) : Int) →
      W p l e (lt_rm (n + 1) 206) s m args below meth c H locs 0 0 (vx_MQ below (ai_Qc D tyc A sa ws0 r ad wk_E.1 336 (wk_W.map (sm_out wk_E))) (ai_XC D tyc A sa ws0 r ad wk_E.1 336 (wk_W.map (sm_out wk_E))) args s (lt_rm (n + 1) 206).cells (lt_rm (n + 1) 206).slots A) (F0 m 16 ls st) := by
  intro k
  induction k using Nat.strongRecOn with
  | _ k ih =>
    intro i d hcv r' ad' H locs ls st hR hx hax hd hi
    obtain ⟨N1, N2, N3, N4, N5⟩ := wk_N
    obtain ⟨dc1, dc2, dc3, dc4, dc5⟩ := wk_dc
    refine ls_ok1 (G := wk_G) wk_pl F hl hT hPw wk_a1 hR (fun ra ada x1 x2 x3 x4 Ha locsa lsa sta hRa => ?_)
    obtain ⟨a1, a2, a3, a4, a5, a6, a7, a8⟩ := wk_is_ok wk_a2
    have a1 : (ls_1 wk_T 206 [28] false 16 wk_LH [] wk_G).1 = 28 := a1
    have hRa : ai_Rel D tyc A s sa ws0 (ct_mt 206).2.2.1 ra ada wk_A.2.1 wk_A.2.2.1 wk_A.2.2.2 Ha locsa lsa sta := hRa
    rw [a2, a3] at hRa
    rw [a1]
    have x1 : ai_ext 65 r' ra := by rw [N2] at x1; exact x1
    have x2 : ai_ext 336 ad' ada := x2
    have ea1 : ra 1 = (mm : Int) := by rw [x1 1 (by omega), hx 1 (by omega), r1]
    have ea2 : ra 62 = (cc : Int) := by rw [x1 62 (by omega), hx 62 (by omega), r2]
    have ea3 : ra 63 = (d : Int) := by rw [x1 63 (by omega), hd]
    have ea4 : ra 64 = ((400 * mm + i : Nat) : Int) := by rw [x1 64 (by omega), hi]
    have hxa : ai_ext 63 r ra := fun t ht => (x1 t (by omega)).trans (hx t ht)
    have haxa : ai_ext 336 ad ada := fun t ht => (x2 t ht).trans (hax t ht)
    refine hg_iald F dc2 (b := (0, 400)) hRa (by omega) a8 h3 hcc (by show ra 62 + 0 = _; rw [ea2]; omega) (by rw [e3]; exact ⟨Int.natCast_nonneg _, by show (j : Int) ≤ 400; omega⟩) (fun rb stb y1 y2 hRb => ?_)
    have y1 : ai_ext 66 ra rb := by rw [← a4]; exact y1
    have y2 : rb 66 = (j : Int) := by
      have h9 : rb wk_A.2.2.2.1.1 = (f3 cc).toInt := y2
      rw [a4, e3] at h9
      exact h9
    have hRb : ai_Rel D tyc A s sa ws0 (ct_mt 206).2.2.1 rb ada wk_LH [.inl (66, 0), .inl (65, 0), .inl (64, 0)] (hg_new wk_A.2.2.2 (0, 400)) Ha locsa lsa stb := by rw [← a4]; exact hRb
    refine ls_ok1 (G := hg_new wk_A.2.2.2 (0, 400)) wk_pl F hl hT hPw wk_b1 hRb (fun rc adc z1 z2 z3 z4 Hc locsc lsc stc hRc => ?_)
    obtain ⟨b1, b2, b3, b4, b5, b6, b7, b8⟩ := wk_is_ok wk_b2
    have b1 : (ls_1 wk_T 206 [30] false 29 wk_LH [.inl (66, 0), .inl (65, 0), .inl (64, 0)] (hg_new wk_A.2.2.2 (0, 400))).1 = 30 := b1
    have hRc : ai_Rel D tyc A s sa ws0 (ct_mt 206).2.2.1 rc adc wk_B.2.1 wk_B.2.2.1 wk_B.2.2.2 Hc locsc lsc stc := hRc
    rw [b2, b3] at hRc
    rw [b1]
    have z1 : ai_ext 67 rb rc := by
      have : (hg_new wk_A.2.2.2 (0, 400)).1.1 = wk_A.2.2.2.1.1 + 1 := rfl
      rw [this, a4] at z1; exact z1
    have z2 : ai_ext 336 ada adc := by
      have : (hg_new wk_A.2.2.2 (0, 400)).2.1.1 = wk_A.2.2.2.2.1.1 := rfl
      rw [this, a5] at z2; exact z2
    have ec1 : rc 1 = (mm : Int) := by rw [z1 1 (by omega), y1 1 (by omega), ea1]
    have ec3 : rc 63 = (d : Int) := by rw [z1 63 (by omega), y1 63 (by omega), ea3]
    have ec4 : rc 64 = ((400 * mm + i : Nat) : Int) := by rw [z1 64 (by omega), y1 64 (by omega), ea4]
    have hxc : ai_ext 63 r rc := fun t ht => (z1 t (by omega)).trans ((y1 t (by omega)).trans (hxa t ht))
    have haxc : ai_ext 336 ad adc := fun t ht => (z2 t ht).trans (haxa t ht)
    have ec5 : rc 67 = ((400 * mm + j : Nat) : Int) := by
      have hEc := hRc.env
      have g0 : rc 0 = 0 := hEc.1
      have g1 := (hEc.2.2.2.2 _ wk_b3.1).2.2.2
      have g2 := (hEc.2.2.2.2 _ wk_b3.2).2.2.2
      have g2 : rc 65 = ((rc 0 + 400) * (rc 1 + 0)).bmod 4294967296 := g2
      have g1 : rc 67 = ((rc 65 + 0) + (rc 66 + 0)).bmod 4294967296 := g1
      have g3 : rc 66 = (j : Int) := by rw [z1 66 (by omega), y2]
      rw [g0, ec1, ai_bm32_id (by unfold ai_lo32; omega) (by unfold ai_hi32; omega)] at g2
      rw [g2, g3, ai_bm32_id (by unfold ai_lo32; omega) (by unfold ai_hi32; omega)] at g1
      rw [g1]
      omega
    refine hg_icmp (tgt := 168) F dc5 (by decide) hRc (fun hge std hRd => ?_) (fun hlt std hRd => ?_)
    · have hfin := ls_fin_ok (e := e) (below := below) (r0 := r) (ad0 := ad) (n0 := 336) wk_pl F hl hret htb hT hPw hE N4 wk_b4 hRd (by rw [N1]; exact hxc) haxc (by rw [N1, b4]; omega) (by rw [b5]; exact Nat.le_refl _)
      exact hfin
    · have hij : i < j := by
        have : ¬ (rc 67 + 0 ≤ rc 64 + 0) := hlt
        rw [ec5, ec4] at this
        omega
      cases k with
      | zero =>
        exfalso
        obtain ⟨e1, -⟩ := hcv
        omega
      | succ k =>
      rcases hcv with ⟨e1, -⟩ | ⟨-, hcv⟩
      · exfalso; omega
      · have hdb : rc 64 < 1600 := by rw [ec4]; omega
        refine ls_ok1 (G := wk_B.2.2.2) wk_pl F hl hT hPw wk_c1 hRd (fun re ade u1 u2 u3 u4 He locse lse ste hRe => ?_)
        obtain ⟨c1, c2, c3, c4, c5, c6, c7, c8⟩ := wk_is_ok wk_c2
        have c1 : (ls_1 wk_T 206 [39] false 33 wk_LH [] wk_B.2.2.2).1 = 39 := c1
        have hRe : ai_Rel D tyc A s sa ws0 (ct_mt 206).2.2.1 re ade wk_C.2.1 wk_C.2.2.1 wk_C.2.2.2 He locse lse ste := hRe
        rw [c2, c3] at hRe
        rw [c1]
        have u1 : ai_ext 68 rc re := by rw [b4] at u1; exact u1
        have u2 : ai_ext 336 adc ade := by rw [b5] at u2; exact u2
        have ee3 : re 63 = (d : Int) := by rw [u1 63 (by omega), ec3]
        have ee4 : re 64 = ((400 * mm + i : Nat) : Int) := by rw [u1 64 (by omega), ec4]
        have hxe : ai_ext 63 r re := fun t ht => (u1 t (by omega)).trans (hxc t ht)
        have haxe : ai_ext 336 ad ade := fun t ht => (u2 t ht).trans (haxc t ht)
        have load : ∀ (wb ab bb : Int × Int), wb.1 ≤ (f4 (400 * mm + i)).toInt ∧ (f4 (400 * mm + i)).toInt ≤ wb.2 → ab.1 ≤ (d : Int) ∧ (d : Int) ≤ ab.2 → bb.1 ≤ ((400 * mm + i : Nat) : Int) ∧ ((400 * mm + i : Nat) : Int) ≤ bb.2 →
            (∀ (rf : Nat → Int) (stf : List Value), ai_ext 68 re rf → ai_Rel D tyc A s sa ws0 (ct_mt 206).2.2.1 rf ade wk_LH [.inl (68, 0)] (wk_D wb ab bb) He locse lse stf → W p l e (lt_rm (n + 1) 206) s m args below meth c He locse wk_C.2.2.2.2.2.1 wk_C.2.2.2.2.2.2 (vx_MQ below (ai_Qc D tyc A sa ws0 r ad wk_E.1 336 (wk_W.map (sm_out wk_E))) (ai_XC D tyc A sa ws0 r ad wk_E.1 336 (wk_W.map (sm_out wk_E))) args s (lt_rm (n + 1) 206).cells (lt_rm (n + 1) 206).slots A) (F0 m 40 lse stf)) →
            W p l e (lt_rm (n + 1) 206) s m args below meth c He locse wk_C.2.2.2.2.2.1 wk_C.2.2.2.2.2.2 (vx_MQ below (ai_Qc D tyc A sa ws0 r ad wk_E.1 336 (wk_W.map (sm_out wk_E))) (ai_XC D tyc A sa ws0 r ad wk_E.1 336 (wk_W.map (sm_out wk_E))) args s (lt_rm (n + 1) 206).cells (lt_rm (n + 1) 206).slots A) (F0 m 39 lse ste) := fun wb ab bb w1 w2 w3 kk => by
          refine hg_iald F dc3 (b := wb) hRe (by omega) c8 h4 (show 400 * mm + i < 2000 by omega) (by show re 64 + 0 = _; rw [ee4]; omega) w1 (fun rf stf v1 v2 hRf => ?_)
          have v1 : ai_ext 68 re rf := by rw [← c4]; exact v1
          have hRf : ai_Rel D tyc A s sa ws0 (ct_mt 206).2.2.1 rf ade wk_LH [.inl (68, 0)] (hg_new wk_C.2.2.2 wb) He locse lse stf := by rw [← c4]; exact hRf
          have hN : (hg_new wk_C.2.2.2 wb).1.1 = wk_C.2.2.2.1.1 + 1 := rfl
          have q1 := hg_cap_ok (t := 63) (b := ab) hRf (by rw [hN, c4]; omega) (by rw [v1 63 (by omega), ee3]; exact w2)
          have q2 := hg_cap_ok (t := 64) (b := bb) q1 (by show 64 < (hg_new wk_C.2.2.2 wb).1.1; rw [hN, c4]; omega) (by rw [v1 64 (by omega), ee4]; exact w3)
          exact kk rf stf v1 q2
        have hND : ∀ wb ab bb, (wk_D wb ab bb).1.1 = wk_C.2.2.2.1.1 + 1 := fun _ _ _ => rfl
        have hnD : ∀ wb ab bb, (wk_D wb ab bb).2.1.1 = wk_C.2.2.2.2.1.1 := fun _ _ _ => rfl
        have next : ∀ (i' d' : Nat) (x y : Int), pw_cv (fun q => (f4 (400 * mm + q)).toInt) k i' j d' → (d' : Int) = d + x → (i' : Int) = i + y → ∀ (r2 : Nat → Int) (ad2 : Nat → Nat) (H2 : Heap) (locs2 : List Loc) (ls2 : Array Slot) (st2 : List Value) (rg : Nat → Int), rg 63 = (d : Int) → rg 64 = ((400 * mm + i : Nat) : Int) → ai_Rel D tyc A s sa ws0 (ct_mt 206).2.2.1 r2 ad2 wk_LH [] wk_G H2 locs2 ls2 st2 → ai_ext 63 r r2 → ai_ext 336 ad ad2 → r2 63 = rg 63 + x → r2 64 = rg 64 + y → _ := fun i' d' x y hcv' hx' hy' r2 ad2 H2 locs2 ls2 st2 rg g1 g2 hR2 w1 w2 w3 w4 => ih k (Nat.lt_succ_self k) i' d' hcv' r2 ad2 H2 locs2 ls2 st2 hR2 w1 w2 (by rw [w3, g1, hx']) (by rw [w4, g2]; omega)
        rcases hcv with ⟨hf, hi1, hd1, hcv⟩ | ⟨hf1, hf2, hd1, hcv⟩ | ⟨hf, hd1, hd2, hcv⟩ | ⟨hf1, hf2, hd1, hd2, hcv⟩
        · refine load (0, 0) (0, 109) (0, 1598) (by have hf : (f4 (400 * mm + i)).toInt = 0 := hf; rw [hf]; exact ⟨Int.le_refl _, Int.le_refl _⟩) ⟨Int.natCast_nonneg _, by show (d : Int) ≤ 109; omega⟩ ⟨Int.natCast_nonneg _, by show ((400 * mm + i : Nat) : Int) ≤ 1598; omega⟩ (fun rf stf v1 hRf => ?_)
          refine ls_ok1 (G := wk_D (0, 0) (0, 109) (0, 1598)) wk_pl F hl hT hPw wk_f1 hRf (fun rg adg t1 t2 t3 t4 Hg locsg lsg stg hRg => ?_)
          obtain ⟨f1, f2, f3', f4', f5, f6, f7, f8⟩ := wk_is_ok wk_f2
          have f1 : (ls_1 wk_T 206 [61] false 40 wk_LH [.inl (68, 0)] (wk_D (0, 0) (0, 109) (0, 1598))).1 = 61 := f1
          have hRg : ai_Rel D tyc A s sa ws0 (ct_mt 206).2.2.1 rg adg wk_F.2.1 wk_F.2.2.1 wk_F.2.2.2 Hg locsg lsg stg := hRg
          rw [f2, f3'] at hRg
          rw [f1]
          have t1 : ai_ext 69 rf rg := by rw [hND, c4] at t1; exact t1
          have t2 : ai_ext 336 ade adg := by rw [hnD, c5] at t2; exact t2
          have eg3 : rg 63 = (d : Int) := by rw [t1 63 (by omega), v1 63 (by omega), ee3]
          have eg4 : rg 64 = ((400 * mm + i : Nat) : Int) := by rw [t1 64 (by omega), v1 64 (by omega), ee4]
          refine hg_iald F dc4 (b := (-2147483648, 2147483647)) hRg (by omega) f8 h4 (show 400 * mm + i + 1 < 2000 by omega) (by show rg 64 + 1 = _; rw [eg4]; omega) (ai_i32 _) (fun rh sth w1 w2 hRh => ?_)
          have w1 : ai_ext 69 rg rh := by rw [← f4']; exact w1
          have hRh : ai_Rel D tyc A s sa ws0 (ct_mt 206).2.2.1 rh adg (wk_L (.inl (63, 0)) (.inl (64, 1)) (.inl (68, 0))) [.inl (69, 0), .inl (63, 0), wk_ref 292] (hg_new wk_F.2.2.2 (-2147483648, 2147483647)) Hg locsg lsg sth := by rw [← f4']; exact hRh
          refine wk_again (G := hg_new wk_F.2.2.2 (-2147483648, 2147483647)) F hl hT hPw hE wk_k4 hRh (fun t ht => (w1 t (by omega)).trans ((t1 t (by omega)).trans ((v1 t (by omega)).trans (hxe t ht)))) (fun t ht => (t2 t ht).trans (haxe t ht)) (by show 65 ≤ wk_F.2.2.2.1.1 + 1; rw [f4']; omega) f5 (fun r2 ad2 H2 locs2 ls2 st2 g1 g2 g3 g4 g5 => next (i + 2) (d + 1) 1 2 hcv (by omega) (by omega) r2 ad2 H2 locs2 ls2 st2 rh (by rw [w1 63 (by omega), eg3]) (by rw [w1 64 (by omega), eg4]) g1 g2 g3 g4 g5)
        · refine load (20, 24) (0, 109) (0, 1599) ⟨hf1, hf2⟩ ⟨Int.natCast_nonneg _, by show (d : Int) ≤ 109; omega⟩ ⟨Int.natCast_nonneg _, by show ((400 * mm + i : Nat) : Int) ≤ 1599; omega⟩ (fun rf stf v1 hRf => ?_)
          exact wk_again (G := wk_D (20, 24) (0, 109) (0, 1599)) F hl hT hPw hE wk_k1 hRf (fun t ht => (v1 t (by omega)).trans (hxe t ht)) haxe (by rw [hND, c4]; omega) (by rw [hnD, c5]) (fun r2 ad2 H2 locs2 ls2 st2 g1 g2 g3 g4 g5 => next (i + 1) (d + 1) 1 1 hcv (by omega) (by omega) r2 ad2 H2 locs2 ls2 st2 rf (by rw [v1 63 (by omega), ee3]) (by rw [v1 64 (by omega), ee4]) g1 g2 g3 g4 g5)
        · refine load (9, 9) (1, 110) (0, 1599) (by have hf : (f4 (400 * mm + i)).toInt = 9 := hf; rw [hf]; exact ⟨Int.le_refl _, Int.le_refl _⟩) ⟨by show (1 : Int) ≤ d; omega, by show (d : Int) ≤ 110; omega⟩ ⟨Int.natCast_nonneg _, by show ((400 * mm + i : Nat) : Int) ≤ 1599; omega⟩ (fun rf stf v1 hRf => ?_)
          exact wk_again (G := wk_D (9, 9) (1, 110) (0, 1599)) F hl hT hPw hE wk_k2 hRf (fun t ht => (v1 t (by omega)).trans (hxe t ht)) haxe (by rw [hND, c4]; omega) (by rw [hnD, c5]) (fun r2 ad2 H2 locs2 ls2 st2 g1 g2 g3 g4 g5 => next (i + 1) d 0 1 hcv (by omega) (by omega) r2 ad2 H2 locs2 ls2 st2 rf (by rw [v1 63 (by omega), ee3]) (by rw [v1 64 (by omega), ee4]) g1 g2 g3 g4 g5)
        · refine load (1, 8) (2, 110) (0, 1599) ⟨hf1, hf2⟩ ⟨by show (2 : Int) ≤ d; omega, by show (d : Int) ≤ 110; omega⟩ ⟨Int.natCast_nonneg _, by show ((400 * mm + i : Nat) : Int) ≤ 1599; omega⟩ (fun rf stf v1 hRf => ?_)
          exact wk_again (G := wk_D (1, 8) (2, 110) (0, 1599)) F hl hT hPw hE wk_k3 hRf (fun t ht => (v1 t (by omega)).trans (hxe t ht)) haxe (by rw [hND, c4]; omega) (by rw [hnD, c5]) (fun r2 ad2 H2 locs2 ls2 st2 g1 g2 g3 g4 g5 => next (i + 1) (d - 1) (-1) 1 hcv (by omega) (by omega) r2 ad2 H2 locs2 ls2 st2 rf (by rw [v1 63 (by omega), ee3]) (by rw [v1 64 (by omega), ee4]) g1 g2 g3 g4 g5)
end WK
theorem wk_met {n : Nat} (hT : lt_all n wk_T) {l : Launch} {D : va_G} {tyc : Nat → ClassId} {A : Nat → Prop} {sa : ai_B} (hl : l.stackTraces = false) {ws0 : va_W} {r : Nat → Int} {ad : Nat → Nat} {H0 : Heap} {As : List Value} (hPw : ai_Pw tyc ws0) (hWd : ai_Wd D tyc A sa ws0 r ad wk_G0 H0) (hA : ai_gF r ad wk_G0.1.1 wk_G0.2.1.1 [wk_ref 264, .inl (1, 0), .inl (62, 0)] As)
    {f2 f3 f4 : Nat → Int32} (h2 : hg_ia tyc ws0 288 40 f2) (h3 : hg_ia tyc ws0 289 40 f3) (h4 : hg_ia tyc ws0 290 2000 f4) {mm cc i j : Nat} (hmm : mm < 4) (hcc : cc < 40) (r1 : r 1 = (mm : Int)) (r2 : r 62 = (cc : Int)) (e2 : (f2 cc).toInt = (i : Int)) (e3 : (f3 cc).toInt = (j : Int)) (hij : i ≤ j) (hj : j ≤ 400) (hcv : pw_cv (fun q => (f4 (400 * mm + q)).toInt) 400 i j 0) :
    vx_Met l (ct_mt 206).1 (ai_cw (ct_mt 206) :: ft_W) (lt_rm (n + 1) 206) (fun a U => a = As.toArray ∧ U.heap = H0 ∧ ai_St D tyc A sa ct_strs ft_N U ∧ ∀ q, H0.size ≤ q → A q) (ai_Qc D tyc A sa ws0 r ad wk_E.1 336 (wk_W.map (sm_out wk_E))) (fun _ _ _ => False) (lt_rm (n + 1) 206).cells (lt_rm (n + 1) 206).slots A := by
  obtain ⟨N1, N2, N3, N4, N5⟩ := wk_N
  obtain ⟨dc1, dc2, dc3, dc4, dc5⟩ := wk_dc
  have hE : ai_gE r wk_E := by
    obtain ⟨ws, -, -, g, -⟩ := hWd
    exact g
  refine sm_imp (XC := ai_XC D tyc A sa ws0 r ad wk_E.1 336 (wk_W.map (sm_out wk_E))) (ls_met wk_pl (wk_L wk_u wk_u wk_u) (by decide +kernel) hWd hA (fun p e s m below meth c ls F hret htb hheap hR => ?_)) (fun _ _ q => q) (fun _ _ _ _ q => q) (fun E s t ⟨f, hf, z, hz, _⟩ => by
    unfold wk_W at hf
    simp only [List.map_cons, List.map_nil, List.mem_cons, List.not_mem_nil, or_false] at hf
    subst hf
    cases hz)
  refine ls_ok1 (G := wk_G0) wk_pl F hl hT hPw wk_p1 hR (fun ra ada x1 x2 x3 x4 Ha locsa lsa sta hRa => ?_)
  obtain ⟨a1, a2, a3, a4, a5, a6, a7, a8⟩ := wk_is_ok wk_p2
  have a1 : (ls_1 wk_T 206 [12] false 0 (wk_L wk_u wk_u wk_u) [] wk_G0).1 = 12 := a1
  have hRa : ai_Rel D tyc A s sa ws0 (ct_mt 206).2.2.1 ra ada wk_P.2.1 wk_P.2.2.1 wk_P.2.2.2 Ha locsa lsa sta := hRa
  rw [a2, a3] at hRa
  rw [a1]
  have x1 : ai_ext 63 r ra := by rw [N3] at x1; exact x1
  have x2 : ai_ext 336 ad ada := by
    have : wk_G0.2.1.1 = 336 := N5
    rw [this] at x2; exact x2
  refine hg_iald F dc1 (b := (0, 400)) hRa (by omega) a8 h2 hcc (by show ra 62 + 0 = _; rw [x1 62 (by omega), r2]; omega) (by rw [e2]; exact ⟨Int.natCast_nonneg _, by show (i : Int) ≤ 400; omega⟩) (fun rb stb y1 y2 hRb => ?_)
  have y1 : ai_ext 64 ra rb := by rw [← a4]; exact y1
  have y2 : rb 64 = (i : Int) := by
    have h9 : rb wk_P.2.2.2.1.1 = (f2 cc).toInt := y2
    rw [a4, e2] at h9
    exact h9
  have hRb : ai_Rel D tyc A s sa ws0 (ct_mt 206).2.2.1 rb ada (wk_L (.inl (0, 0)) wk_u wk_u) [.inl (64, 0), .inl (63, 0)] (hg_new wk_P.2.2.2 (0, 400)) Ha locsa lsa stb := by rw [← a4]; exact hRb
  refine ls_ok1 (G := hg_new wk_P.2.2.2 (0, 400)) wk_pl F hl hT hPw wk_q1 hRb (fun rc adc z1 z2 z3 z4 Hc locsc lsc stc hRc => ?_)
  obtain ⟨b1, b2, b3, b4, b5, b6, b7, b8⟩ := wk_is_ok wk_q2
  have b1 : (ls_1 wk_T 206 [16] false 13 (wk_L (.inl (0, 0)) wk_u wk_u) [.inl (64, 0), .inl (63, 0)] (hg_new wk_P.2.2.2 (0, 400))).1 = 16 := b1
  have hRc : ai_Rel D tyc A s sa ws0 (ct_mt 206).2.2.1 rc adc wk_Q.2.1 wk_Q.2.2.1 wk_Q.2.2.2 Hc locsc lsc stc := hRc
  rw [b2, b3] at hRc
  rw [b1]
  have z1 : ai_ext 65 rb rc := by
    have : (hg_new wk_P.2.2.2 (0, 400)).1.1 = wk_P.2.2.2.1.1 + 1 := rfl
    rw [this, a4] at z1; exact z1
  have z2 : ai_ext 336 ada adc := by
    have : (hg_new wk_P.2.2.2 (0, 400)).2.1.1 = wk_P.2.2.2.2.1.1 := rfl
    rw [this, a5] at z2; exact z2
  have hxc : ai_ext 63 r rc := fun t ht => (z1 t (by omega)).trans ((y1 t (by omega)).trans (x1 t ht))
  have haxc : ai_ext 336 ad adc := fun t ht => (z2 t ht).trans (x2 t ht)
  have ec1 : rc 1 = (mm : Int) := by rw [hxc 1 (by omega), r1]
  have ec5 : rc 65 = ((400 * mm + i : Nat) : Int) := by
    have hEc := hRc.env
    have g0 : rc 0 = 0 := hEc.1
    have g1 := (hEc.2.2.2.2 _ wk_q4.1).2.2.2
    have g2 := (hEc.2.2.2.2 _ wk_q4.2).2.2.2
    have g2 : rc 63 = ((rc 0 + 400) * (rc 1 + 0)).bmod 4294967296 := g2
    have g1 : rc 65 = ((rc 63 + 0) + (rc 64 + 0)).bmod 4294967296 := g1
    have g3 : rc 64 = (i : Int) := by rw [z1 64 (by omega), y2]
    rw [g0, ec1, ai_bm32_id (by unfold ai_lo32; omega) (by unfold ai_hi32; omega)] at g2
    rw [g2, g3, ai_bm32_id (by unfold ai_lo32; omega) (by unfold ai_hi32; omega)] at g1
    rw [g1]
    omega
  obtain ⟨r5, w1, hR5⟩ := hw_ok (L' := wk_LH) (S' := []) hE N4 (by rw [N1]; exact hxc) (by rw [N1, b4]; omega) hRc wk_q3
  rw [N1] at w1
  have v3 := hg_same (i := 3) (x := (0, 0)) (x' := (63, 0)) hRc hR5 rfl rfl
  have v4 := hg_same (i := 4) (x := (65, 0)) (x' := (64, 0)) hRc hR5 rfl rfl
  have g0 : rc 0 = 0 := hRc.env.1
  have c1 : wk_Q.2.2.2.2.2.1 = 0 := b6
  have c2 : wk_Q.2.2.2.2.2.2 = 0 := b7
  have hw := wk_loop (e := e) (below := below) (n := n) F hl hret htb hT hPw hE h3 h4 hmm hcc r1 r2 e3 hj 400 i 0 hcv r5 adc Hc locsc lsc stc hR5 w1 haxc (by
    have : r5 63 + 0 = rc 0 + 0 := v3
    omega) (by
    have : r5 64 + 0 = rc 65 + 0 := v4
    omega)
  have e1 : (ls_1 wk_T 206 [16] false 13 (wk_L (.inl (0, 0)) wk_u wk_u) [.inl (64, 0), .inl (63, 0)] (hg_new wk_P.2.2.2 (0, 400))).2.2.2.2.2.1 = 0 := c1
  have e2' : (ls_1 wk_T 206 [16] false 13 (wk_L (.inl (0, 0)) wk_u wk_u) [.inl (64, 0), .inl (63, 0)] (hg_new wk_P.2.2.2 (0, 400))).2.2.2.2.2.2 = 0 := c2
  rw [e1, e2']
  exact hw
/-! askedOf -/
noncomputable def ak_L (x y z w : ai_V) : List ai_V := [wk_ref 264, .inl (1, 0), .inl (2, 0), .inl (3, 0), .inl (4, 0), x, y, z, w]
noncomputable def ak_L0 : List ai_V := ak_L wk_u wk_u wk_u wk_u
noncomputable def ak_G0 : ai_G := (ak_E, ak_h, 0, 0)
noncomputable def ak_W : List sm_W := cn_askedOfM.2.2.2
noncomputable def ak_nb : List (Int × Int) := [cb_i, (0, 8)]
noncomputable def ak_LH : List ai_V := ak_L (.inl (60, 0)) (.inl (61, 0)) wk_u wk_u
noncomputable def ak_GH : ai_G := (sm_E ak_E ak_nb, ak_h, 0, 0)
/-- behind a segment: at the loop's head (its count known), or on the way to an end -/
noncomputable def ak_back (x : ai_X) (o : Option (List ai_F)) : Bool := match o with
  | none => false
  | some fs => fs.all (fun f => Nat.ble 60 f.2.2.2.1.1 && (Nat.beq f.2.2.2.2.1.1 336 && (Nat.beq f.2.2.2.2.2.1 0 && (Nat.beq f.2.2.2.2.2.2 0 && (decide (f.2.2.1 = []) && (
      (Nat.beq f.1 68 && (hw_sub ak_E ak_nb ak_h ak_LH [] f.2.1 [] f.2.2.2 && decide (ai_lget f.2.1 6 = .inl x))) ||
      ls_fin wk_T 207 [] ak_E ak_W f.1 f.2.1 [] f.2.2.2))))))
noncomputable def ak_A : ai_F := ls_1 wk_T 207 [75] false 68 ak_LH [] ak_GH
noncomputable def ak_GA : ai_G := hg_new ak_A.2.2.2 (0, 8)
noncomputable def ak_B : ai_F := ls_1 wk_T 207 [92] false 79 ak_LH [] (hg_cap ak_GA 61 (0, 7))
noncomputable def ak_LC : List ai_V := ak_L (.inl (60, 0)) (.inl (61, 0)) (.inl (62, 0)) wk_u
noncomputable def ak_S0 : List ai_F := (ls_sg wk_T 207 [9, 16] false 0 ak_L0 [] ak_G0).getD []
theorem ak_pl : ls_plain 207 = true := by decide +kernel
theorem ak_s1 : (ls_sg wk_T 207 [9, 16] false 0 ak_L0 [] ak_G0).isSome = true := by decide +kernel
theorem ak_s2 : ak_S0.all (fun f => Nat.ble 60 f.2.2.2.1.1 && (Nat.beq f.2.2.2.2.1.1 336 && (decide (f.2.2.1 = []) && ((Nat.beq f.1 9 && ls_fin wk_T 207 [] ak_E ak_W 9 f.2.1 [] f.2.2.2) || (Nat.beq f.1 16 && ak_back (0, 0) (ls_sg wk_T 207 [68] false 16 f.2.1 [] f.2.2.2)))))) = true := by decide +kernel
theorem ak_a1 : ls_one wk_T 207 [75] false 68 ak_LH [] ak_GH = true := by decide +kernel
theorem ak_a2 : wk_is ak_A 75 ak_LH [.inl (1, 0), wk_ref 286, .inl (61, 0)] 62 286 = true := by decide +kernel
theorem ak_a3 : ls_fin wk_T 207 [] ak_E ak_W 130 ak_LH [] ak_GA = true := by decide +kernel
theorem ak_b1 : ls_one wk_T 207 [92] false 79 ak_LH [] (hg_cap ak_GA 61 (0, 7)) = true := by decide +kernel
theorem ak_b2 : wk_is ak_B 92 (ak_L (.inl (60, 0)) (.inl (61, 0)) (.inl (64, 0)) wk_u) [.inl (64, 0), .inl (1, 0), wk_ref 264] 65 290 = true := by decide +kernel
theorem ak_b3 : (0, 64, (63, 0), (61, 0)) ∈ ak_B.2.2.2.1.2.2 ∧ (2, 63, (0, 8), (1, 0)) ∈ ak_B.2.2.2.1.2.2 := by decide +kernel
theorem ak_b4 : hw_sub ak_E [cb_i, (0, 7), (0, 31)] ak_h ak_LC [.inl (62, 0), .inl (1, 0), wk_ref 264] (ak_L (.inl (60, 0)) (.inl (61, 0)) (.inl (64, 0)) wk_u) [.inl (64, 0), .inl (1, 0), wk_ref 264] ak_B.2.2.2 = true := by decide +kernel
noncomputable def ak_GR : ai_G := (sm_out wk_E (.inr (some (.inl (63, 0))), [cb_i], ak_h)).2
noncomputable def ak_LR : List ai_V := ak_L (.inl (60, 0)) (.inl (61, 0)) (.inl (62, 0)) (.inl (63, 0))
noncomputable def ak_R : ai_F := ls_1 wk_T 207 [103] false 95 ak_LC [.inl (63, 0)] ak_GR
theorem ak_r0 : ls_one wk_T 207 [103] false 95 ak_LC [.inl (63, 0)] ak_GR = true := by decide +kernel
theorem ak_r2 : wk_is ak_R 103 ak_LR [.inl (62, 0), wk_ref 287] 64 287 = true := by decide +kernel
theorem ak_r1 : ak_back (61, 1) (ls_sg wk_T 207 [68, 122] false 104 ak_LR [.inl (64, 0)] (hg_new ak_R.2.2.2 (ai_lo32, ai_hi32))) = true := by decide +kernel
theorem ak_dx : decode (ct_mt 207).2.1 103 = .ok (.iaload, 1) := by decide +kernel
theorem ak_dc : decode (ct_mt 207).2.1 75 = .ok (.iaload, 1) ∧ decode (ct_mt 207).2.1 76 = .ok (.if_icmp .ge 54, 3) := by decide +kernel
theorem ak_N : ak_E.1 = 60 ∧ ak_GH.1.1 = 62 ∧ ak_E.2.2 = [] ∧ ak_GR.1.1 = 64 := by decide +kernel
theorem ak_cd : ls_code 207 92 = some (.invokevirtual 405, 3, 206, 771) := by decide +kernel
noncomputable def hg_vc (mj b pc : Nat) (S : List ai_V) (h : ai_H) (aa S' : List ai_V) : Bool := match ai_vcall mj (Nat.mod b 64) (Nat.div b 64) (pc + 3) S h with
  | some (.inr (.inl (a, b', c', d'))) => Nat.beq a mj && (decide (b' = aa) && (decide (c' = S') && Nat.beq d' (pc + 3)))
  | _ => false
theorem hg_vc_ok {mj b pc : Nat} {S : List ai_V} {h : ai_H} {aa S' : List ai_V} (e : hg_vc mj b pc S h aa S' = true) : ai_vcall mj (Nat.mod b 64) (Nat.div b 64) (pc + 3) S h = some (.inr (.inl (mj, aa, S', pc + 3))) := by
  unfold hg_vc at e
  split at e
  · rename_i a b' c' d' hq
    simp only [Bool.and_eq_true, decide_eq_true_eq] at e
    obtain ⟨e1, e2, e3, e4⟩ := e
    rw [hq, Nat.eq_of_beq_eq_true e1, e2, e3, Nat.eq_of_beq_eq_true e4]
  · cases e
theorem ak_vc : hg_vc 206 771 92 [.inl (62, 0), .inl (1, 0), wk_ref 264] ak_h [wk_ref 264, .inl (1, 0), .inl (62, 0)] [] = true := by decide +kernel
theorem ak_bd : ct_bud 206 = (0, 0) ∧ ct_bud 207 = (0, 0) := by decide +kernel
section AK
variable {p : Program} {l : Launch} {e : Env} {s : State} {m : MethodId} {args : Array Value} {below : List Frame} {meth : Method} {c : Code}
variable {D : va_G} {tyc : Nat → ClassId} {A : Nat → Prop} {sa : ai_B} {ws0 : va_W} {n : Nat} {r : Nat → Int} {ad : Nat → Nat}
/-- what an end of the method owes -/
abbrev ak_Q (below : List Frame) (D : va_G) (tyc : Nat → ClassId) (A : Nat → Prop) (sa : ai_B) (ws0 : va_W) (r : Nat → Int) (ad : Nat → Nat) (args : Array Value) (s : State) (n : Nat) : State → Prop := vx_MQ below (ai_Qc D tyc A sa ws0 r ad ak_E.1 336 (ak_W.map (sm_out ak_E))) (ai_XC D tyc A sa ws0 r ad ak_E.1 336 (ak_W.map (sm_out ak_E))) args s (lt_rm (n + 1) 207).cells (lt_rm (n + 1) 207).slots A
theorem ak_again {pc : Nat} {stop : List Nat} {L S : List ai_V} {G : ai_G} {r' : Nat → Int} {ad' : Nat → Nat} {H : Heap} {locs : List Loc} {ls : Array Slot} {st : List Value} {x : ai_X} (F : ls_Fr p (lt_rm (n + 1) 207) s m args meth c D tyc A sa 207) (hl : l.stackTraces = false) (hret : meth.sig.returnType = (ct_mt 207).2.2.2.1) (htb : ∀ x ∈ c.exceptionTable.toList, False) (hT : lt_all n wk_T) (hPw : ai_Pw tyc ws0) (hE : ai_gE r ak_E)
    (hchk : ak_back x (ls_sg wk_T 207 stop false pc L S G) = true) (hR : ai_Rel D tyc A s sa ws0 (ct_mt 207).2.2.1 r' ad' L S G H locs ls st) (h1 : ai_ext 60 r r') (h2 : ai_ext 336 ad ad') (hN : 60 ≤ G.1.1) (hxG : x.1 < G.1.1) (hn : G.2.1.1 = 336)
    (ih : ∀ (r2 : Nat → Int) (ad2 : Nat → Nat) (H2 : Heap) (locs2 : List Loc) (ls2 : Array Slot) (st2 : List Value), ai_Rel D tyc A s sa ws0 (ct_mt 207).2.2.1 r2 ad2 ak_LH [] ak_GH H2 locs2 ls2 st2 → ai_ext 60 r r2 → ai_ext 336 ad ad2 → r2 61 = ai_vx r' x → W p l e (lt_rm (n + 1) 207) s m args below meth c H2 locs2 0 0 (ak_Q below D tyc A sa ws0 r ad args s n) (F0 m 68 ls2 st2)) :
    W p l e (lt_rm (n + 1) 207) s m args below meth c H locs G.2.2.1 G.2.2.2 (ak_Q below D tyc A sa ws0 r ad args s n) (F0 m pc ls st) := by
  obtain ⟨N1, N2, N3, N4⟩ := ak_N
  unfold ak_back at hchk
  split at hchk
  · cases hchk
  · rename_i fs ef
    refine ls_ok ak_pl F hl hT hPw ef hR (fun f hf => ?_)
    intro r1 ad1 x1 x2 x3 x4 H1 locs1 ls1 st1 hR1
    have hc := List.all_eq_true.mp hchk f hf
    simp only [Bool.and_eq_true, Bool.or_eq_true, decide_eq_true_eq] at hc
    obtain ⟨c1, c2, c3, c4, c5, c6⟩ := hc
    have c1 := Nat.le_of_ble_eq_true c1
    have c2 := Nat.eq_of_beq_eq_true c2
    rw [c5] at hR1
    have hx : ai_ext 60 r r1 := h1.trans (x1.mono (N := 60) (by omega)) (Nat.le_refl _)
    have hax : ai_ext 336 ad ad1 := h2.trans (x2.mono (N := 336) (by omega)) (Nat.le_refl _)
    rcases c6 with ⟨d1, d2, d3⟩ | d1
    · rw [Nat.eq_of_beq_eq_true d1, Nat.eq_of_beq_eq_true c3, Nat.eq_of_beq_eq_true c4]
      obtain ⟨r2, y1, hR2⟩ := hw_ok (L' := ak_LH) (S' := []) hE N3 (by rw [N1]; exact hx) (by rw [N1]; exact c1) hR1 d2
      rw [N1] at y1
      have v3 := hg_same (i := 6) (x' := (61, 0)) hR1 hR2 d3 rfl
      refine ih r2 ad1 H1 locs1 ls1 st1 hR2 y1 hax ?_
      have e0 : r2 61 + 0 = ai_vx r1 x := v3
      rw [x1.vx hxG] at e0
      omega
    · exact ls_fin_ok (r0 := r) (ad0 := ad) (n0 := 336) ak_pl F hl hret htb hT hPw hE N3 d1 hR1 (by rw [N1]; exact hx) hax (by rw [N1]; exact c1) (by rw [c2]; exact Nat.le_refl _)
theorem ak_loop {n' : Nat} (hn' : n = n' + 1) (F : ls_Fr p (lt_rm (n + 1) 207) s m args meth c D tyc A sa 207) (hl : l.stackTraces = false) (hret : meth.sig.returnType = (ct_mt 207).2.2.2.1) (htb : ∀ x ∈ c.exceptionTable.toList, False) (hT : lt_all n' wk_T) (hPw : ai_Pw tyc ws0) (hE : ai_gE r ak_E)
    {f1 f2 f3 f4 : Nat → Int32} (h1 : hg_ia tyc ws0 286 5 f1) (h2 : hg_ia tyc ws0 288 40 f2) (h3 : hg_ia tyc ws0 289 40 f3) (h4 : hg_ia tyc ws0 290 2000 f4) {f5 : Nat → Int32} (h5 : hg_ia tyc ws0 287 40 f5) (hok : pw_ok f1 f2 f3 f4) {mm : Nat} (hmm : mm < 4) (r1 : r 1 = (mm : Int)) :
    ∀ (M K : Nat), K + M = 9 → ∀ (r' : Nat → Int) (ad' : Nat → Nat) (H : Heap) (locs : List Loc) (ls : Array Slot) (st : List Value), ai_Rel D tyc A s sa ws0 (ct_mt 207).2.2.1 r' ad' ak_LH [] ak_GH H locs ls st → ai_ext 60 r r' → ai_ext 336 ad ad' → r' 61 = (K : Int) →
      W p l e (lt_rm (n + 1) 207) s m args below meth c H locs 0 0 (ak_Q below D tyc A sa ws0 r ad args s n) (F0 m 68 ls st) := by
  have hTn : lt_all n wk_T := by
    subst hn'
    exact ⟨hT.1.mono (by omega), trivial⟩
  intro M
  induction M with
  | zero =>
    intro K hK r' ad' H locs ls st hR hx hax hk
    exfalso
    have hEr := hR.env
    have := (hEr.2.2.2.1 (61, 0, 8) (by
      show (61, 0, 8) ∈ sm_nb ak_E.1 ak_nb ++ ak_E.2.1
      rw [ak_N.1]
      exact List.mem_append_left _ (List.mem_cons_of_mem _ List.mem_cons_self))).2.2
    have : r' 61 ≤ 8 := this
    omega
  | succ M ih =>
    intro K hK r' ad' H locs ls st hR hx hax hk
    obtain ⟨N1, N2, N3, N4⟩ := ak_N
    obtain ⟨dc1, dc2⟩ := ak_dc
    obtain ⟨⟨p1, p2⟩, p3⟩ := hok mm hmm
    refine ls_ok1 (G := ak_GH) ak_pl F hl hTn hPw ak_a1 hR (fun ra ada x1 x2 x3 x4 Ha locsa lsa sta hRa => ?_)
    obtain ⟨a1, a2, a3, a4, a5, a6, a7, a8⟩ := wk_is_ok ak_a2
    have a1 : (ls_1 wk_T 207 [75] false 68 ak_LH [] ak_GH).1 = 75 := a1
    have hRa : ai_Rel D tyc A s sa ws0 (ct_mt 207).2.2.1 ra ada ak_A.2.1 ak_A.2.2.1 ak_A.2.2.2 Ha locsa lsa sta := hRa
    rw [a2, a3] at hRa
    rw [a1]
    have x1 : ai_ext 62 r' ra := by rw [N2] at x1; exact x1
    have x2 : ai_ext 336 ad' ada := x2
    have ea1 : ra 1 = (mm : Int) := by rw [x1 1 (by omega), hx 1 (by omega), r1]
    have ea2 : ra 61 = (K : Int) := by rw [x1 61 (by omega), hk]
    have hxa : ai_ext 60 r ra := fun t ht => (x1 t (by omega)).trans (hx t ht)
    have haxa : ai_ext 336 ad ada := fun t ht => (x2 t ht).trans (hax t ht)
    refine hg_iald F dc1 (b := (0, 8)) hRa (by omega) a8 h1 (show mm < 5 by omega) (by show ra 1 + 0 = _; rw [ea1]; omega) ⟨p1, p2⟩ (fun rb stb y1 y2 hRb => ?_)
    have y1 : ai_ext 62 ra rb := by rw [← a4]; exact y1
    have y2 : rb 62 = (f1 mm).toInt := by
      have h9 : rb ak_A.2.2.2.1.1 = (f1 mm).toInt := y2
      rw [a4] at h9
      exact h9
    have hRb : ai_Rel D tyc A s sa ws0 (ct_mt 207).2.2.1 rb ada ak_LH [.inl (62, 0), .inl (61, 0)] ak_GA Ha locsa lsa stb := by
      have : ak_GA = hg_new ak_A.2.2.2 (0, 8) := rfl
      rw [this, ← a4]; exact hRb
    have hNA : ak_GA.1.1 = 63 := by
      have : ak_GA.1.1 = ak_A.2.2.2.1.1 + 1 := rfl
      rw [this, a4]
    have hnA : ak_GA.2.1.1 = 336 := a5
    have eb2 : rb 61 = (K : Int) := by rw [y1 61 (by omega), ea2]
    have hxb : ai_ext 60 r rb := fun t ht => (y1 t (by omega)).trans (hxa t ht)
    refine hg_icmp (G := ak_GA) (tgt := 130) F dc2 (by decide) hRb (fun hge std hRd => ?_) (fun hlt std hRd => ?_)
    · exact ls_fin_ok (r0 := r) (ad0 := ad) (n0 := 336) ak_pl F hl hret htb hTn hPw hE N3 ak_a3 hRd (by rw [N1]; exact hxb) haxa (by rw [N1, hNA]; omega) (by rw [hnA]; exact Nat.le_refl _)
    · have hKf : (K : Int) < (f1 mm).toInt := by
        have : ¬ (rb 62 + 0 ≤ rb 61 + 0) := hlt
        rw [y2, eb2] at this
        omega
      obtain ⟨i, j, q1, q2, q3, q4, q5⟩ := p3 K hKf
      have hK7 : K ≤ 7 := by omega
      have hRd := hg_cap_ok (t := 61) (b := (0, 7)) hRd (by rw [hNA]; omega) (by rw [eb2]; exact ⟨Int.natCast_nonneg _, by show (K : Int) ≤ 7; omega⟩)
      refine ls_ok1 (G := hg_cap ak_GA 61 (0, 7)) ak_pl F hl hTn hPw ak_b1 hRd (fun rc adc z1 z2 z3 z4 Hc locsc lsc stc hRc => ?_)
      obtain ⟨b1, b2, b3, b4, b5, b6, b7, b8⟩ := wk_is_ok ak_b2
      have b1 : (ls_1 wk_T 207 [92] false 79 ak_LH [] (hg_cap ak_GA 61 (0, 7))).1 = 92 := b1
      have hRc : ai_Rel D tyc A s sa ws0 (ct_mt 207).2.2.1 rc adc ak_B.2.1 ak_B.2.2.1 ak_B.2.2.2 Hc locsc lsc stc := hRc
      rw [b2, b3] at hRc
      rw [b1]
      have z1 : ai_ext 63 rb rc := by
        have : (hg_cap ak_GA 61 (0, 7)).1.1 = ak_GA.1.1 := rfl
        rw [this, hNA] at z1; exact z1
      have z2 : ai_ext 336 ada adc := by
        have : (hg_cap ak_GA 61 (0, 7)).2.1.1 = ak_GA.2.1.1 := rfl
        rw [this, hnA] at z2; exact z2
      have hxc : ai_ext 60 r rc := fun t ht => (z1 t (by omega)).trans (hxb t ht)
      have haxc : ai_ext 336 ad adc := fun t ht => (z2 t ht).trans (haxa t ht)
      have ec1 : rc 1 = (mm : Int) := by rw [hxc 1 (by omega), r1]
      have ec2 : rc 61 = (K : Int) := by rw [z1 61 (by omega), eb2]
      have ec5 : rc 64 = ((8 * mm + K : Nat) : Int) := by
        have hEc := hRc.env
        have g0 : rc 0 = 0 := hEc.1
        have g1 := (hEc.2.2.2.2 _ ak_b3.1).2.2.2
        have g2 := (hEc.2.2.2.2 _ ak_b3.2).2.2.2
        have g2 : rc 63 = ((rc 0 + 8) * (rc 1 + 0)).bmod 4294967296 := g2
        have g1 : rc 64 = ((rc 63 + 0) + (rc 61 + 0)).bmod 4294967296 := g1
        rw [g0, ec1, ai_bm32_id (by unfold ai_lo32; omega) (by unfold ai_hi32; omega)] at g2
        rw [g2, ec2, ai_bm32_id (by unfold ai_lo32; omega) (by unfold ai_hi32; omega)] at g1
        rw [g1]
        omega
      obtain ⟨rd, w1, hRw⟩ := hw_ok (L' := ak_LC) (S' := [.inl (62, 0), .inl (1, 0), wk_ref 264]) hE N3 (by rw [N1]; exact hxc) (by rw [N1, b4]; omega) hRc ak_b4
      rw [N1] at w1
      have v6 := hg_same (i := 6) (x := (61, 0)) (x' := (61, 0)) hRc hRw rfl rfl
      have v7 := hg_same (i := 7) (x := (64, 0)) (x' := (62, 0)) hRc hRw rfl rfl
      have ed1 : rd 1 = (mm : Int) := by rw [w1 1 (by omega), r1]
      have ed6 : rd 61 = (K : Int) := by
        have : rd 61 + 0 = rc 61 + 0 := v6
        omega
      have ed7 : rd 62 = ((8 * mm + K : Nat) : Int) := by
        have : rd 62 + 0 = rc 64 + 0 := v7
        omega
      have hRw : ai_Rel D tyc A s sa ws0 (ct_mt 207).2.2.1 rd adc ak_LC [.inl (62, 0), .inl (1, 0), wk_ref 264] wk_G0 Hc locsc lsc stc := hRw
      have b6 : (ls_1 wk_T 207 [92] false 79 ak_LH [] (hg_cap ak_GA 61 (0, 7))).2.2.2.2.2.1 = 0 := b6
      have b7 : (ls_1 wk_T 207 [92] false 79 ak_LH [] (hg_cap ak_GA 61 (0, 7))).2.2.2.2.2.2 = 0 := b7
      rw [b6, b7]
      have bd := ak_bd
      have c6 : (lt_rm n 206).cells = 0 := congrArg Prod.fst bd.1
      have c7 : (lt_rm n 206).slots = 0 := congrArg Prod.snd bd.1
      refine hg_callv (G := wk_G0) (Qc := ai_Qc D tyc A sa ws0 rd adc wk_E.1 336 (wk_W.map (sm_out wk_E))) ak_pl wk_pl (by omega) F ak_cd (hg_vc_ok ak_vc) hRw (by rw [c6, c7]; exact ⟨Nat.zero_le _, Nat.zero_le _⟩) (fun As hAs hWd => ?_) (fun a st0 t v rest locs1 hst0 hq hrest hFS => ?_)
      · subst hn'
        exact wk_met (cc := 8 * mm + K) hT hl hPw hWd hAs h2 h3 h4 hmm (by omega) ed1 ed7 q1 q2 q3 q4 q5
      · obtain ⟨f, hf, x, v', g1, g2, rr, aa, e1, e2, e3, e4, hW, hF, hv⟩ := hq
        unfold wk_W at hf
        simp only [List.map_cons, List.map_nil, List.mem_cons, List.not_mem_nil, or_false] at hf
        subst hf
        cases g1
        cases g2
        obtain ⟨u, rfl, hu⟩ := hv
        have hrest0 : rest = [] := by
          cases rest with
          | nil => rfl
          | cons a l => exact hrest.elim
        subst hrest0
        have e1 : ai_ext 63 rd rr := by rw [← wk_N.1]; exact e1
        obtain ⟨hWd0, hS0, hL0, hSt0⟩ := hRw.wd
        have hL1 := hL0.mono (N' := ak_GR.1.1) (n' := ak_GR.2.1.1) (r' := rr) (ad' := aa) (by rw [wk_N.2.2.1]; exact e1) (by
          have : ak_GR.2.1.1 = 336 := wk_N.2.2.2.2
          rw [this]; exact e2) (by rw [wk_N.2.2.1, N4]; omega) (Nat.le_refl _)
        have hR9 : ai_Rel D tyc A s sa ws0 (ct_mt 207).2.2.1 rr aa ak_LC [.inl (63, 0)] ak_GR t.heap locs1 lsc [u] := ai_Wd.rel (G := ak_GR) hW (hFS hF) hL1 ⟨hu, trivial⟩
        rw [c6, c7]
        have er6 : rr 61 = (K : Int) := by rw [e1 61 (by omega), ed6]
        have er7 : rr 62 = ((8 * mm + K : Nat) : Int) := by rw [e1 62 (by omega), ed7]
        refine ls_ok1 (G := ak_GR) ak_pl F hl hTn hPw ak_r0 hR9 (fun rs ads s1 s2 s3 s4 Hs locss lss sts hRs => ?_)
        obtain ⟨t1, t2, t3, t4, t5, t6, t7, t8⟩ := wk_is_ok ak_r2
        have t1 : (ls_1 wk_T 207 [103] false 95 ak_LC [.inl (63, 0)] ak_GR).1 = 103 := t1
        have t6 : (ls_1 wk_T 207 [103] false 95 ak_LC [.inl (63, 0)] ak_GR).2.2.2.2.2.1 = 0 := t6
        have t7 : (ls_1 wk_T 207 [103] false 95 ak_LC [.inl (63, 0)] ak_GR).2.2.2.2.2.2 = 0 := t7
        have hRs : ai_Rel D tyc A s sa ws0 (ct_mt 207).2.2.1 rs ads ak_R.2.1 ak_R.2.2.1 ak_R.2.2.2 Hs locss lss sts := hRs
        rw [t2, t3] at hRs
        rw [t1]
        have s1 : ai_ext 64 rr rs := by rw [N4] at s1; exact s1
        have s2 : ai_ext 336 aa ads := s2
        refine hg_iald F ak_dx (j := 8 * mm + K) (b := (ai_lo32, ai_hi32)) hRs (by omega) t8 h5 (by omega) (by show rs 62 + 0 = _; rw [s1 62 (by omega), er7]; omega) (ai_i32 _) (fun rb2 stb2 y3 y4 hRb2 => ?_)
        have y3 : ai_ext 64 rs rb2 := by
          have y3 : ai_ext ak_R.2.2.2.1.1 rs rb2 := y3
          rw [t4] at y3
          exact y3
        have nR : (hg_new ak_R.2.2.2 (ai_lo32, ai_hi32)).1.1 = 65 := by
          show ak_R.2.2.2.1.1 + 1 = 65
          rw [t4]
        have hRb3 : ai_Rel D tyc A s sa ws0 (ct_mt 207).2.2.1 rb2 ads ak_LR [.inl (64, 0)] (hg_new ak_R.2.2.2 (ai_lo32, ai_hi32)) Hs locss lss stb2 := by
          rw [← t4]
          exact hRb2
        refine ak_again (G := hg_new ak_R.2.2.2 (ai_lo32, ai_hi32)) (x := (61, 1)) F hl hret htb hTn hPw hE ak_r1 hRb3 (fun t ht => (y3 t (by omega)).trans ((s1 t (by omega)).trans ((e1 t (by omega)).trans (w1 t ht)))) (fun t ht => (s2 t ht).trans ((e2 t ht).trans (haxc t ht))) (by rw [nR]; omega) (by rw [nR]; omega) t5 (fun r2 ad2 H2 locs2 ls2 st2 i1 i2 i3 i4 => ih (K + 1) (by omega) r2 ad2 H2 locs2 ls2 st2 i1 i2 i3 (by
          rw [i4]
          show rb2 61 + 1 = _
          rw [y3 61 (by omega), s1 61 (by omega), er6]
          omega))
end AK
theorem cp_askedOfM : lt_ok 40 207 cn_askedOfM := by
  have hT : lt_all 38 wk_T := ⟨cp_two.mono (by decide), trivial⟩
  have hTn : lt_all 39 wk_T := ⟨cp_two.mono (by decide), trivial⟩
  refine lt_hand (n := 39) ak_pl (by decide +kernel) ak_L0 (by decide +kernel) (fun l D tyc A sa hl ws0 r ad hPw hE p e s m args below meth c ls F hret htb hR => ?_)
  have hR : ai_Rel D tyc A s sa ws0 (ct_mt 207).2.2.1 r ad ak_L0 [] ak_G0 s.heap [] ls [] := hR
  have hE : ai_gE r ak_E := hE
  obtain ⟨N1, N2, N3, N4⟩ := ak_N
  have hne : ws0[274]? ≠ none := by
    obtain ⟨ws, hP, hD, hS, hEE, hH, hO, hsa, hL, hSt⟩ := hR
    have e1 : ws[274]? = ws0[274]? := hH.2.2.2 274 (by
      have : ak_G0.2.1.1 = 336 := wk_N.2.2.2.2
      rw [this]; omega) (by
      have h : (ai_cell ak_h 290).isNone = true := by decide +kernel
      exact Option.isNone_iff_eq_none.mp h)
    have e2 : ws.length = 320 := by
      have h1 := hH.1.2.2
      have : ak_G0.2.1.1 = 336 := wk_N.2.2.2.2
      omega
    rw [← e1]
    intro q
    have := List.getElem?_eq_none_iff.mp q
    omega
  obtain ⟨f1, f2, f3, f4, g1, g2, g3, g4, hok⟩ := hPw.1 hne
  obtain ⟨f5, g5⟩ : ∃ f5, hg_ia tyc ws0 287 40 f5 := by
    refine hPw.2 (271, 40) (by decide) ?_
    obtain ⟨ws, hP, hD, hS, hEE, hH, hO, hsa, hL, hSt⟩ := hR
    have e1 : ws[271]? = ws0[271]? := hH.2.2.2 271 (by
      have : ak_G0.2.1.1 = 336 := wk_N.2.2.2.2
      rw [this]; omega) (by
      have h : (ai_cell ak_h 287).isNone = true := by decide +kernel
      exact Option.isNone_iff_eq_none.mp h)
    have e2 : ws.length = 320 := by
      have h1 := hH.1.2.2
      have : ak_G0.2.1.1 = 336 := wk_N.2.2.2.2
      omega
    show ws0[271]? ≠ none
    rw [← e1]
    intro q
    have := List.getElem?_eq_none_iff.mp q
    omega
  have hm : 0 ≤ r 1 ∧ r 1 ≤ 3 := by
    have := hE.2.2.2.1 (1, 0, 3) (by decide +kernel)
    exact this.2
  obtain ⟨mm, hmm⟩ : ∃ mm : Nat, r 1 = (mm : Int) := ⟨(r 1).toNat, by omega⟩
  have ef : ls_sg wk_T 207 [9, 16] false 0 ak_L0 [] ak_G0 = some ak_S0 := by
    have := ak_s1
    unfold ak_S0
    cases e : ls_sg wk_T 207 [9, 16] false 0 ak_L0 [] ak_G0 with
    | none => rw [e] at this; cases this
    | some fs => rfl
  refine ls_ok (G := ak_G0) ak_pl F hl hTn hPw ef hR (fun f hf => ?_)
  intro r1 ad1 x1 x2 x3 x4 H1 locs1 ls1 st1 hR1
  have hc := List.all_eq_true.mp ak_s2 f hf
  simp only [Bool.and_eq_true, Bool.or_eq_true, decide_eq_true_eq] at hc
  obtain ⟨c1, c2, c3, c4⟩ := hc
  have c1 := Nat.le_of_ble_eq_true c1
  have c2 := Nat.eq_of_beq_eq_true c2
  rw [c3] at hR1
  have hx : ai_ext 60 r r1 := by rw [← N1]; exact x1
  have hax : ai_ext 336 ad ad1 := by
    have : ak_G0.2.1.1 = 336 := wk_N.2.2.2.2
    rw [this] at x2; exact x2
  rcases c4 with ⟨d1, d2⟩ | ⟨d1, d2⟩
  · rw [Nat.eq_of_beq_eq_true d1]
    exact ls_fin_ok (r0 := r) (ad0 := ad) (n0 := 336) ak_pl F hl hret htb hTn hPw hE N3 d2 hR1 (by
      have h9 : ai_ext ak_E.1 r r1 := by rw [N1]; exact hx
      exact h9) hax (by
      have h9 : ak_E.1 ≤ f.2.2.2.1.1 := by rw [N1]; exact c1
      exact h9) (by rw [c2]; exact Nat.le_refl _)
  · rw [Nat.eq_of_beq_eq_true d1]
    refine ak_again (x := (0, 0)) F hl hret htb hTn hPw hE d2 hR1 hx hax c1 (by show 0 < f.2.2.2.1.1; omega) c2 (fun r2 ad2 H2 locs2 ls2 st2 i1 i2 i3 i4 => ?_)
    exact ak_loop (n' := 38) rfl F hl hret htb hT hPw hE g1 g2 g3 g4 g5 hok (mm := mm) (by omega) hmm 9 0 (by omega) r2 ad2 H2 locs2 ls2 st2 i1 i2 i3 (by
      rw [i4]
      show r1 0 + 0 = _
      rw [hR1.env.1]
      rfl)
