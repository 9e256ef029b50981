/-! THE PARSER: readClause: the walk -/
noncomputable def cl_Q (D : va_G) (tyc : Nat → ClassId) (A : Nat → Prop) (sa : ai_B) (ws : va_W) (r : Nat → Int) (ad : Nat → Nat) : Array Value → State → Outcome → State → Prop := fun _ st o t => ∃ (ws' : va_W) (f1' f2' f3' g' : Nat → Int32) (r' : Nat → Int), o = .returned none ∧ cl_sm ws ws' ∧ cl_W tyc ws' f1' f2' f3' g' ∧ ai_Wd D tyc A sa ws' r' ad (pz_E, pz_h, 0, 0) t.heap ∧ (r' 14 = 0 → cl_I r' f1' f2' f3' g' ∧ r 12 < r' 12) ∧ pz_fx r r' ∧ va_F A st t
theorem pz_fx.bad {r r1 : Nat → Int} {v : Int} (h : ∀ t, 1 ≤ t → t < 44 → ([(14, (0, v)), (15, (12, 0))] : List (Nat × ai_X)).all (fun q => !(Nat.beq q.1 t)) = true → r1 t = r t) : pz_fx r r1 := fun t h1 h2 h3 => h t h1 h2 (pz_ne2n h3)
/-- the number 44 of one value: named by it, and dropped -/
theorem ck_flag {D : va_G} {tyc : Nat → ClassId} {A : Nat → Prop} {s : State} {sa : ai_B} {ws : va_W} {nL : Nat} {r : Nat → Int} {ad : Nat → Nat} {H : Heap} {locs : List Loc} {ls : Array Slot} {st : List Value} {fl : Int} (hR : ai_Rel D tyc A s sa ws nL r ad ck_Lx [.inl (0, 4), ck_r] (pz_G [(fl, fl)]) H locs ls st) : ai_Rel D tyc A s sa ws nL r ad (ck_L fl) [.inl (0, 4), ck_r] (pz_G []) H locs ls st := by
  have hb := (hR.env.2.2.2.1 (44, fl, fl) (by
    have hm : (44, (fl, fl)) ∈ sm_nb pz_E.1 [(fl, fl)] := by
      rw [pz_N.1]
      exact List.mem_cons_self
    exact List.mem_append_left _ hm)).2
  have hv : r 44 = fl := by
    obtain ⟨h1, h2⟩ := hb
    have h1 : fl ≤ r 44 := h1
    have h2 : r 44 ≤ fl := h2
    omega
  have hR1 : ai_Rel D tyc A s sa ws nL r ad (ck_L fl) [.inl (0, 4), ck_r] (pz_G [(fl, fl)]) H locs ls st := pz_reloc hR rfl (fun i => match i with
    | 0 => Or.inl rfl
    | 1 => Or.inr ⟨(44, 0), (0, fl), rfl, rfl, by
        rw [pz_cst hR.env.1]
        show fl = r 44 + 0
        rw [hv, Int.add_zero], by show 0 < pz_E.1 + 1; omega⟩
    | 2 => Or.inl rfl
    | n + 3 => Or.inl rfl)
  exact pz_drop (fun a ha => by
    simp only [ck_L, List.mem_cons, List.not_mem_nil, or_false] at ha
    rcases ha with rfl | rfl | rfl
    · exact (show 264 < 336 by omega)
    · exact (show 0 < 44 by omega)
    · trivial) (fun a ha => by
    simp only [List.mem_cons, List.not_mem_nil, or_false] at ha
    rcases ha with rfl | rfl
    · exact (show 0 < 44 by omega)
    · exact (show 286 < 336 by omega)) hR1
set_option maxHeartbeats 4000000 in
theorem pz_clause (l : Launch) (D : va_G) (tyc : Nat → ClassId) (A : Nat → Prop) (sa : ai_B) (hl : l.stackTraces = false) (ws : va_W) (f1 f2 f3 g : Nat → Int32) (r : Nat → Int) (ad : Nat → Nat) (H0 : Heap) (hC : cl_W tyc ws f1 f2 f3 g) (hWd : ai_Wd D tyc A sa ws r ad (pz_E, pz_h, 0, 0) H0) (h14 : r 14 = 0) (hI : cl_I r f1 f2 f3 g) :
    vx_Met l (ct_mt 202).1 (ai_cw (ct_mt 202) :: ft_W) (lt_rm 88 202) (fun a U => a = (Value.ref (ad 264) :: ([] : List Int32).map Value.int).toArray ∧ U.heap = H0 ∧ ai_St D tyc A sa ct_strs ft_N U ∧ ∀ z, H0.size ≤ z → A z) (cl_Q D tyc A sa ws r ad) (fun _ _ _ => False) (lt_rm 88 202).cells (lt_rm 88 202).slots A := by
  obtain ⟨⟨l1, l2, l3, l4, l5, l6, l7, l8⟩, ⟨b1, b2, b3, b4, b5, b6, b7, b8⟩, ⟨n1, n2, n3, n4, n5, n6, n7, n8⟩, v1q, v3, v4, v5, v6, v7, v8⟩ := pz_pl
  obtain ⟨c1, c2, c3, c4, d53, d124, d65, d35, d74, d77, d92, d102, d117⟩ := ck_pl
  obtain ⟨t55, t105, t121⟩ := ck_kc
  obtain ⟨o1, o2, o3, o4⟩ := pz_offs
  have o1 := Option.isNone_iff_eq_none.mp o1
  have o2 := Option.isNone_iff_eq_none.mp o2
  have o3 := Option.isNone_iff_eq_none.mp o3
  have hE : ai_gE r pz_E := by
    obtain ⟨ws2, -, -, q, -⟩ := hWd
    exact q
  obtain ⟨r0, hx, hE1, hA1, -⟩ := pz_in0 (tail := []) rfl r ad hE
  refine pz_newG (n := 87) (nb := []) (aa := [pz_this]) (L0 := [pz_this, pz_u, pz_u]) (vs := []) (Qc := cl_Q D tyc A sa ws r ad) c1 (by rw [c3]; rfl) hWd hx hE1 hA1 (fun p e s m args below meth c ls F hret hR => ?_)
  have hx1 : ∀ t, 1 ≤ t → t < 44 → r0 t = r t := fun t _ h2 => hx t h2
  have hb := pz_bd (nb := []) hR.env
  have e14 := hx 14 (by omega)
  have e9 := hx 9 (by omega)
  obtain ⟨I1, I2, I3⟩ := hI
  have hI1 := I1
  obtain ⟨i1, i2, i3, i4, i5⟩ := hI1
  have eN : (pz_G []).1.1 = 44 := pz_N.1
  -- it ends badly
  have bad : ∀ (v : Int), v ≠ 0 → ∀ (r1 : Nat → Int), (∀ t, 1 ≤ t → t < 44 → r1 t = r t) → ∀ f : ai_F, ck_bad v f = true → ∀ (r' : Nat → Int) (ad' : Nat → Nat), ai_ext 44 r1 r' → ai_ext 336 ad ad' → ∀ (H' : Heap) (locs' : List Loc) (ls' : Array Slot) (st' : List Value), ai_Rel D tyc A s sa ws (ct_mt 202).2.2.1 r' ad' f.2.1 f.2.2.1 f.2.2.2 H' locs' ls' st' → W p l e (lt_rm (87 + 1) 202) s m args below meth c H' locs' f.2.2.2.2.2.1 f.2.2.2.2.2.2 (vx_MQ below (cl_Q D tyc A sa ws r ad) (fun _ _ _ => False) args s (lt_rm (87 + 1) 202).cells (lt_rm (87 + 1) 202).slots A) (F0 m f.1 ls' st') := fun v hv r1 hr1 f hf r' ad' x1 x2 H' locs' ls' st' hR' => by
    obtain ⟨e1, e2, e3, r3, hR3, u1, u2⟩ := pz_to_ok hf x2 hR'
    rw [e1, e2, e3]
    have w14 : r3 14 = v := by
      have : r3 14 = r' 0 + v := u2 _ List.mem_cons_self
      rw [this, hR'.env.1]
      omega
    refine pz_retG F hret d53 c4 hR3 (fun t hw hF => ⟨ws, f1, f2, f3, g, r3, rfl, cl_sm.rf, hC, hw, fun q => absurd (w14.symm.trans q) hv, ?_, hF⟩)
    exact fun t h1 h2 h3 => (pz_fx.bad u1 t h1 h2 h3).trans ((x1 t h2).trans (hr1 t h1 h2))
  -- it goes on
  have main : ∀ fl : Int, ck_ks fl = true → r 9 ≠ 0 → ∀ (r1 : Nat → Int) (H : Heap) (locs : List Loc) (ls : Array Slot) (st : List Value), (∀ t, 1 ≤ t → t < 44 → r1 t = r t) → ai_Rel D tyc A s sa ws (ct_mt 202).2.2.1 r1 ad (ck_L fl) [.inl (0, 4), ck_r] (pz_G []) H locs ls st → W p l e (lt_rm (87 + 1) 202) s m args below meth c H locs 0 0 (vx_MQ below (cl_Q D tyc A sa ws r ad) (fun _ _ _ => False) args s (lt_rm (87 + 1) 202).cells (lt_rm (87 + 1) 202).slots A) (F0 m 35 ls st) := by
    intro fl hk h9 r1 H locs ls st hr1 hR1
    unfold ck_ks at hk
    simp only [Bool.and_eq_true] at hk
    obtain ⟨K1, K2, K3, K4, K5, K6a, K6, K7, K8, K9⟩ := hk
    have i5 := i5 h9
    refine hg_iald (b := (0, 8)) F d35 hR1 (by omega) o1 hC.1 (j := 4) (by omega) (pz_cst hR1.env.1 4) ⟨I3.1.1, I3.1.2⟩ (fun r2 st2 x1 x2 hR2 => ?_)
    rw [eN] at x1 x2 hR2
    have hR2 : ai_Rel D tyc A s sa ws (ct_mt 202).2.2.1 r2 ad (ck_L fl) [.inl (44, 0)] (pz_G ck_b8) H locs ls st2 := hR2
    have v2 : ∀ t, 1 ≤ t → t < 44 → r2 t = r t := fun t h1 h2 => (x1 t h2).trans (hr1 t h1 h2)
    have w14 := v2 14 (by omega) (by omega)
    have caps : ∀ lo hi : Int, lo ≤ r2 44 → r2 44 ≤ hi → ∀ q ∈ ([(44, (lo, hi)), (14, (0, 0))] : List (Nat × Int × Int)), q.1 < 44 + ck_b8.length ∧ q.2.1 ≤ r2 q.1 ∧ r2 q.1 ≤ q.2.2 := fun lo hi k1 k2 q hq => by
      rcases List.mem_cons.mp hq with rfl | hq
      · exact ⟨by show 44 < 45; omega, k1, k2⟩
      · rcases List.mem_cons.mp hq with rfl | hq
        · exact ⟨by show 14 < 45; omega, by show (0 : Int) ≤ r2 14; omega, by show r2 14 ≤ (0 : Int); omega⟩
        · cases hq
    by_cases q8 : (f1 4).toInt = 8
    · exact pz_seg (k0 := 0) K1 c1 F hl (show lt_all 0 [] from trivial) (by omega) hC.pz hR2 (caps 8 8 (by omega) (by omega)) (fun f hf r' ad' y1 y2 => bad 2 (by omega) r2 v2 f hf r' ad' (ai_ext.mono y1 (by omega)) y2)
    · have h7 : (f1 4).toInt ≤ 7 := by
        have := I3.1.2
        omega
      have h0 := I3.1.1
      refine pz_seg (k0 := 0) K2 c1 F hl (show lt_all 0 [] from trivial) (by omega) hC.pz hR2 (caps 0 7 (by omega) (by omega)) (fun f hf r2' ad2 y1 y2 H2 locs2 ls2 st2 hR2' => ?_)
      obtain ⟨e1, e2, e3, r3, hR3, u1, u2⟩ := pz_to_ok hf y2 hR2'
      rw [e1, e2, e3]
      have v3 : ∀ t, 1 ≤ t → t < 44 → r3 t = r t := fun t h1 h2 => (u1 t h1 h2 rfl).trans ((y1 t (by show t < 45; omega)).trans (v2 t h1 h2))
      -- step
      refine pz_callv (xs := []) c1 em_k.2.1 (by omega) em_k.2.2.2.1 F hl t55 hC.pz hR3 rfl rfl (fun vs hvs => ?_) trivial (Pre := fun _ _ => True) (Post := sq_Post) (fun ws4 g4 r4' H4 locs4 st4 m1 m2 m3 hR4 => ?_)
      · rw [pz_nil hvs]
        exact pz_step.mono (by omega)
      have sf := pz_fx.sq m3
      obtain ⟨z1, z2, z3, z4⟩ := m3
      rw [z1] at m2
      have C4 := hC.sm m1 m2
      refine pz_seg (k0 := 0) K3 c1 F hl (show lt_all 0 [] from trivial) (by omega) C4.pz hR4 (fun q hq => by cases hq) (fun f hf r5' ad5 y1 y2 H5 locs5 ls5 st5 hR5' => ?_)
      obtain ⟨e1, e2, e3, r5, hR5, u3, u4⟩ := pz_to_ok hf y2 hR5'
      rw [e1, e2, e3]
      have v5 : ∀ t, 1 ≤ t → t < 44 → r5 t = r4' t := fun t h1 h2 => (pz_un y1 u3 t h1 h2).trans (pz_mixv h2)
      refine hg_iald (b := (0, 7)) F d65 hR5 (by omega) o1 C4.1 (j := 4) (by omega) (pz_cst hR5.env.1 4) ⟨h0, h7⟩ (fun r6 st6 x1 x2 hR6 => ?_)
      rw [eN] at x1 x2 hR6
      have hR6 : ai_Rel D tyc A s sa ws4 (ct_mt 202).2.2.1 r6 ad (ck_L fl) [.inl (44, 0), .inl (0, 32)] (pz_G ck_b7) H5 locs5 ls5 st6 := hR6
      refine pz_seg (k0 := 0) K4 c1 F hl (show lt_all 0 [] from trivial) (by omega) C4.pz hR6 (fun q hq => by cases hq) (fun f hf r7' ad7 y3 y4 H7 locs7 ls7 st7 hR7' => ?_)
      obtain ⟨e1, e2, e3, r7, hR7, u5, u6⟩ := pz_to_ok hf y4 hR7'
      rw [e1, e2, e3]
      have y3 : ai_ext 45 r6 r7' := y3
      have v7 : ∀ t, 1 ≤ t → t < 44 → r7 t = r4' t := fun t h1 h2 => (u5 t h1 h2 (pz_all1 h2)).trans ((y3 t (by omega)).trans ((x1 t h2).trans (v5 t h1 h2)))
      have w7 : r7 44 = (f1 4).toInt + 32 := by
        have : r7 44 = r7' 44 + 32 := u6 _ List.mem_cons_self
        rw [this, y3 44 (by omega), x2]
      refine hg_iald2 (x := (44, -32)) F d74 hR7 (by omega) o1 C4.1 (j := 4) (by omega) (pz_cst hR7.env.1 4) (by show 44 < pz_E.1 + 1; rw [pz_N.1]; omega) (by show r7 44 + -32 = _; rw [w7]; omega) (fun st7b hR7b => ?_)
      refine pz_seg (k0 := 0) K5 c1 F hl (show lt_all 0 [] from trivial) (by omega) C4.pz hR7b (fun q hq => by cases hq) (fun f hf r8' ad8 y5 y6 H8 locs8 ls8 st8 hR8' => ?_)
      obtain ⟨e1, e2, e3, r8, hR8, u7, u8⟩ := pz_to_ok hf y6 hR8'
      rw [e1, e2, e3]
      have y5 : ai_ext 45 r7 r8' := y5
      have v8' : ∀ t, 1 ≤ t → t < 44 → r8 t = r4' t := fun t h1 h2 => (u7 t h1 h2 (pz_ne2 (by omega) (by omega))).trans ((y5 t (by omega)).trans (v7 t h1 h2))
      have w8 : r8 44 = (f1 4).toInt + 32 := by
        have : r8 44 = r8' 44 + 0 := u8 _ List.mem_cons_self
        rw [this, Int.add_zero, y5 44 (by omega), w7]
      have w8b : r8 45 = (f1 4).toInt + 1 := by
        have : r8 45 = r8' 44 + -31 := u8 _ (List.mem_cons_of_mem _ List.mem_cons_self)
        rw [this, y5 44 (by omega), w7]
        omega
      -- one clause more
      refine hg_iast (v := (45, 0)) F d77 hR8 (by omega) o1 C4.1 (j := 4) (by omega) (pz_cst hR8.env.1 4) (fun ws8 H8b locs8b st8b f1' q1 q2 q3 q4 hR8b => ?_)
      have C8 := cl_set1 C4 q1 q3 q4
      have s8 := (cl_sm.pz m1).tr (cl_sm.ne (q := 286) (Or.inl rfl) q4)
      have q2 : (f1' 4).toInt = (f1 4).toInt + 1 := by
        rw [q2]
        show r8 45 + 0 = _
        rw [w8b, Int.add_zero]
      refine pz_seg (k0 := 0) K6a c1 F hl (show lt_all 0 [] from trivial) (by omega) C8.pz hR8b (fun q hq => by cases hq) (fun f hf ra' ada y7 y8 Ha locsa lsa sta hRa' => ?_)
      obtain ⟨e1, e2, e3, ra, hRa, ua, ub⟩ := pz_to_ok hf y8 hRa'
      rw [e1, e2, e3]
      have y7 : ai_ext 46 r8 ra' := y7
      have va : ∀ t, 1 ≤ t → t < 44 → ra t = r4' t := fun t h1 h2 => (ua t h1 h2 (pz_all1 h2)).trans ((y7 t (by omega)).trans (v8' t h1 h2))
      have wa : ra 44 = (f1 4).toInt + 32 := by
        have : ra 44 = ra' 44 + 0 := ub _ List.mem_cons_self
        rw [this, Int.add_zero, y7 44 (by omega), w8]
      obtain ⟨fi, hfi⟩ := C8.2.2.2.2.2
      refine hg_iast (v := (0, 1 - fl)) F d92 hRa (by omega) (Option.isNone_iff_eq_none.mp pz_off2.1) hfi (j := 32 + (f1 4).toInt.toNat) (by omega) (by show ra 44 + 0 = _; rw [wa]; omega) (fun wsa Hab locsab stab fi' a1 a2 a3 a4 hRab => ?_)
      have Ca := cl_set0 C8 a1 a4
      have sa8 := s8.tr (cl_sm.ne (q := 287) (Or.inr (Or.inr (Or.inr (Or.inr rfl)))) a4)
      refine pz_seg (k0 := 0) K6 c1 F hl (show lt_all 0 [] from trivial) (by omega) Ca.pz hRab (fun q hq => by cases hq) (fun f hf r9' ad9 y7 y8 H9 locs9 ls9 st9 hR9' => ?_)
      obtain ⟨e1, e2, e3, r9, hR9, u9, u10⟩ := pz_to_ok hf y8 hR9'
      rw [e1, e2, e3]
      have y7 : ai_ext 45 ra r9' := y7
      have v9 : ∀ t, 1 ≤ t → t < 44 → r9 t = r4' t := fun t h1 h2 => (u9 t h1 h2 (pz_all1 h2)).trans ((y7 t (by omega)).trans (va t h1 h2))
      have w9 : r9 44 = (f1 4).toInt + 32 := by
        have : r9 44 = r9' 44 + 0 := u10 _ List.mem_cons_self
        rw [this, Int.add_zero, y7 44 (by omega), wa]
      refine hg_iast (v := (17, 0)) F d102 hR9 (by omega) o2 Ca.2.1 (j := 32 + (f1 4).toInt.toNat) (by omega) (by show r9 44 + 0 = _; rw [w9]; omega) (fun ws9 H9b locs9b st9b f2' p1 p2 p3 p4 hR9b => ?_)
      have C9 := cl_set2 Ca p1 (by omega) p3 p4
      have s9 := sa8.tr (cl_sm.ne (q := 288) (Or.inr (Or.inl rfl)) p4)
      have p2 : (f2' (32 + (f1 4).toInt.toNat)).toInt = r9 17 := by
        rw [p2]
        exact Int.add_zero _
      refine pz_seg (k0 := 0) K7 c1 F hl (show lt_all 0 [] from trivial) (by omega) C9.pz hR9b (fun q hq => by cases hq) (fun f hf r10' ad10 y9 y10 H10 locs10 ls10 st10 hR10' => ?_)
      obtain ⟨e1, e2, e3, r10, hR10, u11, u12⟩ := pz_to_ok hf y10 hR10'
      rw [e1, e2, e3]
      have y9 : ai_ext 45 r9 r10' := y9
      have v10 : ∀ t, 1 ≤ t → t < 44 → r10 t = r4' t := fun t h1 h2 => (u11 t h1 h2 (pz_all1 h2)).trans ((y9 t (by omega)).trans (v9 t h1 h2))
      have w10 : r10 44 = (f1 4).toInt + 32 := by
        have : r10 44 = r10' 44 + 0 := u12 _ List.mem_cons_self
        rw [this, Int.add_zero, y9 44 (by omega), w9]
      have g14 : r10 14 = 0 := by rw [v10 14 (by omega) (by omega), z2 14 (by omega) (by omega) rfl, v3 14 (by omega) (by omega)]; exact h14
      have g17 : r10 17 = r 17 := by rw [v10 17 (by omega) (by omega), z2 17 (by omega) (by omega) rfl, v3 17 (by omega) (by omega)]
      have g12 : r 12 + 1 ≤ r10 12 := by
        rw [v10 12 (by omega) (by omega)]
        have := v3 7 (by omega) (by omega)
        omega
      -- the expression
      refine pz_callv (xs := [(0, .ofNat 0)]) c1 l8 (by omega) b8 F hl t105 C9.pz hR10 rfl rfl (fun vs hvs => pz_expr0 vs (hvs.trans ?_)) (fun _ => ⟨rfl, pz_I_cg z3 v10, by omega⟩) (Pre := pz_XP true) (Post := pz_X 36) (fun ws11 g11 r11' H11 locs11 st11 k1 k2 k3 hR11 => ?_)
      · show [ai_vx r10 (0, .ofNat 0)] = [.ofNat 0]
        rw [pz_cst hR10.env.1]
      obtain ⟨⟨ka, kf⟩, kb⟩ := k3.2 g14
      have C11 := C9.sm k1 k2
      have s11 := s9.tr (cl_sm.pz k1)
      refine pz_seg (k0 := 0) K8 c1 F hl (show lt_all 0 [] from trivial) (by omega) C11.pz hR11 (fun q hq => by cases hq) (fun f hf r12' ad12 y11 y12 H12 locs12 ls12 st12 hR12' => ?_)
      obtain ⟨e1, e2, e3, r12, hR12, u13, u14⟩ := pz_to_ok hf y12 hR12'
      rw [e1, e2, e3]
      have y11 : ai_ext 45 (pz_mix r11' r10) r12' := y11
      have v12 : ∀ t, 1 ≤ t → t < 44 → r12 t = r11' t := fun t h1 h2 => (u13 t h1 h2 (pz_all1 h2)).trans ((y11 t (by omega)).trans (pz_mixv h2))
      have w12 : r12 44 = (f1 4).toInt + 32 := by
        have : r12 44 = r12' 44 + 0 := u14 _ List.mem_cons_self
        rw [this, Int.add_zero, y11 44 (by omega), pz_mix_hi (by omega), w10]
      refine hg_iast (v := (17, 0)) F d117 hR12 (by omega) o3 C11.2.2.1 (j := 32 + (f1 4).toInt.toNat) (by omega) (by show r12 44 + 0 = _; rw [w12]; omega) (fun ws12 H12b locs12b st12b f3' j1 j2 j3 j4 hR12b => ?_)
      have C12 := cl_set3 C11 j1 (by omega) j3 j4
      have s12 := s11.tr (cl_sm.ne (q := 289) (Or.inr (Or.inr (Or.inl rfl))) j4)
      have j2 : (f3' (32 + (f1 4).toInt.toNat)).toInt = r12 17 := by
        rw [j2]
        exact Int.add_zero _
      refine pz_seg (k0 := 0) K9 c1 F hl (show lt_all 0 [] from trivial) (by omega) C12.pz hR12b (fun q hq => by cases hq) (fun f hf r13' ad13 y13 y14 H13 locs13 ls13 st13 hR13' => ?_)
      obtain ⟨e1, e2, e3, r13, hR13, u15, u16⟩ := pz_to_ok hf y14 hR13'
      rw [e1, e2, e3]
      have y13 : ai_ext 45 r12 r13' := y13
      have v13 : ∀ t, 1 ≤ t → t < 44 → r13 t = r11' t := fun t h1 h2 => (u15 t h1 h2 rfl).trans ((y13 t (by omega)).trans (v12 t h1 h2))
      have q14 := v13 14 (by omega) (by omega)
      refine pz_callv (xs := [(0, .ofNat 59)]) c1 l1 (by omega) b1 F hl t121 C12.pz hR13 rfl rfl (fun vs hvs => (pz_need nd_k.2.1 (by omega) vs (hvs.trans ?_)).mono (by omega)) (Pre := nd_Pre) (Post := nd_Post) (fun q => pz_I_cg (kb (by omega)).1 v13) (fun ws14 g14 r14' H14 locs14 st14 n1 n2 n3 hR14 => ?_)
      · show [ai_vx r13 (0, .ofNat 59)] = [.ofNat 59]
        rw [pz_cst hR13.env.1]
      obtain ⟨N1, N2, N3, N4⟩ := n3
      have C14 := C12.sm n1 n2
      have vm : ∀ t, 1 ≤ t → t < 44 → pz_mix r14' r13 t = r14' t := fun t _ h2 => pz_mixv h2
      have hb14 := pz_bd (nb := []) hR14.env
      refine pz_retG F hret d124 c4 hR14 (fun t hw hF => ⟨ws14, f1', f2', f3', g14, pz_mix r14' r13, rfl, s12.tr (cl_sm.pz n1), C14, hw, fun q => ?_, ?_, hF⟩)
      · have m14 := vm 14 (by omega) (by omega)
        have m17 := vm 17 (by omega) (by omega)
        have m12 := vm 12 (by omega) (by omega)
        have x14 : r13 14 = 0 := by
          by_cases z : r13 14 = 0
          · exact z
          · have := N2 z 14 (by omega) (by omega)
            omega
        obtain ⟨w1, w2, w3⟩ := N3 x14 (by omega)
        obtain ⟨y1, y2, y3, y4, y5⟩ := kb (by omega)
        have p17 := v13 17 (by omega) (by omega)
        have p12 := v13 12 (by omega) (by omega)
        have a17 := v12 17 (by omega) (by omega)
        have a9 := v9 17 (by omega) (by omega)
        have a10 := v10 17 (by omega) (by omega)
        have hb0 := hb.2.2.2.2.2.2
        have e17 := hx 17 (by omega)
        refine ⟨⟨pz_I_cg w1 vm, by omega, ?_⟩, by omega⟩
        refine cl_ok.add I3 h7 q2 p3 j3 ?_ ?_ (by omega) (by omega) (fun q hq => ?_) ?_
        · rw [p2]
          omega
        · rw [j2]
          omega
        · rw [N1]
          exact ka q (by omega)
        · have ec : (pz_mix r14' r13 17).toNat = (r11' 17).toNat := by omega
          rw [ec, N1, ← g17]
          exact y5
      · exact (((((pz_fx.al v3).tr sf).cg v10).tr kf).cg v13).tr N4 |>.cg vm
  by_cases q0 : r 9 = 0
  · exact pz_seg (k0 := 0) ck_k0 c1 F hl (show lt_all 0 [] from trivial) (by omega) hC.pz hR (pz_cap2 (by omega) (by omega) (by omega)) (fun f hf r' ad' x1 x2 => bad 1 (by omega) r0 hx1 f hf r' ad' x1 x2)
  · by_cases q1 : r 9 = 1
    · refine pz_seg ck_k1 c1 F hl pz_Tis_ok (by omega) hC.pz hR (pz_cap2 (by omega) (by omega) (by omega)) (fun f hf r' ad' x1 x2 H' locs' ls' st' hR' => ?_)
      unfold ck_c0 at hf
      rw [Bool.or_eq_true, Bool.or_eq_true] at hf
      rcases hf with hf | hf | hf
      · exact bad 1 (by omega) r0 hx1 f hf r' ad' x1 x2 H' locs' ls' st' hR'
      · obtain ⟨e1, e2, e3, r3, hR3, u1, u2⟩ := pz_to_ok hf x2 hR'
        rw [e1, e2, e3]
        exact main 0 ck_kk0 q0 r3 H' locs' ls' st' (fun t h1 h2 => (pz_un x1 u1 t h1 h2).trans (hx1 t h1 h2)) (ck_flag hR3)
      · obtain ⟨e1, e2, e3, r3, hR3, u1, u2⟩ := pz_to_ok hf x2 hR'
        rw [e1, e2, e3]
        exact main 1 ck_kk1 q0 r3 H' locs' ls' st' (fun t h1 h2 => (pz_un x1 u1 t h1 h2).trans (hx1 t h1 h2)) (ck_flag hR3)
    · exact pz_seg (k0 := 0) ck_k2 c1 F hl (show lt_all 0 [] from trivial) (by omega) hC.pz hR (pz_cap2 (by omega) (by omega) (by omega)) (fun f hf r' ad' x1 x2 => bad 1 (by omega) r0 hx1 f hf r' ad' x1 x2)
