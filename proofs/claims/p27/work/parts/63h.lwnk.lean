/-! LMModel.minutes -/
noncomputable def nf_r0 (r : Nat → Int) : Nat → Int := fun t => if t = 71 then 0 else r t
noncomputable def mf_Lp (x : ai_V) : List ai_V := [.inr (.inr (some (some 264))), .inl (399, 0), x]
noncomputable def mf_GX : ai_G := hk_df (lx_sp 101 (.ofNat 1) (hg_new nf_Gr (0, 1000))) (0, 401, (105, 0), (399, 0))
noncomputable def mf_P9 : List (Nat × Nat × Nat) := [(71, 264, 1), (101, 264, 87), (400, 0, 2)]
noncomputable def mf_c9 (f : ai_F) : Bool := (Nat.beq f.1 45 && cy_z f) && (nf_ck nf_hr [] mf_P9 (mf_Lp (.inl (400, 0))) f && (cx_q (cx_im (lx_jW [] mf_P9 f) (71, 0)) (0, .ofNat 0) && (cx_q (cx_im (lx_jW [] mf_P9 f) (101, 0)) (0, .ofNat 1) && cx_q (cx_im (lx_jW [] mf_P9 f) (400, 0)) (0, .ofNat 0))))
noncomputable def mf_c5 (f : ai_F) : Bool := (Nat.beq f.1 50 && cy_z f) && nf_ck nf_hr [] [] (mf_Lp (.inl (400, 0))) f
noncomputable def mf_c6 (f : ai_F) : Bool := (Nat.beq f.1 51 && cy_z f) && ((hy_heq f.2.2.2.2.1 nf_hr && nf_qE f.2.2.2.1) && (decide (f.2.1 = mf_Lp (.inl (400, 0))) && cy_vk 246 51 245 f.2.2.2.2.1 f.2.2.1 [.inr (.inr (some (some 264)))] []))
noncomputable def mf_c7 (f : ai_F) : Bool := (Nat.beq f.1 45 && cy_z f) && (nf_ck nf_hr [] [(400, 0, 2)] (mf_Lp (.inl (400, 0))) f && cx_q (cx_im (lx_jW [] [(400, 0, 2)] f) (400, 0)) (400, 1))
noncomputable def mf_c8 (f : ai_F) : Bool := (Nat.beq f.1 64 && cy_z f) && (hy_heq f.2.2.2.2.1 nf_hr && decide (f.2.2.1 = [.inl (106, 0)]))
theorem mf_plp : lh_plain 246 = true := by decide +kernel
theorem mf_wfp : nf_wf nf_hr (mf_Lp (.inl (400, 0))) = true := by decide +kernel
theorem mf_k9 : lz_chk [] 246 [45] false 0 (mf_Lp (.inr (.inr none))) [] mf_GX mf_c9 = true := by decide +kernel
theorem mf_k5 : lz_chk [] 246 [50] false 45 (mf_Lp (.inl (400, 0))) [] (hk_df nf_Gr nf_lt) mf_c5 = true := by decide +kernel
theorem mf_k6 : lz_chk [] 246 [51] false 50 (mf_Lp (.inl (400, 0))) [] nf_Gr mf_c6 = true := by decide +kernel
theorem mf_k7 : lz_chk [] 246 [45] false 54 (mf_Lp (.inl (400, 0))) [] (hg_cap nf_Gr 400 (0, 999)) mf_c7 = true := by decide +kernel
theorem mf_k8 : lz_chk [] 246 [64] false 45 (mf_Lp (.inl (400, 0))) [] (hk_df nf_Gr nf_ge) mf_c8 = true := by decide +kernel
theorem mf_irp : fc_ir 246 64 = true := by decide +kernel
section MFK
variable {p : Program} {l : Launch} {e : Env} {s : State} {m : MethodId} {args : Array Value} {below : List Frame} {meth : Method} {c : Code}
variable {D : va_G} {tyc : Nat → ClassId} {A : Nat → Prop} {sa : ai_B} {ws : va_W} {n : Nat}
variable {r : Nat → Int} {ad : Nat → Nat}
set_option maxHeartbeats 8000000 in
theorem mf_loop (hn : 4 ≤ n) (hl : l.stackTraces = false) (hPw : ai_Pw tyc ws) (F : ls_Fr p (lt_rm (n + 2) 246) s m args meth c D tyc A sa 246) (hret : meth.sig.returnType = (ct_mt 246).2.2.2.1) (hnn : 0 ≤ r 399 ∧ 0 ≤ r 105 ∧ r 105 + r 399 ≤ 1000) {k : Nat} (hk : r 399 = (k : Int)) (hJ : nf_J r) (hC : 0 ≤ r 108) :
    ∀ (d i : Nat) (ad' : Nat → Nat) (H : Heap) (locs : List Loc) (ls : Array Slot), k - i = d → i ≤ k → ai_Rel D tyc A s sa ws (ct_mt 246).2.2.1 (nf_i (nf_it i r) i) ad' (mf_Lp (.inl (400, 0))) [] nf_Gr H locs ls [] → ai_ext 336 ad ad' →
      W p l e (lt_rm (n + 2) 246) s m args below meth c H locs 0 0 (vx_MQ below (nf_Qp D tyc A sa ws r ad nf_hr k) (fun _ _ _ => False) args s (lt_rm (n + 2) 246).cells (lt_rm (n + 2) 246).slots A) (F0 m 45 ls []) := by
  have hN := nf_EN.1
  obtain ⟨-, -, -, bu4⟩ := nf_bud2
  intro d
  induction d with
  | zero =>
    intro i ad' H locs ls hd hi hR hax
    have ei : k = i := by omega
    have hE := hR.env
    have e1 : nf_i (nf_it i r) i 399 = (i : Int) := by
      rw [nf_iK (by decide), nf_itK (by decide) (by decide) i, hk, ei]
    have e2 : nf_i (nf_it i r) i 400 = (i : Int) := if_pos rfl
    have hR2 := hk_le hR (x := (399, 0)) (y := (400, 0)) ⟨by show 399 < nf_E.1; rw [hN]; omega, by show 400 < nf_E.1; rw [hN]; omega⟩ (by
      show nf_i (nf_it i r) i 399 + 0 ≤ nf_i (nf_it i r) i 400 + 0
      rw [e1, e2]
      exact Int.le_refl _)
    refine lh_ok (n := n + 1) (G := hk_df nf_Gr nf_ge) (k0 := 0) (T := []) mf_plp F hl trivial (by omega) hPw mf_k8 hR2 (fun f hf r1 ad1 x1 x2 x3 x4 H1 locs1 ls1 st1 hR1 => ?_)
    have x1 : ai_ext nf_E.1 (nf_i (nf_it i r) i) r1 := x1
    have x2 : ai_ext 336 ad' ad1 := x2
    unfold mf_c8 at hf
    simp only [Bool.and_eq_true, decide_eq_true_eq] at hf
    obtain ⟨⟨f1, f2⟩, f3, f4⟩ := hf
    obtain ⟨z1, z2⟩ := cy_z_ok f2
    have f3 := hy_heq_ok f3
    rw [f4] at hR1
    rw [Nat.eq_of_beq_eq_true f1]
    refine lh_iret (n := n + 1) (G := f.2.2.2) (x := (106, 0)) F mf_plp hret mf_irp hR1 ⟨by rw [z1]; exact Nat.zero_le _, by rw [z2]; exact Nat.zero_le _⟩ (fun T i1 hi1 hWdT hF => ⟨i1, nf_i (nf_it i r) i, rfl, ?_, fun t ht => ?_, ?_, hF⟩)
    · rw [hi1, nf_v, x1 _ (by rw [hN]; omega), nf_iK (by decide), ei]
    · rw [nf_iK (by omega), ei]
    · refine nf_bk mf_whc rfl hax ?_
      exact cy_back (E := nf_E) (h := nf_hr) (E' := f.2.2.2.1) (h' := f.2.2.2.2.1) (by rw [hN]; exact mf_whc) f3 hE x1 x2 hWdT
  | succ d ih =>
    intro i ad' H locs ls hd hi hR hax
    have hE : ai_gE (nf_i (nf_it i r) i) nf_E := hR.env
    have e1 : nf_i (nf_it i r) i 399 = (k : Int) := by
      rw [nf_iK (by decide), nf_itK (by decide) (by decide) i, hk]
    have e2 : nf_i (nf_it i r) i 400 = (i : Int) := if_pos rfl
    have e3 : nf_i (nf_it i r) i 105 = r 105 + (i : Int) := by
      rw [nf_iK (by decide), nf_itG]
    obtain ⟨Ji, Ci⟩ := nf_itJ hJ hC i
    have hR2 := hk_le hR (x := (400, 1)) (y := (399, 0)) ⟨by show 400 < nf_E.1; rw [hN]; omega, by show 399 < nf_E.1; rw [hN]; omega⟩ (by
      show nf_i (nf_it i r) i 400 + 1 ≤ nf_i (nf_it i r) i 399 + 0
      rw [e1, e2]
      omega)
    refine lh_ok (n := n + 1) (G := hk_df nf_Gr nf_lt) (k0 := 0) (T := []) mf_plp F hl trivial (by omega) hPw mf_k5 hR2 (fun f hf r1 ad1 x1 x2 x3 x4 H1 locs1 ls1 st1 hR1 => ?_)
    have x1 : ai_ext nf_E.1 (nf_i (nf_it i r) i) r1 := x1
    have x2 : ai_ext 336 ad' ad1 := x2
    rw [hN] at x1
    unfold mf_c5 at hf
    simp only [Bool.and_eq_true] at hf
    obtain ⟨⟨f1, f2⟩, f3⟩ := hf
    obtain ⟨z1, z2⟩ := cy_z_ok f2
    have R2 := nf_re (fin := nf_i (nf_it i r) i) mf_wfp hE x1 hR1 f3 (fun t ht hp => rfl) (fun q hq => by cases hq)
    have hst1 := nf_nil R2.stk
    subst hst1
    rw [Nat.eq_of_beq_eq_true f1, z1, z2]
    have R2 : ai_Rel D tyc A s sa ws (ct_mt 246).2.2.1 (nf_i (nf_it i r) i) ad1 (mf_Lp (.inl (400, 0))) [] nf_Gr H1 locs1 ls1 [] := R2
    refine lh_ok (n := n + 1) (G := nf_Gr) (k0 := 0) (T := []) mf_plp F hl trivial (by omega) hPw mf_k6 R2 (fun g hg r2 ad2 y1 y2 y3 y4 H2 locs2 ls2 st2 hR5 => ?_)
    have y1 : ai_ext nf_E.1 (nf_i (nf_it i r) i) r2 := y1
    have y2 : ai_ext 336 ad1 ad2 := y2
    rw [hN] at y1
    unfold mf_c6 at hg
    simp only [Bool.and_eq_true, decide_eq_true_eq] at hg
    obtain ⟨⟨g1, g2⟩, ⟨g3, g4⟩, g5, g6⟩ := hg
    have g3 := hy_heq_ok g3
    have g4 := nf_qE_ok g4
    obtain ⟨z3, z4⟩ := cy_z_ok g2
    obtain ⟨idx, b, ec, hv⟩ := cy_vk_ok g6
    obtain ⟨-, -, hLL, -⟩ := hR5.wd
    rw [Nat.eq_of_beq_eq_true g1]
    have rc : (lt_rm (n + 1) 245).cells = 0 := by
      show (ct_bud 245).1 = 0
      rw [bu4]
    have rs : (lt_rm (n + 1) 245).slots = 0 := by
      show (ct_bud 245).2 = 0
      rw [bu4]
    have k2 : ∀ t, t < 400 → r2 t = nf_it i r t := fun t ht => by
      rw [y1 t (by omega), nf_iK (by omega)]
    have J2 : nf_J r2 := nf_JC k2 Ji
    have C2 : 0 ≤ r2 108 := by
      rw [k2 _ (by omega)]
      exact Ci
    have hg2 : 0 ≤ r2 105 ∧ r2 105 ≤ 999 := by
      rw [y1 _ (by omega), e3]
      omega
    have es := nf_stepE J2 C2
    refine lh_callv (n := n + 1) (G := g.2.2.2) (mi := 246) (mj := 245) mf_plp mf_plo (by decide) F ec hv hR5 ⟨by rw [z3, rc]; exact Nat.zero_le _, by rw [z4, rs]; exact Nat.zero_le _⟩ (fun As gA hWd2 => by
      rw [g3, g4] at hWd2 gA
      exact mf_passMinute hn hl hPw hg2 hWd2 gA) (fun a0 st0 T v rest locs3 e0 hq hrest hS1 => ?_)
    obtain ⟨ev, hWd3, hF⟩ := hq
    cases ev
    rw [es] at hWd3
    have er : rest = [] := by
      cases rest with
      | nil => rfl
      | cons _ _ => exact hrest.elim
    subst er
    have hL3 : ai_gL (nf_step r2) ad2 nf_E.1 336 (ct_mt 246).2.2.1 (mf_Lp (.inl (400, 0))) ls2 := by
      rw [g3, g4, g5] at hLL
      refine nf_gL2 (fun b hb x hx => ?_) hLL
      unfold mf_Lp at hb
      simp only [List.mem_cons, List.not_mem_nil, or_false] at hb
      rcases hb with rfl | rfl | rfl
      · rcases hx with hx | hx <;> cases hx
      · rcases hx with hx | hx <;> cases hx
        show nf_step r2 399 + 0 = r2 399 + 0
        rw [nf_stepK (by decide) (by decide)]
      · rcases hx with hx | hx <;> cases hx
        show nf_step r2 400 + 0 = r2 400 + 0
        rw [nf_stepK (by decide) (by decide)]
    have hR6 : ai_Rel D tyc A s sa ws (ct_mt 246).2.2.1 (nf_step r2) ad2 (mf_Lp (.inl (400, 0))) [] nf_Gr T.heap locs3 ls2 [] := ai_Wd.rel (G := nf_Gr) hWd3 (hS1 hF) hL3 trivial
    have q1 : g.2.2.2.2.2.1 + (lt_rm (n + 1) 245).cells = 0 := by rw [z3, rc]
    have q2 : g.2.2.2.2.2.2 + (lt_rm (n + 1) 245).slots = 0 := by rw [z4, rs]
    rw [q1, q2]
    have hE6 : ai_gE (nf_step r2) nf_E := hR6.env
    have n1 : nf_step r2 400 = (i : Int) := by
      rw [nf_stepK (by decide) (by decide), y1 _ (by omega), e2]
    have hR7 := hg_cap_ok hR6 (t := 400) (b := (0, 999)) (by show 400 < nf_E.1; rw [hN]; omega) ⟨by show (0 : Int) ≤ _; rw [n1]; omega, by show _ ≤ (999 : Int); rw [n1]; omega⟩
    refine lh_ok (n := n + 1) (G := hg_cap nf_Gr 400 (0, 999)) (k0 := 0) (T := []) mf_plp F hl trivial (by omega) hPw mf_k7 hR7 (fun f2 hf2 r3 ad3 w1 w2 w3 w4 H3 locs4 ls3 st3 hR8 => ?_)
    have w1 : ai_ext nf_E.1 (nf_step r2) r3 := w1
    have w2 : ai_ext 336 ad2 ad3 := w2
    rw [hN] at w1
    unfold mf_c7 at hf2
    simp only [Bool.and_eq_true] at hf2
    obtain ⟨⟨f21, f22⟩, f23, f24⟩ := hf2
    obtain ⟨z5, z6⟩ := cy_z_ok f22
    have R9 := nf_re (fin := nf_i (nf_it (i + 1) r) ((i + 1 : Nat) : Int)) mf_wfp hE6 w1 hR8 f23 (fun t ht hp => by
      have h2 := hp (400, 0, 2) List.mem_cons_self
      have h2 : t ≠ 400 := fun q => h2 q.symm
      rw [nf_iK h2]
      show nf_step (nf_it i r) t = nf_step r2 t
      exact (nf_stepC k2 t (by omega)).symm) (fun q hq => by
      rcases List.mem_cons.mp hq with rfl | hq
      · rw [cx_q_ok f24]
        show (if 400 = 400 then _ else _) = r3 400 + 1
        rw [if_pos rfl, w1 _ (by omega), n1]
        omega
      · cases hq)
    have hst3 := nf_nil R9.stk
    subst hst3
    rw [Nat.eq_of_beq_eq_true f21, z5, z6]
    exact ih (i + 1) ad3 H3 locs4 ls3 (by omega) (by omega) R9 (fun u hu => (w2 u hu).trans ((y2 u hu).trans ((x2 u hu).trans (hax u hu))))
set_option maxHeartbeats 4000000 in
theorem mf_minutes {H0 : Heap} {As : List Value} (hn : 4 ≤ n) (hl : l.stackTraces = false) (hPw : ai_Pw tyc ws) (hb : r 101 = 1) (hnn : 0 ≤ r 399 ∧ 0 ≤ r 105 ∧ r 105 + r 399 ≤ 1000) {k : Nat} (hk : r 399 = (k : Int)) (hJ : nf_J r) (hC : 0 ≤ r 108) (hWd : ai_Wd D tyc A sa ws r ad nf_Gr H0) (hA : ai_gF r ad nf_Gr.1.1 nf_Gr.2.1.1 [.inr (.inr (some (some 264))), .inl (399, 0)] As) :
    vx_Met l (ct_mt 246).1 (ai_cw (ct_mt 246) :: ft_W) (lt_rm (n + 2) 246) (fun a U => a = As.toArray ∧ U.heap = H0 ∧ ai_St D tyc A sa ct_strs ft_N U ∧ ∀ q, H0.size ≤ q → A q) (nf_Qp D tyc A sa ws (nf_r0 r) ad nf_hr k) (fun _ _ _ => False) (lt_rm (n + 2) 246).cells (lt_rm (n + 2) 246).slots A := by
  refine lh_met (n := n + 1) mf_plp (mf_Lp (.inr (.inr none))) (by
    have e : (ct_mt 246).2.2.1 = 3 := by decide +kernel
    rw [e]
    rfl) hWd hA (fun p e s m below meth c ls F hret hH hR => ?_)
  have hN := nf_EN.1
  have hE : ai_gE r nf_E := hR.env
  obtain ⟨r0, a1, a2, hRa⟩ := hk_add hR (q := (0, 1000)) (x := r 105 + r 399) ⟨by show (0 : Int) ≤ _; omega, by show _ ≤ (1000 : Int); omega⟩ (by unfold ai_small ai_lo64 ai_hi64; omega)
  have a1 : ai_ext nf_E.1 r r0 := a1
  have a2 : r0 nf_E.1 = r 105 + r 399 := a2
  rw [hN] at a1 a2
  have gN : (hg_new nf_Gr (0, 1000)).1.1 = 402 := by
    rw [cy_newN]
    show nf_E.1 + 1 = _
    rw [hN]
  have no : ∀ q, q < 16 → ai_cell (hg_new nf_Gr (0, 1000)).2.1 q = none := fun q hq => by
    rw [nf_n2]
    exact mf_no16 q hq
  have hRb := lx_sp_ok (t := 101) (k := .ofNat 1) hRa (by
    rw [a1 _ (by omega)]
    exact hb) no
  have lt : ∀ t, t < 402 → t < (lx_sp 101 (.ofNat 1) (hg_new nf_Gr (0, 1000))).1.1 := fun t ht => by
    show t < (hg_new nf_Gr (0, 1000)).1.1
    rw [gN]
    exact ht
  have hRc := hk_adf hRb (d := (0, 401, (105, 0), (399, 0))) ⟨lt _ (by show 401 < 402; omega), lt _ (by show 105 < 402; omega), lt _ (by show 399 < 402; omega), by
    show r0 401 = (r0 105 + 0 + (r0 399 + 0)).bmod 4294967296
    rw [a2, a1 105 (by omega), a1 399 (by omega), Int.add_zero, Int.add_zero]
    exact (Int.bmod_eq_of_le_mul_two (by omega) (by omega)).symm⟩
  have hRc : ai_Rel D tyc A s sa ws (ct_mt 246).2.2.1 r0 ad (mf_Lp (.inr (.inr none))) [] mf_GX s.heap [] ls [] := hRc
  refine lh_ok (n := n + 1) (G := mf_GX) (k0 := 0) (T := []) mf_plp F hl trivial (by omega) hPw mf_k9 hRc (fun f hf r1 ad1 x1 x2 x3 x4 H1 locs1 ls1 st1 hR1 => ?_)
  have x1 : ai_ext (hg_new nf_Gr (0, 1000)).1.1 r0 r1 := x1
  rw [gN] at x1
  have x0 : ai_ext 401 r r1 := fun u hu => (x1 u (by omega)).trans (a1 u hu)
  have x2 : ai_ext 336 ad ad1 := by
    have h : mf_GX.2.1.1 = 336 := by
      show (lx_sp 101 (.ofNat 1) (hg_new nf_Gr (0, 1000))).2.1.1 = 336
      rw [lx_spn, nf_n2]
      rfl
    rw [h] at x2
    exact x2
  unfold mf_c9 at hf
  simp only [Bool.and_eq_true] at hf
  obtain ⟨⟨e1, e2⟩, e3, e4, e5, e6⟩ := hf
  obtain ⟨z1, z2⟩ := cy_z_ok e2
  have h10 : r1 0 = 0 := hR1.env.1
  have R1 := nf_re (fin := nf_i (nf_it 0 (nf_r0 r)) ((0 : Nat) : Int)) mf_wfp hE x0 hR1 e3 (fun t ht hp => by
    have h1 := hp (71, 264, 1) (by unfold mf_P9; simp)
    have h2 := hp (400, 0, 2) (by unfold mf_P9; simp)
    rw [nf_iK (fun q => h2 q.symm)]
    exact if_neg (fun q => h1 q.symm)) (fun q hq => by
    unfold mf_P9 at hq
    simp only [List.mem_cons, List.not_mem_nil, or_false] at hq
    rcases hq with rfl | rfl | rfl
    · rw [cx_q_ok e4]
      show nf_i (nf_r0 r) _ 71 = r1 0 + 0
      rw [nf_iK (by decide), h10]
      rfl
    · rw [cx_q_ok e5]
      show nf_i (nf_r0 r) _ 101 = r1 0 + 1
      rw [nf_iK (by decide), h10]
      show (if 101 = 71 then 0 else r 101) = _
      rw [if_neg (by decide), hb]
      rfl
    · rw [cx_q_ok e6]
      show (if 400 = 400 then _ else _) = r1 0 + 0
      rw [if_pos rfl, h10]
      rfl)
  have hst1 := nf_nil R1.stk
  subst hst1
  rw [Nat.eq_of_beq_eq_true e1, z1, z2]
  have c0 : ∀ t, t ≠ 71 → nf_r0 r t = r t := fun t ht => if_neg ht
  have J0 : nf_J (nf_r0 r) := nf_JK hJ (fun t _ _ h3 _ => c0 t h3) (fun j hj hm => (c0 _ (by omega)).trans ((hJ j hj).2.2.2.2 hm))
  exact mf_loop (r := nf_r0 r) hn hl hPw F hret (by rw [c0 _ (by decide), c0 _ (by decide)]; exact hnn) (by rw [c0 _ (by decide)]; exact hk) J0 (by rw [c0 _ (by decide)]; exact hC) k 0 ad1 H1 locs1 ls1 (by omega) (by omega) R1 x2
end MFK
