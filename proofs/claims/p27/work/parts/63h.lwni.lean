/-! LM.minutes, where there is a night and so many minutes are left -/
noncomputable def nf_Lm : List ai_V := [.inr (.inr (some (some 16))), .inl (399, 0)]
noncomputable def nf_GX : ai_G := hk_df (hk_df (lx_sp 101 (.ofNat 1) (hg_new nf_Gc (0, 1000))) (1, 401, (0, 1000), (105, 0))) (32, 0, (399, 0), (401, 0))
noncomputable def nf_PB : List (Nat × Nat × Nat) := [(101, 193, 0)]
noncomputable def nf_ca (f : ai_F) : Bool := (Nat.beq f.1 46 && cy_z f) && (nf_ck nf_hc [] nf_PB nf_Lm f && cx_q (cx_im (lx_jW [] nf_PB f) (101, 0)) (0, .ofNat 1))
noncomputable def nf_cb (f : ai_F) : Bool := (Nat.beq f.1 51 && cy_z f) && ((hy_heq f.2.2.2.2.1 nf_hc && nf_qE f.2.2.2.1) && cy_vk 157 51 56 f.2.2.2.2.1 f.2.2.1 [.inr (.inr (some (some 193))), .inl (399, 0)] [])
theorem nf_plm : lh_plain 157 = true := by decide +kernel
theorem nf_wfm : nf_wf nf_hc nf_Lm = true := by decide +kernel
theorem nf_ka : lz_chk [] 157 [46] false 0 nf_Lm [] nf_GX nf_ca = true := by decide +kernel
theorem nf_kb : lz_chk [] 157 [51] false 46 nf_Lm [] nf_Gc nf_cb = true := by decide +kernel
theorem nf_irm : fc_ir 157 54 = true := by decide +kernel
section NFI
variable {l : Launch} {D : va_G} {tyc : Nat → ClassId} {A : Nat → Prop} {sa : ai_B} {ws : va_W} {n : Nat}
variable {r : Nat → Int} {ad : Nat → Nat}
set_option maxHeartbeats 4000000 in
theorem nf_minutes {H0 : Heap} {As : List Value} (hn : 4 ≤ n) (hl : l.stackTraces = false) (hPw : ai_Pw tyc ws) (hb : r 101 = 1) (hnn : 0 ≤ r 399 ∧ 0 ≤ r 105 ∧ r 105 + r 399 ≤ 1000) {k : Nat} (hk : r 399 = (k : Int)) (hWd : ai_Wd D tyc A sa ws r ad nf_Gc H0) (hA : ai_gF r ad nf_Gc.1.1 nf_Gc.2.1.1 nf_Lm As) :
    vx_Met l (ct_mt 157).1 (ai_cw (ct_mt 157) :: ft_W) (lt_rm (n + 3) 157) (fun a U => a = As.toArray ∧ U.heap = H0 ∧ ai_St D tyc A sa ct_strs ft_N U ∧ ∀ q, H0.size ≤ q → A q) (nf_Qp D tyc A sa ws r ad nf_hc k) (fun _ _ _ => False) (lt_rm (n + 3) 157).cells (lt_rm (n + 3) 157).slots A := by
  refine lh_met (n := n + 2) nf_plm nf_Lm (by
    have e : (ct_mt 157).2.2.1 = 2 := by decide +kernel
    rw [e]
    rfl) hWd hA (fun p e s m below meth c ls F hret hH hR => ?_)
  have hN := nf_EN.1
  have hE : ai_gE r nf_E := hR.env
  obtain ⟨r0, a1, a2, hRa⟩ := hk_add hR (q := (0, 1000)) (x := 1000 - r 105) ⟨by show (0 : Int) ≤ _; omega, by show _ ≤ (1000 : Int); omega⟩ (by unfold ai_small ai_lo64 ai_hi64; omega)
  have a1 : ai_ext nf_E.1 r r0 := a1
  have a2 : r0 nf_E.1 = 1000 - r 105 := a2
  rw [hN] at a1 a2
  have gN : (hg_new nf_Gc (0, 1000)).1.1 = 402 := by
    rw [cy_newN]
    show nf_E.1 + 1 = _
    rw [hN]
  have no : ∀ q, q < 16 → ai_cell (hg_new nf_Gc (0, 1000)).2.1 q = none := fun q hq => by
    rw [nf_n2]
    exact nf_no16 q hq
  have hRb := lx_sp_ok (t := 101) (k := .ofNat 1) hRa (by
    rw [a1 _ (by omega)]
    exact hb) no
  have lt : ∀ t, t < 402 → t < (lx_sp 101 (.ofNat 1) (hg_new nf_Gc (0, 1000))).1.1 := fun t ht => by
    show t < (hg_new nf_Gc (0, 1000)).1.1
    rw [gN]
    exact ht
  have hRc := hk_adf hRb (d := (1, 401, (0, 1000), (105, 0))) ⟨lt _ (by show 401 < 402; omega), lt _ (by show 0 < 402; omega), lt _ (by show 105 < 402; omega), by
    show r0 401 = (r0 0 + 1000 - (r0 105 + 0)).bmod 4294967296
    rw [a2, a1 105 (by omega), a1 0 (by omega), hE.1, Int.add_zero, Int.zero_add]
    exact (Int.bmod_eq_of_le_mul_two (by omega) (by omega)).symm⟩
  have hRd := hk_le hRc (x := (399, 0)) (y := (401, 0)) ⟨lt _ (by show 399 < 402; omega), lt _ (by show 401 < 402; omega)⟩ (by
    show r0 399 + 0 ≤ r0 401 + 0
    rw [a2, a1 399 (by omega)]
    omega)
  have hRd : ai_Rel D tyc A s sa ws (ct_mt 157).2.2.1 r0 ad nf_Lm [] nf_GX s.heap [] ls [] := hRd
  refine lh_ok (n := n + 2) (G := nf_GX) (k0 := 0) (T := []) nf_plm F hl trivial (by omega) hPw nf_ka hRd (fun f hf r1 ad1 x1 x2 x3 x4 H1 locs1 ls1 st1 hR1 => ?_)
  have x1 : ai_ext (hg_new nf_Gc (0, 1000)).1.1 r0 r1 := x1
  rw [gN] at x1
  have x0 : ai_ext 401 r r1 := fun u hu => (x1 u (by omega)).trans (a1 u hu)
  have x2 : ai_ext 336 ad ad1 := by
    have h : nf_GX.2.1.1 = 336 := by
      show (lx_sp 101 (.ofNat 1) (hg_new nf_Gc (0, 1000))).2.1.1 = 336
      rw [lx_spn, nf_n2]
      rfl
    rw [h] at x2
    exact x2
  unfold nf_ca at hf
  simp only [Bool.and_eq_true] at hf
  obtain ⟨⟨e1, e2⟩, e3, e4⟩ := hf
  obtain ⟨z1, z2⟩ := cy_z_ok e2
  have R1 := nf_re (fin := r) nf_wfm hE x0 hR1 e3 (fun t ht hp => rfl) (fun q hq => by
    rcases List.mem_cons.mp hq with rfl | hq
    · rw [cx_q_ok e4]
      show r 101 = r1 0 + 1
      rw [hb, hR1.env.1]
      rfl
    · cases hq)
  have hst1 := nf_nil R1.stk
  subst hst1
  rw [Nat.eq_of_beq_eq_true e1, z1, z2]
  have R1 : ai_Rel D tyc A s sa ws (ct_mt 157).2.2.1 r ad1 nf_Lm [] nf_Gc H1 locs1 ls1 [] := R1
  refine lh_ok (n := n + 2) (G := nf_Gc) (k0 := 0) (T := []) nf_plm F hl trivial (by omega) hPw nf_kb R1 (fun g hg r2 ad2 y1 y2 y3 y4 H2 locs2 ls2 st2 hR2 => ?_)
  have y1 : ai_ext nf_E.1 r r2 := y1
  have y2 : ai_ext 336 ad1 ad2 := y2
  rw [hN] at y1
  unfold nf_cb at hg
  simp only [Bool.and_eq_true, decide_eq_true_eq] at hg
  obtain ⟨⟨g1, g2⟩, ⟨g3, g4⟩, g6⟩ := hg
  have g3 := hy_heq_ok g3
  have g4 := nf_qE_ok g4
  obtain ⟨z3, z4⟩ := cy_z_ok g2
  obtain ⟨idx, b, ec, hv⟩ := cy_vk_ok g6
  obtain ⟨bu1, bu2⟩ := nf_bud
  rw [Nat.eq_of_beq_eq_true g1]
  have rc : (lt_rm (n + 2) 56).cells = 0 := by
    show (ct_bud 56).1 = 0
    rw [bu2]
  have rs : (lt_rm (n + 2) 56).slots = 0 := by
    show (ct_bud 56).2 = 0
    rw [bu2]
  have kN : r2 399 = r 399 := y1 _ (by omega)
  have kG : r2 105 = r 105 := y1 _ (by omega)
  refine lh_callv (n := n + 2) (G := g.2.2.2) (mi := 157) (mj := 56) nf_plm nf_plp (by decide) F ec hv hR2 ⟨by rw [z3, rc]; exact Nat.zero_le _, by rw [z4, rs]; exact Nat.zero_le _⟩ (fun As gA hWd2 => by
      rw [g3, g4] at hWd2 gA
      exact nf_pass hn hl hPw (by rw [kN, kG]; exact hnn) (kN.trans hk) hWd2 gA) (fun a0 st0 T v rest locs3 e0 hq hrest hS1 => ?_)
  obtain ⟨i, r3, ev, hi, hz, hWd3, hF⟩ := hq
  cases ev
  have er : rest = [] := by
    cases rest with
    | nil => rfl
    | cons _ _ => exact hrest.elim
  subst er
  have cg := nf_itC (a := r2) (b := r) (fun t ht => y1 t (by omega)) k
  refine cy_iret (n := n + 2) F nf_plm hret nf_irm (hS1 hF) ⟨by rw [z3, rc]; exact Nat.zero_le _, by rw [z4, rs]; exact Nat.zero_le _⟩ (fun T2 hT hF2 => ⟨i, r3, rfl, hi.trans (cg _ (by omega)), fun t ht => (hz t ht).trans (cg t ht), ?_, hF2⟩)
  rw [hT]
  exact nf_bk nf_whc rfl (fun u hu => (y2 u hu).trans (x2 u hu)) hWd3
end NFI
