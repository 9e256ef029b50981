/-! the law's helper -/
noncomputable def nf_Lh : List ai_V := [.inr (.inr (some (some 16))), .inl (399, 0), .inr (.inr (some (some 335))), .inr (.inr none)]
noncomputable def nf_h2 : ai_H := match ai_cell nf_hc 335 with
  | some (.inr (.inl (ty, n, lo, hi, _))) => (nf_hc.1, ai_tset 9 nf_hc.2 335 (some (.inr (.inl (ty, n, lo, hi, [((0, .ofNat 0), (106, 0))])))))
  | _ => nf_hc
noncomputable def nf_Sh : List ai_V := [.inl (0, .ofNat 0), .inr (.inr (some (some 335)))]
noncomputable def nf_cc (f : ai_F) : Bool := (Nat.beq f.1 4 && cy_z f) && ((hy_heq f.2.2.2.2.1 nf_hc && nf_qE f.2.2.2.1) && (decide (f.2.1 = nf_Lh) && cy_vk 277 4 157 f.2.2.2.2.1 f.2.2.1 nf_Lm nf_Sh))
noncomputable def nf_cd (f : ai_F) : Bool := (Nat.beq f.1 16 && (Nat.ble f.2.2.2.2.2.1 1 && Nat.ble f.2.2.2.2.2.2 6)) && (hy_heq f.2.2.2.2.1 nf_h2 && decide (f.2.2.1 = [.inl (0, .ofNat 0)]))
theorem nf_plh : lh_plain 277 = true := by decide +kernel
theorem nf_kc : lz_chk [] 277 [4] false 0 nf_Lh [] nf_Gc nf_cc = true := by decide +kernel
theorem nf_kd : lz_chk [] 277 [16] false 7 nf_Lh (.inl (106, 0) :: nf_Sh) (nf_E, nf_hc, 1, 6) nf_cd = true := by decide +kernel
theorem nf_irh : fc_ir 277 16 = true := by decide +kernel
theorem nf_bud2 : ct_bud 157 = (1, 6) ∧ ct_bud 277 = (1, 6) ∧ ct_bud 246 = (0, 0) ∧ ct_bud 245 = (0, 0) := by decide +kernel
theorem nf_wh2 : sm_wh 401 nf_h2 = true := by decide +kernel
noncomputable def nf_Qh (D : va_G) (tyc : Nat → ClassId) (A : Nat → Prop) (sa : ai_B) (ws : va_W) (r : Nat → Int) (ad : Nat → Nat) (k : Nat) : Array Value → State → Outcome → State → Prop :=
  fun _ s u T => ∃ (i : Int32) (r2 : Nat → Int), u = .returned (some (.int i)) ∧ i.toInt = 0 ∧ nf_Z r r2 k ∧ ai_Wd D tyc A sa ws r2 ad (nf_E, nf_h2, 0, 0) T.heap ∧ va_F A s T
section NFJ
variable {l : Launch} {D : va_G} {tyc : Nat → ClassId} {A : Nat → Prop} {sa : ai_B} {ws : va_W} {n : Nat}
variable {r : Nat → Int} {ad : Nat → Nat}
set_option maxHeartbeats 4000000 in
theorem nf_help {H0 : Heap} {As : List Value} (hn : 4 ≤ n) (hl : l.stackTraces = false) (hPw : ai_Pw tyc ws) (hb : r 101 = 1) (hnn : 0 ≤ r 399 ∧ 0 ≤ r 105 ∧ r 105 + r 399 ≤ 1000) {k : Nat} (hk : r 399 = (k : Int)) (hWd : ai_Wd D tyc A sa ws r ad nf_Gc H0) (hA : ai_gF r ad nf_Gc.1.1 nf_Gc.2.1.1 [.inr (.inr (some (some 16))), .inl (399, 0), .inr (.inr (some (some 335)))] As) :
    vx_Met l (ct_mt 277).1 (ai_cw (ct_mt 277) :: ft_W) (lt_rm (n + 4) 277) (fun a U => a = As.toArray ∧ U.heap = H0 ∧ ai_St D tyc A sa ct_strs ft_N U ∧ ∀ q, H0.size ≤ q → A q) (nf_Qh D tyc A sa ws r ad k) (fun _ _ _ => False) (lt_rm (n + 4) 277).cells (lt_rm (n + 4) 277).slots A := by
  refine lh_met (n := n + 3) nf_plh nf_Lh (by
    have e : (ct_mt 277).2.2.1 = 4 := by decide +kernel
    rw [e]
    rfl) hWd hA (fun p e s m below meth c ls F hret hH hR => ?_)
  have hN := nf_EN.1
  have hE : ai_gE r nf_E := hR.env
  refine lh_ok (n := n + 3) (G := nf_Gc) (k0 := 0) (T := []) nf_plh F hl trivial (by omega) hPw nf_kc hR (fun g hg r2 ad2 y1 y2 y3 y4 H2 locs2 ls2 st2 hR2 => ?_)
  have y1 : ai_ext nf_E.1 r r2 := y1
  have y2 : ai_ext 336 ad ad2 := y2
  rw [hN] at y1
  unfold nf_cc at hg
  simp only [Bool.and_eq_true, decide_eq_true_eq] at hg
  obtain ⟨⟨g1, g2⟩, ⟨g3, g4⟩, g5, g6⟩ := hg
  have g3 := hy_heq_ok g3
  have g4 := nf_qE_ok g4
  obtain ⟨z3, z4⟩ := cy_z_ok g2
  obtain ⟨idx, b, ec, hv⟩ := cy_vk_ok g6
  obtain ⟨bu1, bu2, -, -⟩ := nf_bud2
  rw [Nat.eq_of_beq_eq_true g1]
  have rc : (lt_rm (n + 3) 157).cells = 1 := by
    show (ct_bud 157).1 = 1
    rw [bu1]
  have rs : (lt_rm (n + 3) 157).slots = 6 := by
    show (ct_bud 157).2 = 6
    rw [bu1]
  have rch : (lt_rm (n + 3 + 1) 277).cells = 1 := by
    show (ct_bud 277).1 = 1
    rw [bu2]
  have rsh : (lt_rm (n + 3 + 1) 277).slots = 6 := by
    show (ct_bud 277).2 = 6
    rw [bu2]
  have kN : r2 399 = r 399 := y1 _ (by omega)
  have kG : r2 105 = r 105 := y1 _ (by omega)
  have kB : r2 101 = r 101 := y1 _ (by omega)
  obtain ⟨-, -, hLL, -⟩ := hR2.wd
  refine lh_callv (n := n + 3) (G := g.2.2.2) (mi := 277) (mj := 157) nf_plh nf_plm (by decide) F ec hv hR2 ⟨by rw [z3, rc, rch]; exact Nat.le_refl _, by rw [z4, rs, rsh]; exact Nat.le_refl _⟩ (fun As gA hWd2 => by
      rw [g3, g4] at hWd2 gA
      exact nf_minutes hn hl hPw (kB.trans hb) (by rw [kN, kG]; exact hnn) (kN.trans hk) hWd2 gA) (fun a0 st0 T v rest locs3 e0 hq hrest hS1 => ?_)
  obtain ⟨i, r3, ev, hi, hz, hWd3, hF⟩ := hq
  cases ev
  have cg := nf_itC (a := r2) (b := r) (fun t ht => y1 t (by omega)) k
  rw [g3, g4] at hLL hrest
  rw [g5] at hLL
  have h30 : r3 0 = 0 := hWd3.env.1
  have h20 : r2 0 = 0 := (y1 0 (by omega)).trans hE.1
  have hL3 : ai_gL r3 ad2 nf_E.1 336 (ct_mt 277).2.2.1 nf_Lh ls2 := by
    refine nf_gL2 (fun b hb x hx => ?_) hLL
    unfold nf_Lh at hb
    simp only [List.mem_cons, List.not_mem_nil, or_false] at hb
    rcases hb with rfl | rfl | rfl | rfl
    · rcases hx with hx | hx <;> cases hx
    · rcases hx with hx | hx <;> cases hx
      show r3 399 + 0 = r2 399 + 0
      rw [hz _ (by omega), nf_itK (by decide) (by decide) k]
    · rcases hx with hx | hx <;> cases hx
    · rcases hx with hx | hx <;> cases hx
  have hr3 : ai_gF r3 ad2 nf_E.1 336 nf_Sh rest := by
    refine nf_gF2 (fun b hb x hx => ?_) hrest
    unfold nf_Sh at hb
    simp only [List.mem_cons, List.not_mem_nil, or_false] at hb
    rcases hb with rfl | rfl
    · rcases hx with hx | hx <;> cases hx
      show r3 0 + _ = r2 0 + _
      rw [h30, h20]
    · rcases hx with hx | hx <;> cases hx
  have hR3 : ai_Rel D tyc A s sa ws (ct_mt 277).2.2.1 r3 ad2 nf_Lh (.inl (106, 0) :: nf_Sh) (nf_E, nf_hc, 1, 6) T.heap locs3 ls2 (.int i :: rest) := ai_Wd.rel (G := (nf_E, nf_hc, 1, 6)) hWd3 (hS1 hF) hL3 ⟨⟨by show 106 < nf_E.1; rw [hN]; omega, i, rfl, by
    show i.toInt = r3 106 + 0
    rw [hi, hz _ (by omega), Int.add_zero]⟩, hr3⟩
  have q1 : g.2.2.2.2.2.1 + (lt_rm (n + 3) 157).cells = 1 := by rw [z3, rc]
  have q2 : g.2.2.2.2.2.2 + (lt_rm (n + 3) 157).slots = 6 := by rw [z4, rs]
  rw [q1, q2]
  have hE3 : ai_gE r3 nf_E := hWd3.env
  refine lh_ok (n := n + 3) (G := (nf_E, nf_hc, 1, 6)) (k0 := 0) (T := []) nf_plh F hl trivial (by omega) hPw nf_kd hR3 (fun f hf r4 ad4 w1 w2 w3 w4 H4 locs4 ls4 st4 hR4 => ?_)
  have w1 : ai_ext nf_E.1 r3 r4 := w1
  have w2 : ai_ext 336 ad2 ad4 := w2
  unfold nf_cd at hf
  simp only [Bool.and_eq_true, decide_eq_true_eq] at hf
  obtain ⟨⟨f1, f2, f3⟩, f4, f5⟩ := hf
  have hst := hR4.stk
  rw [f5] at hst
  obtain ⟨j, rfl, hj⟩ := cy_one hR4.env.1 hst
  obtain ⟨hWd4, hS4, -, -⟩ := hR4.wd
  rw [Nat.eq_of_beq_eq_true f1]
  refine cy_iret (n := n + 3) F nf_plh hret nf_irh hS4 ⟨by rw [rch]; exact Nat.le_of_ble_eq_true f2, by rw [rsh]; exact Nat.le_of_ble_eq_true f3⟩ (fun T2 hT hF2 => ⟨j, r3, rfl, hj, fun t ht => (hz t ht).trans (cg t ht), ?_, hF2⟩)
  rw [hT]
  have n2 : nf_h2.1 = 336 := by
    unfold nf_h2
    split <;> rfl
  have B4 := cy_back (E := nf_E) (h := nf_h2) (E' := f.2.2.2.1) (h' := f.2.2.2.2.1) (by rw [hN]; exact nf_wh2) (hy_heq_ok f4) hE3 w1 (by rw [n2]; exact w2) hWd4
  exact nf_bk nf_wh2 n2 y2 B4
end NFJ
