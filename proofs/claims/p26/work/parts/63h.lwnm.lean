noncomputable def nl_P : List (Nat × Nat × Nat) := [(1, 0, 4), (71, 264, 1)]
noncomputable def nl_HC : List Nat := [16, 335, 193, 194, 195, 196, 197, 17, 23, 44, 50, 56, 62]
noncomputable def nl_HR : List Nat := [264, 322, 323, 324, 325, 326]
noncomputable def nl_ho : ai_H := (336, nl_HC.foldl (fun T q => ai_tset 9 T q none) lx_h.2)
noncomputable def nl_hF : ai_H := match ai_cell lx_h 335 with
  | some (.inr (.inl (ty, n, lo, hi, _))) => (336, ai_tset 9 lx_h.2 335 (some (.inr (.inl (ty, n, lo, hi, [((0, .ofNat 0), (106, 0))])))))
  | _ => (336, lx_h.2)
noncomputable def nl_fk (k : Nat) : Bool := match nl_HC.elem k with
  | true => (ai_cell nl_ho k).isNone && (hy_heqO (ai_cell nf_hc k) (ai_cell lx_h k) && (hy_heqO (ai_cell nl_hF k) (ai_cell nf_h2 k) && ((ai_cell nf_hr k).isNone && Nat.ble 16 k)))
  | false => (ai_cell nf_hc k).isNone && ((ai_cell nf_h2 k).isNone && (hy_heqO (ai_cell nl_ho k) (ai_cell lx_h k) && (hy_heqO (ai_cell nl_hF k) (ai_cell lx_h k) && (match nl_HR.elem k with
    | true => hy_heqO (ai_cell nf_hr k) (ai_cell lx_h k) && Nat.ble 16 k
    | false => (ai_cell nf_hr k).isNone))))
theorem nl_fok : (List.range 336).all nl_fk = true := by decide +kernel
noncomputable def nl_ch (t : Nat) : Bool := (Nat.ble 370 t && Nat.blt t 374) || (Nat.beq t 106 || (Nat.beq t 107 || (Nat.beq t 108 || (Nat.beq t 102 || (Nat.beq t 105 || Nat.beq t 71)))))
noncomputable def nl_pA (t : Nat) : Bool := !(Nat.beq t 71) && Nat.blt t 400
noncomputable def nl_pR (t : Nat) : Bool := Nat.blt t 400
noncomputable def nl_pO (t : Nat) : Bool := !(nl_ch t) && Nat.blt t 400
theorem nl_s1 : nl_syh nl_pA nf_h2 = true := by decide +kernel
theorem nl_s2 : nl_syh nl_pR nf_hr = true := by decide +kernel
theorem nl_s3 : (List.range 336).all (fun k => nl_HC.elem k || (nl_HR.elem k || (match ai_cell lx_h k with
  | none => true
  | some d => nl_sy nl_pO d))) = true := by decide +kernel
theorem nl_gh : [lx_h, nf_h2, nl_ho, nf_hr].all (fun h => [286, 288, 289, 290].all (fun q => (ai_cell h q).isNone)) = true := by decide +kernel
theorem nl_jcc : lx_jcl.all (fun c => !(nl_ch c.1.1 || (nl_ch c.2.1.1 || (nl_ch c.2.2.1.1 || nl_ch c.2.2.2.1))) || (List.range 4).any (fun j => decide (c = nf_cl 4 j))) = true := by decide +kernel
theorem nl_vE : (List.range 5).all (fun v => (lx_El v 1).2.2.isEmpty && (lx_El v 1).2.1.all (fun q => !(nl_ch q.1) || nf_E.2.1.any (fun z => decide (z = q)))) = true := by decide +kernel
theorem nl_ho1 : nl_ho.1 = 336 ∧ nl_hF.1 = 336 ∧ nf_h2.1 = 336 := by
  refine ⟨rfl, ?_, ?_⟩
  · unfold nl_hF
    split <;> rfl
  · unfold nf_h2
    split <;> rfl
theorem nl_ft {k : Nat} (hk : k < 336) (h : nl_HC.elem k = true) : ai_cell nl_ho k = none ∧ ai_cell nf_hc k = ai_cell lx_h k ∧ ai_cell nl_hF k = ai_cell nf_h2 k ∧ ai_cell nf_hr k = none ∧ 16 ≤ k := by
  have g := List.all_eq_true.mp nl_fok k (List.mem_range.mpr hk)
  unfold nl_fk at g
  rw [h] at g
  simp only [Bool.and_eq_true, Option.isNone_iff_eq_none] at g
  obtain ⟨g1, g2, g3, g4, g5⟩ := g
  exact ⟨g1, hy_heqO_ok g2, hy_heqO_ok g3, g4, Nat.le_of_ble_eq_true g5⟩
theorem nl_ff {k : Nat} (hk : k < 336) (h : nl_HC.elem k = false) : ai_cell nf_hc k = none ∧ ai_cell nf_h2 k = none ∧ ai_cell nl_ho k = ai_cell lx_h k ∧ ai_cell nl_hF k = ai_cell lx_h k ∧ (nl_HR.elem k = true → ai_cell nf_hr k = ai_cell lx_h k ∧ 16 ≤ k) ∧ (nl_HR.elem k = false → ai_cell nf_hr k = none) := by
  have g := List.all_eq_true.mp nl_fok k (List.mem_range.mpr hk)
  unfold nl_fk at g
  rw [h] at g
  simp only [Bool.and_eq_true, Option.isNone_iff_eq_none] at g
  obtain ⟨g1, g2, g3, g4, g5⟩ := g
  refine ⟨g1, g2, hy_heqO_ok g3, hy_heqO_ok g4, fun q => ?_, fun q => ?_⟩
  · rw [q] at g5
    simp only [Bool.and_eq_true] at g5
    exact ⟨hy_heqO_ok g5.1, Nat.le_of_ble_eq_true g5.2⟩
  · rw [q] at g5
    exact Option.isNone_iff_eq_none.mp g5
theorem nl_syk {p : Nat → Bool} {h : ai_H} (q : nl_syh p h = true) {k : Nat} (hk : k < 336) {d : ai_C} (hd : ai_cell h k = some d) : nl_sy p d = true := by
  have g := List.all_eq_true.mp q k (List.mem_range.mpr hk)
  rw [hd] at g
  exact g
theorem nl_V {tyc : Nat → ClassId} {ws ws' : va_W} {h : ai_H} (hV : cl_V tyc ws) (w : nl_same h ws ws') (hn : [286, 288, 289, 290].all (fun q => (ai_cell h q).isNone) = true) : cl_V tyc ws' := by
  have g : ∀ q, q ∈ [286, 288, 289, 290] → ai_cell h q = none := fun q hq => Option.isNone_iff_eq_none.mp (List.all_eq_true.mp hn q hq)
  obtain ⟨f1, f2, f3, g0, a1, a2, a3, a4, a5⟩ := hV
  exact ⟨f1, f2, f3, g0, cy_ia a1 (w 270 (by omega) (g 286 (by simp))), cy_ia a2 (w 272 (by omega) (g 288 (by simp))), cy_ia a3 (w 273 (by omega) (g 289 (by simp))), cy_ia a4 (w 274 (by omega) (g 290 (by simp))), a5⟩
noncomputable def nf_G0 : ai_G := (nf_E, lx_h, 0, 0)
noncomputable def nl_lo (L : List ai_V) : Bool := L.all (nl_syV (fun t => Nat.ble t 1))
noncomputable def nl_rd : List (Int × ai_X) := [(1, (399, 0))]
noncomputable def nl_GF : ai_G := lx_sp 71 (.ofNat 0) (nf_E, nl_hF, 1, 6)
noncomputable def nl_c3 (f : ai_F) : Bool := lx_kJ [] nl_P (74, 0) f
noncomputable def nl_c2 (g : ai_F) : Bool := (Nat.beq g.1 1405 && (Nat.beq g.2.2.2.2.2.1 1 && Nat.beq g.2.2.2.2.2.2 6)) && ((hy_heq g.2.2.2.2.1 nl_ho && nf_qE g.2.2.2.1) && (nl_lo g.2.1 && (lx_sv 1405 246 nf_hr g.2.2.1 [.inr (.inr (some (some 264))), .inl (399, 0)] [] && (match lx_run [] [23] 16 nl_rd false 1408 g.2.1 [.inl (106, 0)] nl_GF with
  | some fs => fs.all nl_c3
  | none => false))))
noncomputable def nl_c1 (g : ai_F) : Bool := (Nat.beq g.1 1393 && cy_z g) && ((hy_heq g.2.2.2.2.1 lx_h && nf_qE g.2.2.2.1) && (nl_lo g.2.1 && (lx_sk 1393 277 g.2.2.1 [.inr (.inr (some (some 16))), .inl (399, 0), .inr (.inr (some (some 335)))] [] && (match lx_run [] [1405] 16 nl_rd false 1396 g.2.1 [.inl (0, .ofNat 0)] (nf_E, nl_ho, 1, 6) with
  | some fs => fs.all nl_c2
  | none => false))))
theorem nl_row : (match lx_run [] [1393] 16 nl_rd false 40 lx_L [.inl (0, .ofNat 24)] nf_G0 with
  | some fs => fs.all nl_c1
  | none => false) = true := by decide +kernel
theorem nl_pok : lx_pc nl_P = true := by decide +kernel
theorem nl_hmS : (ct_mt 277).2.2.2.2.1.isSome = true := by decide +kernel
section NLM
variable {p : Program} {l : Launch} {e : Env} {R : Room} {s : State} {m : MethodId} {args : Array Value} {below : List Frame} {meth : Method} {c : Code} {Q : State → Prop}
variable {D : va_G} {tyc : Nat → ClassId} {A : Nat → Prop} {sa : ai_B} {ws : va_W} {b Ln z0 v k : Nat} {xs : Nat → Int32}
variable {r r2 : Nat → Int} {ad : Nat → Nat} {H : Heap} {locs : List Loc} {ls : Array Slot} {st : List Value}
theorem nl_lok {L : List ai_V} (h : nl_lo L = true) {r3 r4 : Nat → Int} (h0 : r4 0 = r3 0) (h1 : r4 1 = r3 1) : ∀ b ∈ L, ∀ x, b = .inl x ∨ b = .inr (.inl x) → ai_vx r4 x = ai_vx r3 x := fun b hb x hx => by
  have g := List.all_eq_true.mp h b hb
  have key : x.1 ≤ 1 → ai_vx r4 x = ai_vx r3 x := fun q => by
    show r4 x.1 + x.2 = r3 x.1 + x.2
    rcases (by omega : x.1 = 0 ∨ x.1 = 1) with e | e
    · rw [e, h0]
    · rw [e, h1]
  rcases hx with rfl | rfl
  · exact key (Nat.le_of_ble_eq_true g)
  · exact key (Nat.le_of_ble_eq_true g)
theorem nl_K.weak {h : ai_H} {p2 q2 : Nat → Bool} (g : nl_K tyc ws r ad h q2) (w : ∀ k, p2 k = true → q2 k = true) : nl_K tyc ws r ad h p2 := fun k h1 h2 h3 d hd => g k h1 h2 (w k h3) d hd
set_option maxHeartbeats 16000000 in
theorem nl_main (F : lx_Fr p R s m args meth c D tyc A sa) (hl : l.stackTraces = false) (hRf : 111 ≤ R.frames) (hRl : 8000 ≤ R.locals) (hsa : (z0, b, Ln, xs) ∈ sa.2) (hV : lx_V tyc ws r) (hvk : v ≤ k) (hk4 : k ≤ 4) (hE : ai_gE r (lx_El v 1)) (x2 : ai_ext 399 r r2) (hR : ai_Rel D tyc A s sa ws 7 r2 ad lx_L [.inl (0, .ofNat 24)] nf_G0 H locs ls st) (hi : 0 ≤ r 1 ∧ r 1 + 10 ≤ (Ln : Int)) (h110 : r 74 = (k : Int)) (had : ad 0 = b) (hrd : r2 399 = (xs (r 1 + 1).toNat).toInt) (hb : r 101 = 1) (hnn : 0 ≤ r2 399 ∧ 0 ≤ r2 105 ∧ r2 105 + r2 399 ≤ 1000)
    (kn : lx_Kn p l e R s m args below meth c Q D tyc A sa b (r 1)) : W p l e R s m args below meth c H locs 0 0 Q (F0 m 40 ls st) := by
  have hN := nf_EN.1
  have hnd := nf_EN.2
  obtain ⟨o1, o2, o3⟩ := nl_ho1
  obtain ⟨kk, hkk⟩ : ∃ kk : Nat, r2 399 = (kk : Int) := ⟨(r2 399).toNat, by omega⟩
  have e1 : r2 1 = r 1 := x2 1 (by omega)
  have rd : ∀ r' : Nat → Int, r' 1 = r 1 → r' 399 = r2 399 → ∀ q ∈ nl_rd, ai_vx r' q.2 = (xs (r 1 + q.1).toNat).toInt := fun r' h1 h2 q hq => by
    rcases List.mem_cons.mp hq with rfl | hq
    · show r' 399 + 0 = (xs (r 1 + 1).toNat).toInt
      rw [h2, Int.add_zero]
      exact hrd
    · cases hq
  have rl : ∀ M, 399 < M → ∀ q ∈ nl_rd, q.2.1 < M := fun M hM q hq => by
    rcases List.mem_cons.mp hq with rfl | hq
    · exact hM
    · cases hq
  have lN : ∀ u, u < 401 → u < nf_E.1 := fun u hu => by rw [hN]; exact hu
  have hgh : ∀ h ∈ [lx_h, nf_h2, nl_ho, nf_hr], [286, 288, 289, 290].all (fun q => (ai_cell h q).isNone) = true := fun h hh => List.all_eq_true.mp nl_gh h hh
  have good : ∀ w ∈ ft_W, goodWord w = true := fun w hw => (List.mem_filter.mp hw).2
  have nk : ∀ w ∈ ft_N, ai_nk w = true := fun w hw => (List.mem_filter.mp hw).2
  have hbud := F.2.2.2.2.2.2.2.1
  have hb1 : (1 : Nat) = R.cells := hbud.1
  have hb2 : (6 : Nat) = R.slots := hbud.2
  obtain ⟨-, bu2, bu3, -⟩ := nf_bud2
  have rc3 : (lt_rm 64 277).cells = 1 := by
    show (ct_bud 277).1 = 1
    rw [bu2]
  have rs3 : (lt_rm 64 277).slots = 6 := by
    show (ct_bud 277).2 = 6
    rw [bu2]
  have rc4 : (lt_rm 62 246).cells = 0 := by
    show (ct_bud 246).1 = 0
    rw [bu3]
  have rs4 : (lt_rm 62 246).slots = 0 := by
    show (ct_bud 246).2 = 0
    rw [bu3]
  have hp := nf_plh
  unfold lh_plain at hp
  simp only [Bool.and_eq_true] at hp
  obtain ⟨mok, -⟩ := ls_known hp.1
  have hp2 := mf_plp
  unfold lh_plain at hp2
  simp only [Bool.and_eq_true] at hp2
  obtain ⟨mok2, -⟩ := ls_known hp2.1
  have hrow := nl_row
  split at hrow
  case h_2 => cases hrow
  rename_i fs hrun
  refine lx_ok (k0 := 60) (T := []) (G := nf_G0) F hl trivial (by omega) (by omega) hV.1.pw hsa 16 nl_rd false 40 lx_L _ fs r2 ad H locs ls st hrun hR (lN 1 (by omega)) (by show 0 < 336; omega) (by rw [e1]; exact hi) had (by rw [e1]; exact rd r2 e1 rfl) (rl _ (lN _ (by omega))) (fun g hg r4 ad4 x4 x5 x6 x7 H4 locs4 ls4 st4 hR4 => ?_)
  have x4 : ai_ext nf_E.1 r2 r4 := x4
  have x5 : ai_ext 336 ad ad4 := x5
  rw [hN] at x4
  have hgc := List.all_eq_true.mp hrow g hg
  unfold nl_c1 at hgc
  simp only [Bool.and_eq_true, decide_eq_true_eq] at hgc
  obtain ⟨⟨g1, g2⟩, ⟨g3, g4⟩, g5, g6, g7⟩ := hgc
  have g3 := hy_heq_ok g3
  have g4 := nf_qE_ok g4
  obtain ⟨z1, z2⟩ := cy_z_ok g2
  obtain ⟨idx, b0, ec, hv⟩ := lx_sk_ok g6
  obtain ⟨d1, -, -, -, d5⟩ := ck_286.tab 1393 _ _ _ _ ec
  have hwc : (3 : Nat) = 3 ∧ b0 = (ct_mt 277).2.2.2.2.2 ∧ Cond.static (ct_mt 277).1 ∈ ft_W ∧ Cond.methodLink "LightsMarketLaw" idx (ct_mt 277).1 ∈ ft_W := by
    obtain ⟨y1, y2, y3, y4⟩ := d5 (by omega)
    refine ⟨rfl, y2, y3, ?_⟩
    rcases y4 with y4 | ⟨y4, -⟩
    · exact y4
    · have := nl_hmS
      rw [y4] at this
      cases this
  have hG : g.2.2.2 = (nf_E, lx_h, 0, 0) := Prod.ext g4 (Prod.ext g3 (Prod.ext z1 z2))
  rw [hG] at hR4
  rw [hG, Nat.eq_of_beq_eq_true g1]
  have hE4 : ai_gE r4 nf_E := hR4.env
  have k4 : ∀ u, u < 401 → r4 u = r2 u := x4
  -- the class's cells alone
  obtain ⟨ws1, sm1, K1, hR5⟩ := nl_drop (h := lx_h) (h' := nf_hc) hR4 rfl rfl (fun u hu d hd => by
    cases eu : nl_HC.elem u with
    | true => rw [← (nl_ft hu eu).2.1]; exact hd
    | false =>
      rw [(nl_ff hu eu).1] at hd
      cases hd)
  have hVA : cl_V tyc ws1 := nl_V hV.1 sm1 (hgh lx_h (by simp))
  obtain ⟨-, -, hLL, -⟩ := hR5.wd
  have hLL : ai_gL r4 ad4 nf_E.1 336 7 g.2.1 ls4 := hLL
  refine hs_call0 (G := (nf_E, nf_hc, 0, 0)) (mj := 277) (y := ct_mt 277) (rm := lt_rm 64 277) (pc := 1393) F good nk hwc mok ⟨by show 64 + 0 + 8 + 1 ≤ R.frames; omega, by show 64 * (64 + 0) + 400 + 64 ≤ R.locals; omega⟩ d1 hv hR5 ⟨by rw [rc3, ← hb1]; exact Nat.le_refl _, by rw [rs3, ← hb2]; exact Nat.le_refl _⟩ (fun As gA hWd => nf_help (n := 60) (by omega) hl hVA.pw (by rw [k4 _ (by omega), x2 _ (by omega)]; exact hb) (by rw [k4 _ (by omega), k4 _ (by omega)]; exact hnn) ((k4 _ (by omega)).trans hkk) hWd gA) (fun a0 st0 T v0 rest locs1 he0 hq hrest hS1 => ?_)
  obtain ⟨i, r5, ev, hi0, hz, Wd5, hF⟩ := hq
  cases ev
  have er : rest = [] := by
    cases rest with
    | nil => rfl
    | cons _ _ => exact hrest.elim
  subst er
  have z50 : r5 0 = r4 0 := (hz 0 (by omega)).trans (nf_itK (by decide) (by decide) kk)
  have z51 : r5 1 = r4 1 := (hz 1 (by omega)).trans (nf_itK (by decide) (by decide) kk)
  have h40 : r4 0 = 0 := hE4.1
  have hL5 : ai_gL r5 ad4 nf_E.1 336 7 g.2.1 ls4 := nf_gL2 (nl_lok g5 z50 z51) hLL
  have R5 : ai_Rel D tyc A s sa ws1 7 r5 ad4 g.2.1 [.inl (0, .ofNat 0)] (nf_E, nf_h2, 1, 6) T.heap locs1 ls4 [.int i] := ai_Wd.rel (G := (nf_E, nf_h2, 1, 6)) Wd5 (hS1 hF) (by show ai_gL r5 ad4 nf_E.1 nf_h2.1 7 g.2.1 ls4; rw [o3]; exact hL5) ⟨⟨lN 0 (by omega), i, rfl, by show i.toInt = r5 0 + 0; rw [z50, h40, hi0]; rfl⟩, trivial⟩
  obtain ⟨ws2, sm2, K2, R6⟩ := nl_drop (h := nf_h2) (h' := nl_he) R5 o3 rfl (fun u hu d hd => by
    rw [nl_heN hu] at hd
    cases hd)
  have R6' := nl_swap (r2 := r4) R6 hE4 (nl_lok g5 z50.symm z51.symm) (fun b hb y hy => by
    rcases List.mem_cons.mp hb with rfl | hb
    · rcases hy with hy | hy <;> cases hy
      show r4 0 + _ = r5 0 + _
      rw [z50]
    · cases hb)
  have hVB : cl_V tyc ws2 := nl_V hVA sm2 (hgh nf_h2 (by simp))
  have KO1 : nl_K tyc ws2 r4 ad4 lx_h (fun u => !(nl_HC.elem u)) := (K1.weak (fun _ _ => rfl)).wss sm2 (fun u hu q => (nl_ff hu (by have q : (!(nl_HC.elem u)) = true := q; rw [Bool.not_eq_true'] at q; exact q)).2.1)
  have R7 := nl_back (h := nl_ho) (h' := nl_he) R6' o1 rfl (fun u hu d hd => by
    cases eu : nl_HC.elem u with
    | true =>
      rw [(nl_ft hu eu).1] at hd
      cases hd
    | false =>
      rw [(nl_ff hu eu).2.2.1] at hd
      have u16 : 16 ≤ u := Nat.not_lt.mp (fun q => by
        rw [lx_no16 u q] at hd
        cases hd)
      exact Or.inr ⟨u16, nl_heN hu, KO1 u u16 hu (by show (!(nl_HC.elem u)) = true; rw [eu]; rfl) d hd⟩) (fun u hu _ => nl_heN hu)
  rw [rc3, rs3]
  split at g7
  case h_2 => cases g7
  rename_i fs2 hrun2
  have e41 : r4 1 = r 1 := (k4 1 (by omega)).trans e1
  have had4 : ad4 0 = b := (x5 0 (by omega)).trans had
  refine lx_ok (k0 := 60) (T := []) (G := (nf_E, nl_ho, 1, 6)) F hl trivial (by omega) (by omega) hVB.pw hsa 16 nl_rd false 1396 g.2.1 _ fs2 r4 ad4 T.heap locs1 ls4 [.int i] hrun2 R7 (lN 1 (by omega)) (by show 0 < 336; omega) (by rw [e41]; exact hi) had4 (by rw [e41]; exact rd r4 e41 (k4 _ (by omega))) (rl _ (lN _ (by omega))) (fun g2 hg2 r6 ad6 y4 y5 y6 y7 H5 locs5 ls5 st5 hR8 => ?_)
  have y4 : ai_ext nf_E.1 r4 r6 := y4
  have y5 : ai_ext 336 ad4 ad6 := y5
  rw [hN] at y4
  have hgc2 := List.all_eq_true.mp g7 g2 hg2
  unfold nl_c2 at hgc2
  simp only [Bool.and_eq_true, decide_eq_true_eq] at hgc2
  obtain ⟨⟨f1, f2, f3⟩, ⟨f4, f5⟩, f6, f7, f8⟩ := hgc2
  have f2 := Nat.eq_of_beq_eq_true f2
  have f3 := Nat.eq_of_beq_eq_true f3
  have f4 := hy_heq_ok f4
  have f5 := nf_qE_ok f5
  obtain ⟨idx2, b02, ec2, hv2⟩ := lx_sv_ok f7
  obtain ⟨d12, -, -, -, d52⟩ := ck_286.tab 1405 _ _ _ _ ec2
  have hG2 : g2.2.2.2 = (nf_E, nl_ho, 1, 6) := Prod.ext f5 (Prod.ext f4 (Prod.ext f2 f3))
  rw [hG2] at hR8
  rw [hG2, Nat.eq_of_beq_eq_true f1]
  have hE6 : ai_gE r6 nf_E := hR8.env
  have k6 : ∀ u, u < 401 → r6 u = r2 u := fun u hu => (y4 u hu).trans (k4 u hu)
  obtain ⟨ws3, sm3, K3, hR9⟩ := nl_drop (h := nl_ho) (h' := nf_hr) hR8 rfl rfl (fun u hu d hd => by
    cases eu : nl_HC.elem u with
    | true =>
      rw [(nl_ft hu eu).2.2.2.1] at hd
      cases hd
    | false =>
      obtain ⟨-, -, w3, -, w5, w6⟩ := nl_ff hu eu
      cases er : nl_HR.elem u with
      | true => rw [w3, ← (w5 er).1]; exact hd
      | false =>
        rw [w6 er] at hd
        cases hd)
  have hVC : cl_V tyc ws3 := nl_V hVB sm3 (hgh nl_ho (by simp))
  obtain ⟨-, -, hLL2, -⟩ := hR9.wd
  have hLL2 : ai_gL r6 ad6 nf_E.1 336 7 g2.2.1 ls5 := hLL2
  have c6 : 0 ≤ r6 108 := (hE6.2.2.2.1 _ nf_cmb).2.1
  have J6 : nf_J r6 := by
    have h0 : r 0 = 0 := hE.1
    have J0 := nf_Jof h0 hV.2
    have same : ∀ u, u < 399 → r6 u = r u := fun u hu => (k6 u (by omega)).trans (x2 u hu)
    exact nf_JK J0 (fun u _ _ _ hu => same u hu) (fun j hj hm => (same _ (by omega)).trans ((J0 j hj).2.2.2.2 hm))
  refine hg_callv0 (G := (nf_E, nf_hr, 1, 6)) (mj := 246) (y := ct_mt 246) (rm := lt_rm 62 246) (pc := 1405) F good nk (d52 (by omega)) mok2 ⟨by show 62 + 0 + 8 + 1 ≤ R.frames; omega, by show 64 * (62 + 0) + 400 + 64 ≤ R.locals; omega⟩ d12 hv2 hR9 ⟨by rw [rc4, ← hb1]; exact Nat.le_refl _, by rw [rs4, ← hb2]; exact Nat.le_refl _⟩ (fun As gA hWd => mf_minutes (n := 60) (by omega) hl hVC.pw (by rw [k6 _ (by omega), x2 _ (by omega)]; exact hb) (by rw [k6 _ (by omega), k6 _ (by omega)]; exact hnn) ((k6 _ (by omega)).trans hkk) J6 c6 hWd gA) (fun a1 st1 T2 v1 rest2 locs2 he2 hq2 hrest2 hS2 => ?_)
  obtain ⟨i2, r7, ev2, hi2, hz2, Wd7, hF2⟩ := hq2
  cases ev2
  have er2 : rest2 = [] := by
    cases rest2 with
    | nil => rfl
    | cons _ _ => exact hrest2.elim
  subst er2
  -- the numbers at the end
  obtain ⟨rF, hrF⟩ : ∃ rF : Nat → Int, rF = fun t => if t = 71 then 0 else r5 t := ⟨_, rfl⟩
  have rFo : ∀ t, t ≠ 71 → rF t = r5 t := fun t ht => by
    rw [hrF]
    exact if_neg ht
  have rFc : rF 71 = 0 := by
    rw [hrF]
    exact if_pos rfl
  have r7F : ∀ t, t < 400 → r7 t = rF t := fun t ht => by
    rw [hz2 t ht]
    by_cases q : t = 71
    · subst q
      rw [rFc, nf_itK (by decide) (by decide) kk]
      exact if_pos rfl
    · rw [rFo t q, hz t ht]
      refine nl_dgI (fun u hu hu2 => ?_) kk t q ht
      show (if u = 71 then 0 else r6 u) = r4 u
      rw [if_neg hu]
      exact y4 u (by omega)
  have hE5 : ai_gE r5 nf_E := Wd5.env
  have hE7 : ai_gE r7 nf_E := Wd7.env
  have hEF : ai_gE rF nf_E := by
    refine ⟨(rFo 0 (by decide)).trans hE5.1, hE5.2.1, fun t ht => ?_, fun q hq => ?_, fun q hq => ?_⟩
    · by_cases q : t = 71
      · rw [q, ← r7F 71 (by omega)]
        exact hE7.2.2.1 _ (lN _ (by omega))
      · rw [rFo t q]
        exact hE5.2.2.1 t ht
    · by_cases q1 : q.1 = 71
      · have := hE7.2.2.2.1 q hq
        rw [q1, r7F 71 (by omega)] at this
        rw [q1]
        exact this
      · rw [rFo _ q1]
        exact hE5.2.2.2.1 q hq
    · rw [hnd] at hq
      cases hq
  have z70 : rF 0 = r7 0 := (r7F 0 (by omega)).symm
  have z71 : rF 1 = r7 1 := (r7F 1 (by omega)).symm
  have z60 : r7 0 = r6 0 := by
    rw [hE7.1, hE6.1]
  have z61 : r7 1 = r6 1 := by
    rw [r7F 1 (by omega), rFo 1 (by decide), z51]
    exact (y4 1 (by omega)).symm
  have R10 : ai_Rel D tyc A s sa ws3 7 r7 ad6 g2.2.1 [.inl (106, 0)] (nf_E, nf_hr, 1, 6) T2.heap locs2 ls5 [.int i2] := ai_Wd.rel (G := (nf_E, nf_hr, 1, 6)) Wd7 (hS2 hF2) (nf_gL2 (nl_lok f6 z60 z61) hLL2) ⟨⟨lN 106 (by omega), i2, rfl, by show i2.toInt = r7 106 + 0; rw [Int.add_zero, hi2, hz2 _ (by omega)]⟩, trivial⟩
  obtain ⟨ws4, sm4, K4, R11⟩ := nl_drop (h := nf_hr) (h' := nl_he) R10 rfl rfl (fun u hu d hd => by
    rw [nl_heN hu] at hd
    cases hd)
  have hVD : cl_V tyc ws4 := nl_V hVC sm4 (hgh nf_hr (by simp))
  have R11' := nl_swap (r2 := rF) R11 hEF (nl_lok f6 z70 z71) (fun b hb y hy => by
    rcases List.mem_cons.mp hb with rfl | hb
    · rcases hy with hy | hy <;> cases hy
      show rF 106 + _ = r7 106 + _
      rw [r7F _ (by omega)]
    · cases hb)
  have nHC : ∀ u, u < 336 → nl_HC.elem u = true → ai_cell nl_ho u = none := fun u hu q => (nl_ft hu q).1
  have KA : nl_K tyc ws4 rF ad6 nf_h2 (fun u => nl_HC.elem u) := (((K2.weak (fun _ _ => rfl)).wss sm3 nHC).wss sm4 (fun u hu q => (nl_ft hu q).2.2.2.1)).re (q := nl_pA) (fun u _ hu _ d hd => nl_syk nl_s1 hu hd) (fun t ht => by
    unfold nl_pA at ht
    rw [Bool.and_eq_true, Bool.not_eq_true'] at ht
    exact rFo t (Nat.ne_of_beq_eq_false ht.1)) y5
  have KR : nl_K tyc ws4 rF ad6 nf_hr (fun u => nl_HR.elem u) := (K4.weak (fun _ _ => rfl)).re (q := nl_pR) (fun u _ hu _ d hd => nl_syk nl_s2 hu hd) (fun t ht => (r7F t (Nat.le_of_ble_eq_true ht)).symm) ai_ext.rfl'
  have KO : nl_K tyc ws4 rF ad6 nl_ho (fun u => !(nl_HC.elem u) && !(nl_HR.elem u)) := ((K3.weak (fun _ _ => rfl)).wss sm4 (fun u hu q => by
    simp only [Bool.and_eq_true, Bool.not_eq_true'] at q
    exact (nl_ff hu q.1).2.2.2.2.2 q.2)).re (q := nl_pO) (fun u _ hu q d hd => by
    simp only [Bool.and_eq_true, Bool.not_eq_true'] at q
    have g := List.all_eq_true.mp nl_s3 u (List.mem_range.mpr hu)
    rw [q.1, q.2] at g
    rw [(nl_ff hu q.1).2.2.1] at hd
    rw [hd] at g
    exact g) (fun t ht => by
    unfold nl_pO nl_ch at ht
    simp only [Bool.and_eq_true, Bool.not_eq_true', Bool.or_eq_false_iff, Bool.and_eq_false_iff] at ht
    obtain ⟨⟨a1, a2, a3, a4, a5, a6, a7⟩, a8⟩ := ht
    have a8 : t < 400 := Nat.le_of_ble_eq_true a8
    have a1' : ¬ (370 ≤ t ∧ t < 374) := fun q => by
      rcases a1 with w | w
      · rw [Nat.ble_eq_true_of_le q.1] at w
        cases w
      · rw [show Nat.blt t 374 = true from Nat.ble_eq_true_of_le q.2] at w
        cases w
    rw [rFo t (Nat.ne_of_beq_eq_false a7), hz t a8, nf_itK ⟨a1', Nat.ne_of_beq_eq_false a2, Nat.ne_of_beq_eq_false a3, Nat.ne_of_beq_eq_false a4, Nat.ne_of_beq_eq_false a5⟩ (Nat.ne_of_beq_eq_false a6) kk]
    exact (y4 t (by omega)).symm) ai_ext.rfl'
  have R12 := nl_back (h := nl_hF) (h' := nl_he) R11' o2 rfl (fun u hu d hd => by
    cases eu : nl_HC.elem u with
    | true =>
      obtain ⟨-, -, w3, -, w5⟩ := nl_ft hu eu
      rw [w3] at hd
      exact Or.inr ⟨w5, nl_heN hu, KA u w5 hu eu d hd⟩
    | false =>
      obtain ⟨-, -, w3, w4, w5, -⟩ := nl_ff hu eu
      rw [w4] at hd
      have u16 : 16 ≤ u := Nat.not_lt.mp (fun q => by
        rw [lx_no16 u q] at hd
        cases hd)
      cases er : nl_HR.elem u with
      | true =>
        rw [← (w5 er).1] at hd
        exact Or.inr ⟨u16, nl_heN hu, KR u u16 hu er d hd⟩
      | false =>
        rw [← w3] at hd
        exact Or.inr ⟨u16, nl_heN hu, KO u u16 hu (by show (!(nl_HC.elem u) && !(nl_HR.elem u)) = true; rw [eu, er]; rfl) d hd⟩) (fun u hu _ => nl_heN hu)
  have no16F : ∀ q, q < 16 → ai_cell nl_hF q = none := fun q hq => by
    cases eu : nl_HC.elem q with
    | true =>
      have := (nl_ft (by omega) eu).2.2.2.2
      omega
    | false =>
      rw [(nl_ff (by omega) eu).2.2.2.1]
      exact lx_no16 q hq
  have R13 := lx_sp_ok (t := 71) (k := .ofNat 0) R12 rFc no16F
  have R13 : ai_Rel D tyc A s sa ws4 7 rF ad6 g2.2.1 [.inl (106, 0)] nl_GF T2.heap locs2 ls5 [.int i2] := R13
  split at f8
  case h_2 => cases f8
  rename_i fs3 hrun3
  have eF1 : rF 1 = r 1 := by
    rw [rFo 1 (by decide), z51, e41]
  have eFN : rF 399 = r2 399 := by
    rw [rFo _ (by decide), hz _ (by omega), nf_itK (by decide) (by decide) kk, k4 _ (by omega)]
  have had6 : ad6 0 = b := (y5 0 (by omega)).trans had4
  have n336 : nl_GF.2.1.1 = 336 := lx_spn.trans o2
  have q1 : 1 + (lt_rm 62 246).cells = 1 := by rw [rc4]
  have q2 : 6 + (lt_rm 62 246).slots = 6 := by rw [rs4]
  show W p l e R s m args below meth c T2.heap locs2 (1 + (lt_rm 62 246).cells) (6 + (lt_rm 62 246).slots) Q _
  rw [q1, q2]
  refine lx_ok (k0 := 60) (T := []) (G := nl_GF) F hl trivial (by omega) (by omega) hVD.pw hsa 16 nl_rd false 1408 g2.2.1 _ fs3 rF ad6 T2.heap locs2 ls5 [.int i2] hrun3 R13 (lN 1 (by omega)) (by rw [n336]; omega) (by rw [eF1]; exact hi) had6 (by rw [eF1]; exact rd rF eF1 eFN) (rl _ (lN _ (by omega))) (fun g3 hg3 r8 ad8 u4 u5 u6 u7 H6 locs6 ls6 st6 hR14 => ?_)
  have u4 : ai_ext nf_E.1 rF r8 := u4
  rw [hN] at u4
  have u5 : ai_ext 336 ad6 ad8 := by
    rw [n336] at u5
    exact u5
  -- the invariant and the bounds
  have rFr : ∀ t, t < 399 → nl_ch t = false → rF t = r t := fun t ht hc => by
    unfold nl_ch at hc
    simp only [Bool.or_eq_false_iff, Bool.and_eq_false_iff] at hc
    obtain ⟨a1, a2, a3, a4, a5, a6, a7⟩ := hc
    have a1' : ¬ (370 ≤ t ∧ t < 374) := fun q => by
      rcases a1 with w | w
      · rw [Nat.ble_eq_true_of_le q.1] at w
        cases w
      · rw [show Nat.blt t 374 = true from Nat.ble_eq_true_of_le q.2] at w
        cases w
    rw [rFo t (Nat.ne_of_beq_eq_false a7), hz t (by omega), nf_itK ⟨a1', Nat.ne_of_beq_eq_false a2, Nat.ne_of_beq_eq_false a3, Nat.ne_of_beq_eq_false a4, Nat.ne_of_beq_eq_false a5⟩ (Nat.ne_of_beq_eq_false a6) kk, k4 t (by omega), x2 t ht]
  have JF : lx_J rF := fun c hc hgd => by
    have g := List.all_eq_true.mp nl_jcc c hc
    rw [Bool.or_eq_true] at g
    obtain ⟨h1, h2, h3, h4⟩ := lx_jt hc
    have ltN : ∀ t ∈ lx_Jt, t < 399 := fun t ht => by
      have w : lx_Jt.all (fun t => Nat.blt t 399) = true := by decide +kernel
      exact Nat.le_of_ble_eq_true (List.all_eq_true.mp w t ht)
    rcases g with g | g
    · rw [Bool.not_eq_true'] at g
      simp only [Bool.or_eq_false_iff] at g
      obtain ⟨b1, b2, b3, b4⟩ := g
      have kx : ∀ x : ai_X, x.1 ∈ lx_Jt → nl_ch x.1 = false → ai_vx rF x = ai_vx r x := fun x hx hx2 => by
        show rF x.1 + x.2 = r x.1 + x.2
        rw [rFr _ (ltN _ hx) hx2]
      rw [kx _ h1 b1, kx _ h2 b2] at hgd
      rw [kx _ h3 b3, kx _ h4 b4]
      exact hV.2 c hc hgd
    · obtain ⟨j, j1, j2⟩ := List.any_eq_true.mp g
      have j2 := of_decide_eq_true j2
      subst j2
      have hj := List.mem_range.mp j1
      have J7 := (nf_itJ (r := r4) (nf_JC (a := r6) (fun t ht => (y4 t (by omega)).symm) J6) (by rw [← y4 108 (by omega)]; exact c6) kk).1
      have g5 := (J7 j hj).2.2.2.2
      have a : rF 110 = nf_it kk r4 110 := (rFo _ (by decide)).trans (hz _ (by omega))
      have a' : rF (370 + j) = nf_it kk r4 (370 + j) := (rFo _ (by omega)).trans (hz _ (by omega))
      have hgd : rF 110 + 0 ≤ rF 0 + (j : Int) := hgd
      have hF0 : rF 0 = 0 := hEF.1
      show rF (370 + j) + 0 = rF 0 + 0
      rw [a', g5 (by rw [← a]; omega), hF0]
  have hEv : ai_gE rF (lx_El v 1) := by
    have g := List.all_eq_true.mp nl_vE v (List.mem_range.mpr (by omega))
    rw [Bool.and_eq_true] at g
    obtain ⟨v1, v2⟩ := g
    have nE : (lx_El v 1).1 = 399 := by rw [lx_E5e v, lx_E5N]
    refine ⟨hEF.1, hE.2.1, fun t ht => hEF.2.2.1 t (lN _ (by omega)), fun q hq => ⟨(hE.2.2.2.1 q hq).1, ?_⟩, fun q hq => ?_⟩
    · have w := List.all_eq_true.mp v2 q hq
      rw [Bool.or_eq_true] at w
      rcases w with w | w
      · rw [Bool.not_eq_true'] at w
        rw [rFr q.1 (by rw [← nE]; exact (hE.2.2.2.1 q hq).1) w]
        exact (hE.2.2.2.1 q hq).2
      · obtain ⟨z, w1, w2⟩ := List.any_eq_true.mp w
        have w2 := of_decide_eq_true w2
        subst w2
        exact (hEF.2.2.2.1 _ w1).2
    · rw [List.isEmpty_iff.mp v1] at hq
      cases hq
  have hg3c := List.all_eq_true.mp f8 g3 hg3
  obtain ⟨t1, t2, t3, r9, hR15, t4, t5, J9⟩ := lx_fullK hEv JF (by omega) nl_pok hg3c (fun u hu => u4 u (by omega)) hR14
  rw [t1]
  have h110F : rF 74 = (k : Int) := (rFr _ (by omega) (by decide)).trans h110
  exact kn v k ws4 r9 ad8 H6 locs6 ls6 st6 _ _ hvk hk4 t2 t3 ⟨hVD, J9⟩ hR15 (by rw [t4, u4 1 (by omega), eF1]) (by rw [t5]; show r8 74 + 0 = _; rw [u4 74 (by omega), h110F, Int.add_zero]) ((u5 0 (by omega)).trans had6)
end NLM
