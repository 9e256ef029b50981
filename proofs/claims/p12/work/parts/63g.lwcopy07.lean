/-! THE LAW: copy -/
theorem lx_yy : ∀ f, f < 12 → ∀ t, t < 12 → lx_ck5 f t = true := fun f h => match f, h with
  | 0, _ => lx_yr0_
  | 1, _ => lx_yr1_
  | 2, _ => lx_yr2_
  | 3, _ => lx_yr3_
  | 4, _ => lx_yr4_
  | 5, _ => lx_yr5_
  | 6, _ => lx_yr6_
  | 7, _ => lx_yr7_
  | 8, _ => lx_yr8_
  | 9, _ => lx_yr9_
  | 10, _ => lx_yr10_
  | 11, _ => lx_yr11_
  | n + 12, h => absurd h (by omega)
theorem cl_V.ws {tyc : Nat → ClassId} {ws ws' : va_W} {r : Nat → Int} (h : cl_V tyc ws r) (g : ∀ z ∈ gw_l, ws'[z.1 - 16]? = ws[z.1 - 16]?) : cl_V tyc ws' r := by
  obtain ⟨M, h1, h2⟩ := h
  exact ⟨M, fun z hz => gw_A (h1 z hz) (g z hz), h2⟩
theorem cl_V.sm {tyc : Nat → ClassId} {ws ws' : va_W} {r : Nat → Int} (h : cl_V tyc ws r) (g : cy_sm ws ws') : cl_V tyc ws' r := h.ws (fun z hz => g _ (by
  have w : gw_l.all (fun z => !(cy_gh (z.1 - 16))) = true := by decide
  have e := List.all_eq_true.mp w z hz
  rw [Bool.not_eq_true'] at e
  exact e))
theorem cy_h3n {h : ai_H} {c : Nat} : (cy_h3 h c).1 = h.1 := by
  unfold cy_h3
  split <;> rfl
theorem cy_hmn {h : ai_H} : (cy_hm h).1 = h.1 := by
  unfold cy_hm
  split <;> rfl
theorem cy_261h : (ct_mt 261).2.2.2.2.1.isSome = true := by decide +kernel
theorem lx_335 : ∃ d0 : Int × Int, ai_cell lx_hd 335 = some (.inr (.inl (1, 1, d0.1, d0.2, []))) := ⟨(ai_lo64, ai_hi64), hy_heqO_ok (by decide +kernel)⟩
theorem lx_n2 {G : ai_G} {q : Int × Int} : (hg_new G q).2 = G.2 := by
  obtain ⟨⟨N, lb, ds⟩, G2⟩ := G
  rfl
theorem lx_nE {E : ai_E} {h h' : ai_H} {c s : Nat} {q : Int × Int} : (hg_new (E, h, c, s) q).1 = (hg_new (E, h', c, s) q).1 := by
  obtain ⟨N, lb, ds⟩ := E
  rfl
section LCY
variable {p : Program} {l : Launch} {e : Env} {R : Room} {s : State} {m : MethodId} {args : Array Value} {below : List Frame} {meth : Method} {c : Code} {Q : State → Prop}
variable {D : va_G} {tyc : Nat → ClassId} {A : Nat → Prop} {sa : ai_B} {ws : va_W} {b Ln z0 v k : Nat} {xs : Nat → Int32}
variable {r : Nat → Int} {ad : Nat → Nat} {H : Heap} {locs : List Loc} {ls : Array Slot} {st : List Value}
set_option maxHeartbeats 8000000 in
/-- sheets that are there -/
theorem lx_copyH (F : lx_Fr p R s m args meth c D tyc A sa) (hl : l.stackTraces = false) (hRf : 111 ≤ R.frames) (hRl : 8000 ≤ R.locals) (hsa : (z0, b, Ln, xs) ∈ sa.2) (hV : lx_V tyc ws r) (hvk : v ≤ k) (hk4 : k ≤ 4) {f t : Nat} (hf : f < 12) (ht : t < 12) (hmn : (t : Int) + 1 ≤ r 74) {r3 : Nat → Int} (hE : ai_gE r (lx_El v 1)) (x3 : ai_ext 382 r r3) (hR : ai_Rel D tyc A s sa ws 7 r3 ad lx_L [.inl (0, .ofNat 5)] ((lx_y4 (lx_mx f t)).1, lx_h, 0, 0) H locs ls st) (hi : 0 ≤ r 1 ∧ r 1 + 10 ≤ (Ln : Int)) (h110 : r 73 = (k : Int)) (had : ad 0 = b)
    (hrd : ∀ q ∈ lx_rd5 f t, ai_vx r3 q.2 = (xs (r 1 + q.1).toNat).toInt)
    (kn : lx_Kn p l e R s m args below meth c Q D tyc A sa b (r 1)) : W p l e R s m args below meth c H locs 0 0 Q (F0 m 40 ls st) := by
  have hN : lx_E5.1 = 382 := lx_E5N
  have hN4 : (lx_y4 (lx_mx f t)).1.1 = 385 := by
    have h : (lx_y4 (lx_mx f t)).1.1 = lx_E5.1 + 1 + 1 + 1 := by
      show (hg_new (hg_new (hg_new lx_y0 (ai_lo32, ai_hi32)) (ai_lo32, ai_hi32)) (ai_lo32, ai_hi32)).1.1 = _
      rw [cy_newN, cy_newN, cy_newN]
      rfl
    rw [h, hN]
  have e31 : r3 1 = r 1 := x3 1 (by omega)
  obtain ⟨wsA, w1, w2, hR5⟩ := gh_drop (h := lx_h) (h' := lx_hd) hR rfl (fun k0 hk0 d hd => lx_hdc (by have : lx_h.1 = 336 := rfl; omega) hd)
  have hn4 := lx_qf.2.2.2.2
  simp only [Bool.and_eq_true, Option.isNone_iff_eq_none] at hn4
  obtain ⟨n1, n2, n3, n4⟩ := hn4
  have hVA : cl_V tyc wsA r := hV.1.ws (fun z hz => by
    have b := gw_lb z hz
    have w : gw_l.all (fun z => (ai_cell lx_h z.1).isNone) = true := by decide +kernel
    exact w1 (z.1 - 16) (by rw [show z.1 - 16 + 16 = z.1 by omega]; exact b.2) (by rw [show z.1 - 16 + 16 = z.1 by omega]; exact Option.isNone_iff_eq_none.mp (List.all_eq_true.mp w z hz)))
  have h30 : r3 0 = 0 := hR.env.1
  have gA : ∀ q, q ∈ lx_qs → ∃ fq : Nat → Int32, hg_ia tyc wsA q (lx_qn q) fq ∧ (70 ≤ q → q ≤ 81 → ∀ j, j < 12 → (fq j).toInt = r (225 + (12 * (q - 70) + j))) ∧ (q = 283 → ∀ j, j < 144 → (fq j).toInt = r (225 + (0 + j))) := fun q hq => by
    obtain ⟨c1, c2⟩ := lx_qc hq
    obtain ⟨x, hw, hg⟩ := w2 q (by omega) (by show q < 336; omega) _ c2
    rcases c1 with c1 | rfl | rfl
    · rw [lx_yTr c1] at hg
      have hn : lx_qn q = 12 := by
        have := (lx_qr (s := q - 70) (by omega)).2
        rw [show 70 + (q - 70) = q by omega] at this
        exact this
      rw [hn]
      rcases hg with ⟨e0, -⟩ | ⟨-, fq, rfl, -, hov⟩
      · cases e0
      · refine ⟨fq, ⟨_, hw⟩, fun _ _ j hj => ?_, fun e => by omega⟩
        have := lx_tk_of h30 (List.mem_range.mpr hj) (hov j hj)
        exact this.trans (x3 _ (by omega))
    · rw [lx_yTg.1] at hg
      rcases hg with ⟨e0, -⟩ | ⟨-, fq, rfl, -, hov⟩
      · cases e0
      · refine ⟨fq, ⟨_, hw⟩, fun _ e => by omega, fun _ j hj => ?_⟩
        have := lx_tk_of h30 (List.mem_range.mpr hj) (hov j hj)
        exact this.trans (x3 _ (by omega))
    · rw [lx_yTg.2] at hg
      rcases hg with ⟨e0, -⟩ | ⟨-, fq, rfl, -⟩
      · cases e0
      · exact ⟨fq, ⟨_, hw⟩, fun _ e => by omega, fun e => by omega⟩
  obtain ⟨F', hF'⟩ : ∃ F' : Nat → Nat → Int32, ∀ q, q ∈ lx_qs → hg_ia tyc wsA q (lx_qn q) (F' q) ∧ (70 ≤ q → q ≤ 81 → ∀ j, j < 12 → (F' q j).toInt = r (225 + (12 * (q - 70) + j))) ∧ (q = 283 → ∀ j, j < 144 → (F' q j).toInt = r (225 + (0 + j))) := ⟨fun q => if h : q ∈ lx_qs then Classical.choose (gA q h) else fun _ => 0, fun q h => by
    show hg_ia tyc wsA q (lx_qn q) (if h : q ∈ lx_qs then Classical.choose (gA q h) else fun _ => 0) ∧ (70 ≤ q → q ≤ 81 → ∀ j, j < 12 → ((if h : q ∈ lx_qs then Classical.choose (gA q h) else fun _ => 0) j).toInt = r (225 + (12 * (q - 70) + j))) ∧ (q = 283 → ∀ j, j < 144 → ((if h : q ∈ lx_qs then Classical.choose (gA q h) else fun _ => 0) j).toInt = r (225 + (0 + j)))
    rw [dif_pos h]
    exact Classical.choose_spec (gA q h)⟩
  have hWA : cy_W tyc wsA (fun s => F' (70 + s)) (F' 283) (F' 284) := ⟨fun s hs => by
    obtain ⟨q1, q2⟩ := lx_qr hs
    have := (hF' _ q1).1
    rw [q2] at this
    exact this, (hF' 283 (List.mem_of_elem_eq_true lx_qf.2.2.1)).1, (hF' 284 (List.mem_of_elem_eq_true lx_qf.2.2.2.1)).1⟩
  have hrowv : ∀ s, s < 12 → ∀ j, j < 12 → (F' (70 + s) j).toInt = r (225 + (12 * s + j)) := fun s hs j hj => by
    have := (hF' _ (lx_qr hs).1).2.1 (by omega) (by omega) j hj
    rw [show 70 + s - 70 = s by omega] at this
    exact this
  have hrgv : ∀ j, j < 144 → (F' 283 j).toInt = r (225 + j) := fun j hj => by
    have := (hF' 283 (List.mem_of_elem_eq_true lx_qf.2.2.1)).2.2 rfl j hj
    rw [show 0 + j = j by omega] at this
    exact this
  have hsame : ∀ s, s < 12 → ∀ j, j < 12 → F' (70 + s) j = F' 283 (12 * s + j) := fun s hs j hj => Int32.toInt_inj.mp (by rw [hrowv s hs j hj, hrgv _ (by omega)])
  have hck := lx_yy f hf t ht
  unfold lx_ck5 at hck
  split at hck
  · rename_i fs hrun
    refine lx_ok (k0 := 60) (T := []) (G := lx_y4 (lx_mx f t)) F hl trivial (by omega) (by omega) hVA.pw hsa 16 (lx_rd5 f t) false 40 lx_L _ fs r3 ad H locs ls st hrun hR5 (by rw [hN4]; omega) (by show 0 < 336; omega) (by rw [e31]; exact hi) had (by rw [e31]; exact hrd) (fun q hq => ?_) (fun g hg r4 ad4 x4 x5 x6 x7 H4 locs4 ls4 st4 hR6 => ?_)
    · rw [hN4]
      unfold lx_rd5 at hq
      simp only [List.mem_cons, List.not_mem_nil, or_false] at hq
      rcases hq with rfl | rfl | rfl | rfl | rfl
      · show 0 < 385; omega
      · show 382 < 385; omega
      · show 0 < 385; omega
      · show 383 < 385; omega
      · show 384 < 385; omega
    rw [hN4] at x4 x6
    have hgc := List.all_eq_true.mp hck g hg
    unfold lx_yc2 at hgc
    simp only [Bool.and_eq_true] at hgc
    obtain ⟨e1, ⟨h1, h2⟩, hsk, hck3, hall⟩ := hgc
    have hh := hy_heq_ok h1
    obtain ⟨z1, z2⟩ := cy_z_ok h2
    obtain ⟨idx, b0, ec, hv⟩ := lx_sk_ok hsk
    obtain ⟨d1, -, -, -, d5⟩ := ck_286.tab 518 _ _ _ _ ec
    have hp := cy_pl261
    unfold lh_plain at hp
    simp only [Bool.and_eq_true] at hp
    obtain ⟨mok, -⟩ := ls_known hp.1
    have hp2 := cy_pl182
    unfold lh_plain at hp2
    simp only [Bool.and_eq_true] at hp2
    obtain ⟨mok2, -⟩ := ls_known hp2.1
    have hwc : (3 : Nat) = 3 ∧ b0 = (ct_mt 261).2.2.2.2.2 ∧ Cond.static (ct_mt 261).1 ∈ ft_W ∧ Cond.methodLink "LightsMarketLaw" idx (ct_mt 261).1 ∈ ft_W := by
      obtain ⟨y1, y2, y3, y4⟩ := d5 (by omega)
      refine ⟨rfl, y2, y3, ?_⟩
      rcases y4 with y4 | ⟨y4, -⟩
      · exact y4
      · have := cy_261h
        rw [y4] at this
        cases this
    have hbud := F.2.2.2.2.2.2.2.1
    have hb1 : (1 : Nat) = R.cells := hbud.1
    have hb2 : (6 : Nat) = R.slots := hbud.2
    obtain ⟨-, -, b3, b4⟩ := cy_b138
    have rc3 : (lt_rm 63 261).cells = 1 := by
      show (ct_bud 261).1 = 1
      rw [b3]
    have rs3 : (lt_rm 63 261).slots = 6 := by
      show (ct_bud 261).2 = 6
      rw [b3]
    have rc4 : (lt_rm 61 182).cells = 0 := by
      show (ct_bud 182).1 = 0
      rw [b4]
    have rs4 : (lt_rm 61 182).slots = 0 := by
      show (ct_bud 182).2 = 0
      rw [b4]
    obtain ⟨-, -, hLL, -⟩ := hR6.wd
    have good : ∀ w ∈ ft_W, goodWord w = true := fun w hw => (List.mem_filter.mp hw).2
    have nk : ∀ w ∈ ft_N, ai_nk w = true := fun w hw => (List.mem_filter.mp hw).2
    rw [Nat.eq_of_beq_eq_true e1]
    refine hs_call0 (G := g.2.2.2) (mj := 261) (y := ct_mt 261) (rm := lt_rm 63 261) (pc := 518) F good nk hwc mok ⟨by show 63 + 0 + 8 + 1 ≤ R.frames; omega, by show 64 * (63 + 0) + 400 + 64 ≤ R.locals; omega⟩ d1 hv hR6 ⟨by rw [z1, rc3, ← hb1]; exact Nat.le_refl _, by rw [z2, rs3, ← hb2]; exact Nat.le_refl _⟩ (fun As gA hWd => cy_help (n := 60) (by omega) hl hVA.pw hf ht hck3 hWA hWd gA) (fun a0 st0 T v0 rest locs1 he0 hq hrest hS1 => ?_)
    obtain ⟨i, wsB, ev, hi0, smB, WB, WdB, hF⟩ := hq
    cases ev
    have er : rest = [] := by
      cases rest with
      | nil => rfl
      | cons _ _ => exact hrest.elim
    subst er
    generalize hcv : cy_val r4 (213 + f, 0) (213 + t, 0) (201 + f, 0) (201 + t, 0) (382, 0) (383, 0) (384, 0) = cv at WB WdB
    have hcv4 : cv < 4 := by
      rw [← hcv]
      exact cy_code_le
    have h6 : cy_six g.2.2.2.1 (213 + f, 0) (213 + t, 0) (201 + f, 0) (201 + t, 0) (382, 0) (383, 0) (384, 0) = true := by
      unfold cy_ck3 at hck3
      simp only [Bool.and_eq_true] at hck3
      exact hck3.1.2
    split at hall
    · rename_i fs2 hrun2
      rw [hh] at WdB
      have hL2 : ai_gL r4 ad4 g.2.2.2.1.1 (cy_h3 lx_hd cv).1 7 g.2.1 ls4 := by
        rw [cy_h3n, ← hh]
        exact hLL
      have hE4 := WdB.env
      have hE4 : ai_gE r4 g.2.2.2.1 := hE4
      have hR7 : ai_Rel D tyc A s sa wsB 7 r4 ad4 g.2.1 [.inl (0, .ofNat 0)] (g.2.2.2.1, cy_h3 lx_hd cv, 1, 6) T.heap locs1 ls4 [.int i] := ai_Wd.rel (G := (g.2.2.2.1, cy_h3 lx_hd cv, 1, 6)) WdB (hS1 hF) hL2 ⟨⟨hE4.2.1, i, rfl, by show i.toInt = r4 0 + 0; rw [hE4.1, hi0]; rfl⟩, trivial⟩
      obtain ⟨r4', w1', w2', hR7a⟩ := hk_add hR7 (q := (0, 3)) (x := (cv : Int)) ⟨by show (0 : Int) ≤ _; omega, by show _ ≤ (3 : Int); omega⟩ (by unfold ai_small ai_lo64 ai_hi64; omega)
      have w1' : ai_ext g.2.2.2.1.1 r4 r4' := w1'
      have w2' : r4' g.2.2.2.1.1 = (cv : Int) := w2'
      have nX : (lx_yx g).1.1 = g.2.2.2.1.1 + 1 := cy_newN _ _
      have hR7' : ai_Rel D tyc A s sa wsB 7 r4' ad4 g.2.1 [.inl (0, .ofNat 0)] (lx_yx g) T.heap locs1 ls4 [.int i] := by
        obtain ⟨d0, e0⟩ := lx_335
        have c1 : cy_h3 lx_hd cv = (lx_hd.1, ai_tset 9 lx_hd.2 335 (some (.inr (.inl (1, 1, d0.1, d0.2, [((0, .ofNat 0), (0, .ofNat cv))]))))) := by
          unfold cy_h3
          rw [e0]
        have c2 : lx_h3 (g.2.2.2.1.1, 0) lx_hd = (lx_hd.1, ai_tset 9 lx_hd.2 335 (some (.inr (.inl (1, 1, d0.1, d0.2, [((0, .ofNat 0), (g.2.2.2.1.1, 0))]))))) := by
          unfold lx_h3
          rw [e0]
        have hc335 : ai_cell (cy_h3 lx_hd cv) 335 = some (.inr (.inl (1, 1, d0.1, d0.2, [((0, .ofNat 0), (0, .ofNat cv))]))) := by
          rw [c1]
          have := ai_tget_set (some (.inr (.inl (1, 1, d0.1, d0.2, [((0, .ofNat 0), (0, .ofNat cv))])) : ai_C)) 9 lx_hd.2 335 335 (by decide) (by decide)
          rw [if_pos rfl] at this
          exact this
        have g1N := cy_newN (G := (g.2.2.2.1, cy_h3 lx_hd cv, 1, 6)) (q := (0, 3))
        have g2N := lx_n2 (G := (g.2.2.2.1, cy_h3 lx_hd cv, 1, 6)) (q := (0, 3))
        have gE : (lx_yx g).1 = (hg_new (g.2.2.2.1, cy_h3 lx_hd cv, 1, 6) (0, 3)).1 := lx_nE
        generalize hg_new (g.2.2.2.1, cy_h3 lx_hd cv, 1, 6) (0, 3) = G9 at hR7a g1N g2N gE
        have g1N : G9.1.1 = g.2.2.2.1.1 + 1 := g1N
        have g2N : G9.2 = (cy_h3 lx_hd cv, 1, 6) := g2N
        have h40 : r4' 0 = 0 := hR7a.env.1
        have hR7b := lx_cell (c' := .inr (.inl (1, 1, d0.1, d0.2, [((0, .ofNat 0), (g.2.2.2.1.1, 0))]))) hR7a (q := 335) (by decide) (by decide) (by rw [g2N]; exact hc335) (fun e he => by
          have tr : ∀ {f : Nat → Int}, ai_gK r4' G9.1.1 d0.1 d0.2 [((0, .ofNat 0), (0, .ofNat cv))] 1 f → ai_gK r4' G9.1.1 d0.1 d0.2 [((0, .ofNat 0), (g.2.2.2.1.1, 0))] 1 f := fun {f} gk => by
            refine ⟨fun z hz => ?_, fun j hj => ?_⟩
            · rcases List.mem_cons.mp hz with rfl | hz
              · exact ⟨by rw [g1N]; show 0 < _; omega, by rw [g1N]; show g.2.2.2.1.1 < g.2.2.2.1.1 + 1; omega⟩
              · cases hz
            · have gj := gk.2 j hj
              refine ⟨fun q => ?_, fun q => gj.2 q⟩
              have := gj.1 q
              rw [this]
              show r4' 0 + (cv : Int) = r4' g.2.2.2.1.1 + 0
              rw [h40, w2']
              omega
          rcases he with ⟨g1, f9, g2, g3⟩ | ⟨g1, f9, g2, g3⟩
          · exact Or.inl ⟨g1, f9, g2, tr g3⟩
          · exact Or.inr ⟨g1, f9, g2, tr g3⟩)
        have eG : lx_yx g = (G9.1, (G9.2.1.1, ai_tset 9 G9.2.1.2 335 (some (.inr (.inl (1, 1, d0.1, d0.2, [((0, .ofNat 0), (g.2.2.2.1.1, 0))]))))), G9.2.2) := by
          refine Prod.ext gE ?_
          rw [g2N]
          show (lx_h3 (g.2.2.2.1.1, 0) lx_hd, 1, 6) = (((cy_h3 lx_hd cv).1, ai_tset 9 (cy_h3 lx_hd cv).2 335 _), 1, 6)
          rw [c2, c1]
          show ((lx_hd.1, ai_tset 9 lx_hd.2 335 _), 1, 6) = ((lx_hd.1, ai_tset 9 (ai_tset 9 lx_hd.2 335 _) 335 _), 1, 6)
          rw [hy_tset2]
        rw [eG]
        exact hR7b
      have hVB := hVA.sm smB
      have e41 : r4' 1 = r 1 := (w1' 1 (by omega)).trans ((x4 1 (by omega)).trans e31)
      have q1 : g.2.2.2.2.2.1 + (lt_rm 63 261).cells = 1 := by rw [z1, rc3]
      have q2 : g.2.2.2.2.2.2 + (lt_rm 63 261).slots = 6 := by rw [z2, rs3]
      rw [q1, q2]
      have had4 : ad4 0 = b := (x5 0 (by show 0 < 336; omega)).trans had
      have hrl : ∀ (M : Nat), 385 ≤ M → ∀ q ∈ lx_rd5 f t, q.2.1 < M := fun M hM q hq => by
        unfold lx_rd5 at hq
        simp only [List.mem_cons, List.not_mem_nil, or_false] at hq
        rcases hq with rfl | rfl | rfl | rfl | rfl
        · show 0 < M; omega
        · show 382 < M; omega
        · show 0 < M; omega
        · show 383 < M; omega
        · show 384 < M; omega
      have hrd4 : ∀ q ∈ lx_rd5 f t, ai_vx r4' q.2 = (xs (r 1 + q.1).toNat).toInt := fun q hq => by
        rw [← hrd q hq, ← x4.vx (hrl 385 (Nat.le_refl _) q hq)]
        exact w1'.vx (hrl _ x6 q hq)
      have h3n : (lx_yx g).2.1.1 = 336 := by
        show (lx_h3 (g.2.2.2.1.1, 0) lx_hd).1 = 336
        unfold lx_h3
        split <;> rfl
      refine lx_ok (k0 := 60) (T := []) (G := lx_yx g) F hl trivial (by omega) (by omega) hVB.pw hsa 16 (lx_rd5 f t) false 521 g.2.1 _ fs2 r4' ad4 T.heap locs1 ls4 [.int i] hrun2 hR7' (by rw [nX]; omega) (by rw [h3n]; omega) (by rw [e41]; exact hi) had4 (by rw [e41]; exact hrd4) (hrl _ (by rw [nX]; omega)) (fun g2 hg2 r5 ad5 y4 y5 y6 y7 H5 locs5 ls5 st5 hR8 => ?_)
      rw [nX] at y4 y6
      rw [h3n] at y5 y7
      have y4' : ai_ext (g.2.2.2.1.1 + 1) r4' r5 := y4
      have y4 : ai_ext g.2.2.2.1.1 r4 r5 := fun u hu => (y4' u (by omega)).trans (w1' u hu)
      have hX5 : r5 g.2.2.2.1.1 = (cv : Int) := (y4' _ (by omega)).trans w2'
      have y6' : g.2.2.2.1.1 < g2.2.2.2.1.1 := y6
      have y6 : g.2.2.2.1.1 ≤ g2.2.2.2.1.1 := by omega
      have hgc2 := List.all_eq_true.mp hall g2 hg2
      unfold lx_yc3 at hgc2
      simp only [Bool.and_eq_true] at hgc2
      obtain ⟨f1, ⟨f2, f3⟩, ⟨f4, f5⟩, hsv, hck4, hfin⟩ := hgc2
      have f2 := Nat.eq_of_beq_eq_true f2
      have f3 := Nat.eq_of_beq_eq_true f3
      obtain ⟨idx2, b02, ec2, hv2⟩ := lx_sv_ok hsv
      obtain ⟨d12, -, -, -, d52⟩ := ck_286.tab 554 _ _ _ _ ec2
      obtain ⟨-, -, hLL2, -⟩ := hR8.wd
      rw [Nat.eq_of_beq_eq_true f1]
      refine hg_callv0 (G := g2.2.2.2) (mj := 182) (y := ct_mt 182) (rm := lt_rm 61 182) (pc := 554) F good nk (d52 (by omega)) mok2 ⟨by show 61 + 0 + 8 + 1 ≤ R.frames; omega, by show 64 * (61 + 0) + 400 + 64 ≤ R.locals; omega⟩ d12 hv2 hR8 ⟨by rw [f2, rc4, ← hb1]; exact Nat.le_refl _, by rw [f3, rs4, ← hb2]; exact Nat.le_refl _⟩ (fun As gA hWd => cy_mcopy (n := 60) (by omega) hl hVB.pw hf ht hck4 WB hWd gA) (fun a1 st1 T2 v1 rest2 locs2 he2 hq2 hrest2 hS2 => ?_)
      obtain ⟨i2, wsC, bfC, ev2, hi2, smC, WC, WdC, hF2⟩ := hq2
      cases ev2
      have er2 : rest2 = [] := by
        cases rest2 with
        | nil => rfl
        | cons _ _ => exact hrest2.elim
      subst er2
      have hcv5 : cy_val r5 (213 + f, 0) (213 + t, 0) (201 + f, 0) (201 + t, 0) (382, 0) (383, 0) (384, 0) = cv := (cy_val_x h6 y4).trans hcv
      rw [hcv5] at hi2
      have hVC := hVB.sm smC
      have hE5 : ai_gE r5 g2.2.2.2.1 := WdC.env
      have hL3 : ai_gL r5 ad5 g2.2.2.2.1.1 (cy_hm g2.2.2.2.2.1).1 7 g2.2.1 ls5 := by
        rw [cy_hmn]
        exact hLL2
      have hR9 : ai_Rel D tyc A s sa wsC 7 r5 ad5 g2.2.1 [.inl (g.2.2.2.1.1, 0)] (g2.2.2.2.1, cy_hm g2.2.2.2.2.1, 1, 6) T2.heap locs2 ls5 [.int i2] := ai_Wd.rel (G := (g2.2.2.2.1, cy_hm g2.2.2.2.2.1, 1, 6)) WdC (hS2 hF2) hL3 ⟨⟨y6', i2, rfl, by show i2.toInt = r5 g.2.2.2.1.1 + 0; rw [hX5, Int.add_zero, hi2]⟩, trivial⟩
      have h512 := Nat.le_of_ble_eq_true f5
      -- what the rows hold now
      have xr5 : ai_ext 382 r r5 := fun u hu => (y4 u (by omega)).trans ((x4 u (by omega)).trans (x3 u hu))
      have hE50 : ai_gE r lx_E5 := lx_E5_ok hE
      have hsz : ∀ q, q < 12 → r (213 + q) ≤ 12 := fun q hq => (hE50.2.2.2.1 _ (lx_sz12 q hq)).2.2
      have eva : ai_vx r5 (382, 0) = ai_vx r4 (382, 0) := y4.vx (by show 382 < g.2.2.2.1.1; omega)
      have evo : ai_vx r5 (383, 0) = ai_vx r4 (383, 0) := y4.vx (by show 383 < g.2.2.2.1.1; omega)
      have evn : ai_vx r5 (384, 0) = ai_vx r4 (384, 0) := y4.vx (by show 384 < g.2.2.2.1.1; omega)
      rw [hcv5, eva, evo, evn] at WC
      have hsz4 : ∀ q, q < 12 → ai_vx r4 (213 + q, 0) ≤ 12 := fun q hq => by
        show r4 (213 + q) + 0 ≤ 12
        rw [Int.add_zero, x4 _ (by omega), x3 _ (by omega)]
        exact hsz q hq
      have heq := lx_yeq (rw := fun s => F' (70 + s)) (rg := F' 283) (f := f) (t := t) (a := ai_vx r4 (382, 0)) (o := ai_vx r4 (383, 0)) (n := ai_vx r4 (384, 0)) (sf := ai_vx r4 (213 + f, 0)) (st := ai_vx r4 (213 + t, 0)) (sof := ai_vx r4 (201 + f, 0)) (sot := ai_vx r4 (201 + t, 0)) hf ht ⟨hsz4 f hf, hsz4 t ht⟩ hsame
      have hcvd : cy_code (ai_vx r4 (213 + f, 0)) (ai_vx r4 (213 + t, 0)) (ai_vx r4 (201 + f, 0)) (ai_vx r4 (201 + t, 0)) (ai_vx r4 (382, 0)) (ai_vx r4 (383, 0)) (ai_vx r4 (384, 0)) = cv := hcv
      rw [hcvd] at heq
      generalize hrwN : cy_rw (fun s => F' (70 + s)) f t (ai_vx r4 (382, 0)) (ai_vx r4 (383, 0)) (ai_vx r4 (384, 0)) cv = rwN at WC heq
      generalize hrgN : cy_rg (F' 283) f t (ai_vx r4 (382, 0)) (ai_vx r4 (383, 0)) (ai_vx r4 (384, 0)) cv = rgN at WC heq
      obtain ⟨r5', z1', z2', hR9', z3', z4'⟩ := lx_n12_ok 12 (fun j => (rwN t j).toInt) (fun j => ai_i32 _) hR9
      have z1' : ai_ext g2.2.2.2.1.1 r5 r5' := z1'
      have z2' : ∀ j, j < 12 → r5' (g2.2.2.2.1.1 + j) = (rwN t j).toInt := z2'
      have z3' : (lx_yn g2).1.1 = g2.2.2.2.1.1 + 12 := z3'
      have z4' : (lx_yn g2).2 = (cy_hm g2.2.2.2.2.1, 1, 6) := z4'
      have hR9' : ai_Rel D tyc A s sa wsC 7 r5' ad5 g2.2.1 [.inl (g.2.2.2.1.1, 0)] ((lx_yn g2).1, (lx_yn g2).2.1, 1, 6) T2.heap locs2 ls5 [.int i2] := by
        have e : lx_n12 12 (g2.2.2.2.1, cy_hm g2.2.2.2.2.1, 1, 6) = ((lx_yn g2).1, (lx_yn g2).2.1, 1, 6) := by
          show lx_yn g2 = _
          have : (lx_yn g2).2.2 = (1, 6) := by rw [z4']
          rw [← this]
        rw [← e]
        exact hR9'
      have hN5 : 385 ≤ g2.2.2.2.1.1 := Nat.le_trans x6 y6
      have r50 : r5' 0 = 0 := hR9'.env.1
      have hg1 : ∀ i, i < 144 → ai_vx r5' (lx_yg1 g2.2.2.2.1.1 t i) = (rwN (i / 12) (i % 12)).toInt := fun i hi => by
        unfold lx_yg1
        cases eb : Nat.beq (i / 12) t with
        | true =>
          have eb := Nat.eq_of_beq_eq_true eb
          show r5' (g2.2.2.2.1.1 + i % 12) + 0 = _
          rw [Int.add_zero, z2' _ (by omega), eb]
        | false =>
          have eb := Nat.ne_of_beq_eq_false eb
          show r5' (225 + i) + 0 = _
          have h2 := (heq (i / 12) (by omega) (i % 12) (by omega)).2 eb
          have h3 := hrowv (i / 12) (by omega) (i % 12) (by omega)
          rw [Int.add_zero, z1' _ (by omega), xr5 _ (by omega), h2, h3, show 12 * (i / 12) + i % 12 = i by omega]
      have hgl : ∀ i, i < 144 → (lx_yg1 g2.2.2.2.1.1 t i).1 < (lx_yn g2).1.1 := fun i hi => by
        rw [z3']
        unfold lx_yg1
        cases Nat.beq (i / 12) t with
        | true => show g2.2.2.2.1.1 + i % 12 < _; omega
        | false => show 225 + i < _; omega
      have e41' : (lx_yn g2).2.1 = cy_hm g2.2.2.2.2.1 := by rw [z4']
      have hR10 := gh_back (h := ((lx_yn g2).2.1.1, lx_bak (fun q => some (lx_yU g2.2.2.2.1.1 t q)) lx_qs (lx_yn g2).2.1.2)) hR9' rfl (fun k0 hk0 d hd => by
        rw [e41'] at hk0 hd ⊢
        have hk0 : k0 < (cy_hm g2.2.2.2.2.1).1 := hk0
        have gb := lx_bak_get (c := fun q => some (lx_yU g2.2.2.2.1.1 t q)) (T := (cy_hm g2.2.2.2.2.1).2) lx_qlt (show k0 < 512 by omega)
        have hd : ai_tget 9 (lx_bak (fun q => some (lx_yU g2.2.2.2.1.1 t q)) lx_qs (cy_hm g2.2.2.2.2.1).2) k0 = some d := hd
        by_cases hq : k0 ∈ lx_qs
        · rw [gb.1 hq] at hd
          obtain ⟨c1, c2⟩ := lx_qc hq
          have hd : lx_yU g2.2.2.2.1.1 t k0 = d := Option.some.inj hd
          subst hd
          have hnone := Option.isNone_iff_eq_none.mp (List.all_eq_true.mp f4 k0 hq)
          rcases c1 with c1 | rfl | rfl
          · have h7 : 70 + (k0 - 70) = k0 := by omega
            obtain ⟨a9, hw9⟩ := WC.1 (k0 - 70) (by omega)
            rw [h7] at hw9
            rw [lx_yUr c1]
            refine Or.inr ⟨by omega, hnone, a9, _, hw9, Or.inr ⟨Or.inl rfl, _, rfl, lx_tg_lt (by omega) (fun k hk => hgl _ (by have := List.mem_range.mp hk; omega)), fun j hj => lx_tg_to r50 (ai_i32 _) ?_⟩⟩
            rw [hg1 _ (by omega), show (12 * (k0 - 70) + j) / 12 = k0 - 70 by omega, show (12 * (k0 - 70) + j) % 12 = j by omega]
          · obtain ⟨a9, hw9⟩ := WC.2.1
            refine Or.inr ⟨by omega, hnone, a9, _, hw9, Or.inr ⟨Or.inl rfl, _, rfl, lx_tg_lt (by omega) (fun k hk => hgl _ (List.mem_range.mp hk)), fun j hj => lx_tg_to r50 (ai_i32 _) ?_⟩⟩
            have h2 := (heq (j / 12) (by omega) (j % 12) (by omega)).1
            rw [show 12 * (j / 12) + j % 12 = j by omega] at h2
            rw [hg1 _ hj, h2]
          · obtain ⟨a9, hw9⟩ := WC.2.2
            exact Or.inr ⟨by omega, hnone, a9, _, hw9, Or.inr ⟨Or.inl rfl, _, rfl, fun z hz => (by cases hz), fun j hj => ai_i32 _⟩⟩
        · rw [gb.2 hq] at hd
          exact Or.inl hd) (fun k0 hk0 hd => by
        rw [e41'] at hk0 hd ⊢
        have hk0 : k0 < (cy_hm g2.2.2.2.2.1).1 := hk0
        have gb := lx_bak_get (c := fun q => some (lx_yU g2.2.2.2.1.1 t q)) (T := (cy_hm g2.2.2.2.2.1).2) lx_qlt (show k0 < 512 by omega)
        have hd : ai_tget 9 (lx_bak (fun q => some (lx_yU g2.2.2.2.1.1 t q)) lx_qs (cy_hm g2.2.2.2.2.1).2) k0 = none := hd
        by_cases hq : k0 ∈ lx_qs
        · rw [gb.1 hq] at hd
          cases hd
        · rw [gb.2 hq] at hd
          exact hd)
      split at hfin
      · rename_i fs3 hrun3
        have e51 : r5' 1 = r 1 := (z1' 1 (by omega)).trans ((y4' 1 (by omega)).trans e41)
        have had5 : ad5 0 = b := (y5 0 (by show 0 < 336; omega)).trans had4
        have hrd5 : ∀ q ∈ lx_rd5 f t, ai_vx r5' q.2 = (xs (r 1 + q.1).toNat).toInt := fun q hq => by
          rw [← hrd4 q hq, ← y4'.vx (hrl (g.2.2.2.1.1 + 1) (by omega) q hq)]
          exact z1'.vx (hrl _ hN5 q hq)
        have q3 : g2.2.2.2.2.2.1 + (lt_rm 61 182).cells = 1 := by rw [f2, rc4]
        have q4 : g2.2.2.2.2.2.2 + (lt_rm 61 182).slots = 6 := by rw [f3, rs4]
        rw [q3, q4]
        have hn0 : 0 < (lx_yn g2).2.1.1 := by
          rw [e41', cy_hmn]
          exact Nat.lt_of_lt_of_le (by omega) y7
        refine lx_ok (k0 := 60) (T := []) (G := lx_yg t g2) F hl trivial (by omega) (by omega) hVC.pw hsa 16 (lx_rd5 f t) false 557 g2.2.1 _ fs3 r5' ad5 T2.heap locs2 ls5 [.int i2] hrun3 hR10 (by show 1 < (lx_yn g2).1.1; rw [z3']; omega) hn0 (by rw [e51]; exact hi) had5 (by rw [e51]; exact hrd5) (hrl _ (by show 385 ≤ (lx_yn g2).1.1; rw [z3']; omega)) (fun g3 hg3 r6 ad6 u4 u5 u6 u7 H6 locs6 ls6 st6 hR11 => ?_)
        have u4 : ai_ext (lx_yn g2).1.1 r5' r6 := u4
        have u5 : ai_ext (lx_yn g2).2.1.1 ad5 ad6 := u5
        rw [z3'] at u4
        have xx : ai_ext 382 r r6 := fun u hu => (u4 u (by omega)).trans ((z1' u (by omega)).trans (xr5 u hu))
        have y2 : ai_ext (lx_El v 1).1 r r6 := by
          rw [lx_E5e v, hN]
          exact xx
        obtain ⟨o1, o2, o3, r7, hR12, s1, s2, J7⟩ := lx_fullK hE hV.2 (by omega) (lx_zp4 t) (List.all_eq_true.mp hfin g3 hg3) xx hR11
        rw [o1]
        exact kn v k wsC r7 ad6 H6 locs6 ls6 st6 _ _ hvk hk4 o2 o3 ⟨hVC.k J7.2, J7.1⟩ hR12 (by rw [s1, xx 1 (by omega)]) (by rw [s2]; show r6 73 + 0 = _; rw [xx 73 (by omega), h110, Int.add_zero]) ((u5 0 hn0).trans had5)
      · cases hfin
    · cases hall
  · cases hck
set_option maxHeartbeats 4000000 in
theorem lx_copy (F : lx_Fr p R s m args meth c D tyc A sa) (hl : l.stackTraces = false) (hRf : 111 ≤ R.frames) (hRl : 8000 ≤ R.locals) (hsa : (z0, b, Ln, xs) ∈ sa.2) (hV : lx_V tyc ws r) (hvk : v ≤ k) (hk4 : k ≤ 4) (hR : ai_Rel D tyc A s sa ws 7 r ad lx_L [.inl (0, .ofNat 5)] (lx_G v 1) H locs ls st) (hi : 0 ≤ r 1 ∧ r 1 + 10 ≤ (Ln : Int)) (h5 : r 1 ≤ 5110) (h110 : r 73 = (k : Int)) (had : ad 0 = b)
    (kn : lx_Kn p l e R s m args below meth c Q D tyc A sa b (r 1)) : W p l e R s m args below meth c H locs 0 0 Q (F0 m 40 ls st) := by
  have hE : ai_gE r (lx_El v 1) := hR.env
  have hE5 : ai_gE r lx_E5 := lx_E5_ok hE
  have eN := lx_E5e v
  have hR5 := lx_wide (E := lx_El v 1) (E' := lx_E5) (h := lx_h) (c := 0) (sl := 0) eN hE5 hR
  have hN : lx_E5.1 = 382 := lx_E5N
  have hRc := hg_cap_ok hR5 (t := 1) (b := (0, 5110)) (by show 1 < lx_E5.1; rw [hN]; omega) ⟨hi.1, h5⟩
  have hRc : ai_Rel D tyc A s sa ws 7 r ad lx_L [.inl (0, .ofNat 5)] lx_y0 H locs ls st := hRc
  have bM : 0 ≤ r 74 ∧ r 74 ≤ 12 := (hE5.2.2.2.1 _ lx_ymb).2
  have hN0 : lx_y0.1.1 = 382 := hN
  have hY : ∀ j : Int, ai_lo32 ≤ (xs (r 1 + j).toNat).toInt ∧ (xs (r 1 + j).toNat).toInt ≤ ai_hi32 := fun j => ai_i32 _
  have fin : ∀ (rd : List (Int × ai_X)) (G : ai_G) (r0 : Nat → Int), lx_ckN rd G = true → ai_Rel D tyc A s sa ws 7 r0 ad lx_L [.inl (0, .ofNat 5)] G H locs ls st → ai_ext 382 r r0 → 382 ≤ G.1.1 → 0 < G.2.1.1 → (∀ q ∈ rd, ai_vx r0 q.2 = (xs (r 1 + q.1).toNat).toInt) → (∀ q ∈ rd, q.2.1 < G.1.1) → W p l e R s m args below meth c H locs G.2.2.1 G.2.2.2 Q (F0 m 40 ls st) := by
    intro rd G r0 hck hRG hx0 hG h0 hrd hrl
    unfold lx_ckN at hck
    refine lx_goJ (r := r) (r0 := r0) (G := G) (w := 5) (T := []) F hl trivial hRf hRl hsa hV.1 hvk hk4 hi h110 had hck hRG hx0 hG h0 hrd hrl (fun f r' ad' H' locs' ls' st' hck2 x1 hR' => ?_) kn
    exact lx_fullK hE hV.2 (by omega) (lx_zp4 0) hck2 (fun u hu => (x1 u (by omega)).trans (hx0 u hu)) hR'
  obtain ⟨x, hx⟩ : ∃ x : Int, x = (xs (r 1 + 1).toNat).toInt := ⟨_, rfl⟩
  obtain ⟨y, hy⟩ : ∃ y : Int, y = (xs (r 1 + 3).toNat).toInt := ⟨_, rfl⟩
  have x32 : ai_lo32 ≤ x ∧ x ≤ ai_hi32 := by rw [hx]; exact hY 1
  have y32 : ai_lo32 ≤ y ∧ y ≤ ai_hi32 := by rw [hy]; exact hY 3
  have one : ∀ q : Int × Int, (q.1 ≤ x ∧ x ≤ q.2) → ∃ r1, ai_ext 382 r r1 ∧ r1 382 = x ∧ ai_Rel D tyc A s sa ws 7 r1 ad lx_L [.inl (0, .ofNat 5)] (hg_new lx_y0 q) H locs ls st := fun q hq => by
    obtain ⟨r1, a1, a2, hR1⟩ := hk_add hRc (q := q) (x := x) hq (ai_small32 x32)
    rw [hN0] at a1 a2
    exact ⟨r1, a1, a2, hR1⟩
  have hN1 : ∀ q, (hg_new lx_y0 q).1.1 = 383 := fun q => by rw [cy_newN, hN0]
  have two : ∀ q q2 : Int × Int, (q.1 ≤ x ∧ x ≤ q.2) → (q2.1 ≤ y ∧ y ≤ q2.2) → ∃ r1, ai_ext 382 r r1 ∧ r1 382 = x ∧ r1 383 = y ∧ ai_Rel D tyc A s sa ws 7 r1 ad lx_L [.inl (0, .ofNat 5)] (hg_new (hg_new lx_y0 q) q2) H locs ls st := fun q q2 hq hq2 => by
    obtain ⟨r1, a1, a2, hR1⟩ := one q hq
    obtain ⟨r2, c1, c2, hR2⟩ := hk_add hR1 (q := q2) (x := y) hq2 (ai_small32 y32)
    rw [hN1] at c1 c2
    exact ⟨r2, fun u hu => (c1 u (by omega)).trans (a1 u hu), (c1 _ (by omega)).trans a2, c2, hR2⟩
  have hN2 : ∀ q q2, (hg_new (hg_new lx_y0 q) q2).1.1 = 384 := fun q q2 => by rw [cy_newN, hN1]
  have rd1 : ∀ r1 : Nat → Int, r1 382 = x → ∀ q ∈ lx_yr1, ai_vx r1 q.2 = (xs (r 1 + q.1).toNat).toInt := fun r1 h q hq => by
    unfold lx_yr1 at hq
    simp only [List.mem_cons, List.not_mem_nil, or_false] at hq
    subst hq
    show r1 382 + 0 = _
    rw [h, Int.add_zero]
    exact hx
  have rd3 : ∀ r1 : Nat → Int, r1 382 = x → r1 383 = y → ∀ q ∈ lx_yr3, ai_vx r1 q.2 = (xs (r 1 + q.1).toNat).toInt := fun r1 h h' q hq => by
    unfold lx_yr3 at hq
    simp only [List.mem_cons, List.not_mem_nil, or_false] at hq
    rcases hq with rfl | rfl
    · show r1 382 + 0 = _
      rw [h, Int.add_zero]
      exact hx
    · show r1 383 + 0 = _
      rw [h', Int.add_zero]
      exact hy
  have rl1 : ∀ M : Nat, 383 ≤ M → ∀ q ∈ lx_yr1, q.2.1 < M := fun M hM q hq => by
    unfold lx_yr1 at hq
    simp only [List.mem_cons, List.not_mem_nil, or_false] at hq
    subst hq
    show 382 < M
    omega
  have rl3 : ∀ M : Nat, 384 ≤ M → ∀ q ∈ lx_yr3, q.2.1 < M := fun M hM q hq => by
    unfold lx_yr3 at hq
    simp only [List.mem_cons, List.not_mem_nil, or_false] at hq
    rcases hq with rfl | rfl
    · show 382 < M
      omega
    · show 383 < M
      omega
  by_cases p1 : x ≤ -1
  · obtain ⟨r1, a1, a2, hR1⟩ := one (ai_lo32, -1) ⟨x32.1, p1⟩
    exact fin lx_yr1 lx_yG1 r1 lx_yN1 hR1 a1 (by show 382 ≤ (hg_new lx_y0 (ai_lo32, -1)).1.1; rw [hN1]; omega) (by show 0 < 336; omega) (rd1 r1 a2) (rl1 _ (by show 383 ≤ (hg_new lx_y0 (ai_lo32, -1)).1.1; rw [hN1]; omega))
  by_cases p2 : r 74 ≤ x
  · obtain ⟨r1, a1, a2, hR1⟩ := one (0, ai_hi32) ⟨by show (0 : Int) ≤ x; omega, x32.2⟩
    have hR2 := hk_le hR1 (x := (74, 0)) (y := (382, 0)) ⟨by rw [hN1]; show 74 < 383; omega, by rw [hN1]; show 382 < 383; omega⟩ (by
      show r1 74 + 0 ≤ r1 382 + 0
      rw [a1 _ (by omega), a2]
      omega)
    exact fin lx_yr1 lx_yG2 r1 lx_yN2 hR2 a1 (by show 382 ≤ (hg_new lx_y0 (0, ai_hi32)).1.1; rw [hN1]; omega) (by show 0 < 336; omega) (rd1 r1 a2) (rl1 _ (by show 383 ≤ (hg_new lx_y0 (0, ai_hi32)).1.1; rw [hN1]; omega))
  by_cases p3 : y ≤ -1
  · obtain ⟨r1, a1, a2, a3, hR1⟩ := two (0, 11) (ai_lo32, -1) ⟨by show (0 : Int) ≤ x; omega, by show x ≤ (11 : Int); omega⟩ ⟨y32.1, p3⟩
    have hR2 := hk_le hR1 (x := (382, 1)) (y := (74, 0)) ⟨by rw [hN2]; show 382 < 384; omega, by rw [hN2]; show 74 < 384; omega⟩ (by
      show r1 382 + 1 ≤ r1 74 + 0
      rw [a1 74 (by omega), a2]
      omega)
    exact fin lx_yr3 lx_yG3 r1 lx_yN3 hR2 a1 (by show 382 ≤ (hg_new (hg_new lx_y0 (0, 11)) (ai_lo32, -1)).1.1; rw [hN2]; omega) (by show 0 < 336; omega) (rd3 r1 a2 a3) (rl3 _ (by show 384 ≤ (hg_new (hg_new lx_y0 (0, 11)) (ai_lo32, -1)).1.1; rw [hN2]; omega))
  by_cases p4 : r 74 ≤ y
  · obtain ⟨r1, a1, a2, a3, hR1⟩ := two (0, 11) (0, ai_hi32) ⟨by show (0 : Int) ≤ x; omega, by show x ≤ (11 : Int); omega⟩ ⟨by show (0 : Int) ≤ y; omega, y32.2⟩
    have hR2 := hk_le hR1 (x := (382, 1)) (y := (74, 0)) ⟨by rw [hN2]; show 382 < 384; omega, by rw [hN2]; show 74 < 384; omega⟩ (by
      show r1 382 + 1 ≤ r1 74 + 0
      rw [a1 74 (by omega), a2]
      omega)
    have hR3 := hk_le hR2 (x := (74, 0)) (y := (383, 0)) ⟨by show 74 < (hg_new (hg_new lx_y0 (0, 11)) (0, ai_hi32)).1.1; rw [hN2]; omega, by show 383 < (hg_new (hg_new lx_y0 (0, 11)) (0, ai_hi32)).1.1; rw [hN2]; omega⟩ (by
      show r1 74 + 0 ≤ r1 383 + 0
      rw [a1 74 (by omega), a3]
      omega)
    exact fin lx_yr3 lx_yG4 r1 lx_yN4 hR3 a1 (by show 382 ≤ (hg_new (hg_new lx_y0 (0, 11)) (0, ai_hi32)).1.1; rw [hN2]; omega) (by show 0 < 336; omega) (rd3 r1 a2 a3) (rl3 _ (by show 384 ≤ (hg_new (hg_new lx_y0 (0, 11)) (0, ai_hi32)).1.1; rw [hN2]; omega))
  obtain ⟨f, hf⟩ : ∃ f : Nat, x = (f : Int) := ⟨x.toNat, by omega⟩
  obtain ⟨t, ht⟩ : ∃ t : Nat, y = (t : Int) := ⟨y.toNat, by omega⟩
  have hf12 : f < 12 := by omega
  have ht12 : t < 12 := by omega
  obtain ⟨r1, a1, a2, hR1⟩ := hk_add hRc (q := (ai_lo32, ai_hi32)) (x := (xs (r 1 + 2).toNat).toInt) (hY 2) (ai_small32 (hY 2))
  rw [hN0] at a1 a2
  obtain ⟨r2, c1, c2, hR2⟩ := hk_add hR1 (q := (ai_lo32, ai_hi32)) (x := (xs (r 1 + 4).toNat).toInt) (hY 4) (ai_small32 (hY 4))
  rw [hN1] at c1 c2
  obtain ⟨r3, d1, d2, hR3⟩ := hk_add hR2 (q := (ai_lo32, ai_hi32)) (x := (xs (r 1 + 5).toNat).toInt) (hY 5) (ai_small32 (hY 5))
  rw [hN2] at d1 d2
  have xx : ai_ext 382 r r3 := fun u hu => (d1 u (by omega)).trans ((c1 u (by omega)).trans (a1 u hu))
  have hmx : ((lx_mx f t : Nat) : Int) + 1 ≤ r 74 := by
    unfold lx_mx
    cases Nat.ble f t with
    | true => show ((t : Nat) : Int) + 1 ≤ _; omega
    | false => show ((f : Nat) : Int) + 1 ≤ _; omega
  have hR4 := hg_cap_ok hR3 (t := 74) (b := (.ofNat (lx_mx f t + 1), 12)) (by rw [cy_newN, hN2]; omega) (by
    rw [xx _ (by omega)]
    exact ⟨hmx, bM.2⟩)
  refine lx_copyH F hl hRf hRl hsa hV hvk hk4 hf12 ht12 (by unfold lx_mx at hmx; cases e : Nat.ble f t with | true => rw [e] at hmx; exact hmx | false => rw [e] at hmx; have := Nat.le_of_not_le (fun q => by rw [Nat.ble_eq_true_of_le q] at e; cases e); have hmx : ((f : Nat) : Int) + 1 ≤ r 74 := hmx; omega) hE xx hR4 hi h110 had (fun q hq => ?_) kn
  unfold lx_rd5 at hq
  simp only [List.mem_cons, List.not_mem_nil, or_false] at hq
  rcases hq with rfl | rfl | rfl | rfl | rfl
  · show r3 0 + (f : Int) = _
    rw [hR3.env.1, Int.zero_add, ← hf]
    exact hx
  · show r3 382 + 0 = _
    rw [d1 _ (by omega), c1 _ (by omega), a2, Int.add_zero]
  · show r3 0 + (t : Int) = _
    rw [hR3.env.1, Int.zero_add, ← ht]
    exact hy
  · show r3 383 + 0 = _
    rw [d1 _ (by omega), c2, Int.add_zero]
  · show r3 384 + 0 = _
    rw [d2, Int.add_zero]
end LCY
