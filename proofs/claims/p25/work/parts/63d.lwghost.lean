/-! THE LAW: minutes; what is known of its numbers beforehand: gone and n together, what is left of 1000 (printed by lawq.py) -/
noncomputable def lx_PX : List (Nat × gx_C) := [(56, (cn_passG, pg_gs)), (246, (cn_minutesG, pm_gs))]
theorem lx_PXok : gx_all 60 lx_PX := ⟨cp_passG.mono (by decide), cp_minutesG.mono (by decide), trivial⟩
noncomputable def lx_xb (b : Int) : ai_G := lx_sp 124 b (hg_cap (lx_E5, lx_h, 0, 0) 1 (0, 5110))
noncomputable def lx_xn (b : Int) (q : Int × Int) : ai_G := hg_new (lx_xb b) q
noncomputable def lx_df (G : ai_G) (d : ai_D) : ai_G := ((G.1.1, G.1.2.1, d :: G.1.2.2), G.2)
noncomputable def lx_xs (q : Int × Int) (f : ai_D) : ai_G := lx_df (lx_df (lx_df (hg_new (hg_new (lx_xn 1 (0, 1000)) q) (0, 1000)) (0, 155, (128, 0), (154, 0))) (1, 156, (0, 1000), (128, 0))) f
noncomputable def lx_ckX (T : List (Nat × us_C)) (C : List Nat) (P : List (Nat × Nat × Nat)) (G : ai_G) : Bool := match lx_runX lx_PX T bx_0 [23] 16 [(1, (154, 0))] false 40 lx_L [.inl (0, .ofNat 24)] G with
  | some fs => fs.all (lx_fin C P [] 0 lx_o)
  | none => false
noncomputable def lx_P24 : List (Nat × Nat × Nat) := [(1, 0, 4), (85, 193, 1), (86, 193, 2), (87, 193, 4), (90, 193, 9), (94, 264, 1), (124, 193, 0), (125, 264, 88), (128, 193, 3), (129, 264, 92), (130, 264, 93), (131, 264, 94)]
noncomputable def lx_T24 : List (Nat × us_C) := []
theorem lx_T24_ok : lt_all 60 lx_T24 := trivial
noncomputable def lx_fg : ai_D := (32, 0, (154, 0), (156, 0))
noncomputable def lx_fb : ai_D := (32, 0, (156, 1), (154, 0))
theorem lx_x0 : lx_ckX lx_T24 [] lx_P24 (lx_xn 0 (ai_lo32, ai_hi32)) = true := by decide +kernel
theorem lx_x1 : lx_ckX lx_T24 [] lx_P24 (lx_xn 1 (ai_lo32, -1)) = true := by decide +kernel
theorem lx_x2 : lx_ckX lx_T24 [] lx_P24 (lx_xn 1 (1001, ai_hi32)) = true := by decide +kernel
theorem lx_x3 : lx_ckX lx_T24 [] lx_P24 (lx_xs (0, 1000) lx_fg) = true := by decide +kernel
theorem lx_x4 : lx_ckX lx_T24 [] lx_P24 (lx_xs (1001, 2000) lx_fb) = true := by decide +kernel
theorem lx_pc24 : lx_pc lx_P24 = true := by decide +kernel
theorem lx_xbb : (124, ((0 : Int), (1 : Int))) ∈ lx_E5.2.1 ∧ (128, ((0 : Int), (1000 : Int))) ∈ lx_E5.2.1 := by decide +kernel
theorem lx_newX (G : ai_G) (q : Int × Int) : (hg_new G q).1.1 = G.1.1 + 1 := by
  obtain ⟨⟨N, lb, ds⟩, G2⟩ := G
  rfl
section LXG
variable {p : Program} {l : Launch} {e : Env} {R : Room} {s : State} {m : MethodId} {args : Array Value} {below : List Frame} {meth : Method} {c : Code} {Q : State → Prop}
variable {D : va_G} {tyc : Nat → ClassId} {A : Nat → Prop} {sa : ai_B} {ws : va_W} {b Ln z0 v k nL : Nat} {xs : Nat → Int32}
variable {r : Nat → Int} {ad : Nat → Nat} {L S : List ai_V} {G : ai_G} {H : Heap} {locs : List Loc} {ls : Array Slot} {st : List Value}
/-- a number more -/
theorem lx_add (hR : ai_Rel D tyc A s sa ws nL r ad L S G H locs ls st) {q : Int × Int} {x : Int} (hq : q.1 ≤ x ∧ x ≤ q.2) (hs : ai_small x) : ∃ r', ai_ext G.1.1 r r' ∧ r' G.1.1 = x ∧ ai_Rel D tyc A s sa ws nL r' ad L S (hg_new G q) H locs ls st := by
  have hE := hR.env
  cases en : ai_new G.1 q with
  | mk z E' =>
    obtain ⟨r', g1, g2, g3, g4, g5⟩ := ai_new_ok hE hq hs en
    have ez : z = (G.1.1, 0) ∧ E'.1 = G.1.1 + 1 := by
      obtain ⟨⟨N, lb, ds⟩, G2⟩ := G
      cases en
      exact ⟨rfl, rfl⟩
    obtain ⟨rfl, hE1⟩ := ez
    have e0 : r' G.1.1 = x := by
      have : r' G.1.1 + 0 = x := g5
      omega
    refine ⟨r', g1, e0, ?_⟩
    have := hR.re (E' := E') (r' := r') (S' := S) (st' := st) g1 g2 g3 (hR.stk.mono g1 ai_ext.rfl' g2 (Nat.le_refl _))
    unfold hg_new
    rw [en]
    exact this
/-- a definition more -/
theorem lx_adf (hR : ai_Rel D tyc A s sa ws nL r ad L S G H locs ls st) {d : ai_D} (h : d.2.1 < G.1.1 ∧ d.2.2.1.1 < G.1.1 ∧ d.2.2.2.1 < G.1.1 ∧ r d.2.1 = ai_op d.1 (ai_vx r d.2.2.1) (ai_vx r d.2.2.2)) : ai_Rel D tyc A s sa ws nL r ad L S (lx_df G d) H locs ls st := by
  have hE := hR.env
  exact hR.re (E' := (lx_df G d).1) (r' := r) (S' := S) (st' := st) ai_ext.rfl' (Nat.le_refl _) ⟨hE.1, hE.2.1, hE.2.2.1, hE.2.2.2.1, fun q hq => by
    rcases List.mem_cons.mp hq with rfl | hq
    · exact h
    · exact hE.2.2.2.2 q hq⟩ hR.stk
set_option maxHeartbeats 2000000 in
theorem lx_minutes (F : lx_Fr p R s m args meth c D tyc A sa) (hl : l.stackTraces = false) (hRf : 74 ≤ R.frames) (hRl : 4624 ≤ R.locals) (hsa : (z0, b, Ln, xs) ∈ sa.2) (hV : cl_V tyc ws) (hvk : v ≤ k) (hk4 : k ≤ 4) (hR : ai_Rel D tyc A s sa ws 7 r ad lx_L [.inl (0, .ofNat 24)] (lx_G v 1) H locs ls st) (hi : 0 ≤ r 1 ∧ r 1 + 10 ≤ (Ln : Int)) (h5 : r 1 ≤ 5110) (h110 : r 97 = (k : Int)) (had : ad 0 = b)
    (kn : lx_Kn p l e R s m args below meth c Q D tyc A sa b (r 1)) : W p l e R s m args below meth c H locs 0 0 Q (F0 m 40 ls st) := by
  have hE : ai_gE r (lx_El v 1) := hR.env
  have hE5 : ai_gE r lx_E5 := lx_E5_ok hE
  have eN := lx_E5e v
  have hR5 := lx_wide (E := lx_El v 1) (E' := lx_E5) (h := lx_h) (c := 0) (sl := 0) eN hE5 hR
  have hN : lx_E5.1 = 154 := lx_E5N
  have hRc := hg_cap_ok hR5 (t := 1) (b := (0, 5110)) (by show 1 < lx_E5.1; rw [hN]; omega) ⟨hi.1, h5⟩
  obtain ⟨mB, mG⟩ := lx_xbb
  have bB : 0 ≤ r 124 ∧ r 124 ≤ 1 := (hE5.2.2.2.1 _ mB).2
  have bG : 0 ≤ r 128 ∧ r 128 ≤ 1000 := (hE5.2.2.2.1 _ mG).2
  have r00 : r 0 = 0 := hE.1
  obtain ⟨x, hx⟩ : ∃ x : Int, x = (xs (r 1 + 1).toNat).toInt := ⟨_, rfl⟩
  have x32 : ai_lo32 ≤ x ∧ x ≤ ai_hi32 := by rw [hx]; exact ai_i32 _
  have fin : ∀ (G : ai_G) (r0 : Nat → Int), lx_ckX lx_T24 [] lx_P24 G = true → ai_Rel D tyc A s sa ws 7 r0 ad lx_L [.inl (0, .ofNat 24)] G H locs ls st → ai_ext 154 r r0 → 155 ≤ G.1.1 → 0 < G.2.1.1 → r0 154 = x → W p l e R s m args below meth c H locs G.2.2.1 G.2.2.2 Q (F0 m 40 ls st) := by
    intro G r0 hck hRG hx0 hG h0 hn
    unfold lx_ckX at hck
    split at hck
    · rename_i fs hrun
      have e1r : r0 1 = r 1 := hx0 1 (by omega)
      refine lx_okX (PX := lx_PX) (k0 := 60) (G := G) F hl lx_PXok lx_T24_ok (by omega) (by omega) hV.pw hsa 16 [(1, (154, 0))] false 40 lx_L _ fs r0 ad H locs ls st hrun hRG (by omega) h0 (by rw [e1r]; exact hi) had (fun q hq => ?_) (fun q hq => ?_) (fun f hf r' ad' x1 x2 x3 x4 H' locs' ls' st' hR' => ?_)
      · rcases List.mem_cons.mp hq with rfl | hq
        · rw [e1r]
          show r0 154 + 0 = _
          rw [hn, Int.add_zero]
          exact hx
        · cases hq
      · rcases List.mem_cons.mp hq with rfl | hq
        · show 154 < G.1.1
          omega
        · cases hq
      · have y1 : ai_ext 154 r r' := fun u hu => (x1 u (by omega)).trans (hx0 u hu)
        have y2 : ai_ext (lx_El v 1).1 r r' := by
          rw [eN, hN]
          exact y1
        obtain ⟨e1, e2, e3, r2, hR2, u⟩ := lx_fin_ok hE y2 (cx_dd v (by omega)) (lx_fin_any lx_pc24 (by omega) (List.all_eq_true.mp hck f hf)) hR'
        rw [e1]
        have q1 : r2 1 = r' 1 + 10 := u _ List.mem_cons_self
        have q2 : r2 97 = r' 97 + 0 := u _ (List.mem_cons_of_mem _ List.mem_cons_self)
        exact kn v k ws r2 ad' H' locs' ls' st' _ _ hvk hk4 e2 e3 hV hR2 (by rw [q1, y1 1 (by omega)]) (by rw [q2, y1 97 (by omega), h110, Int.add_zero]) ((x2 0 h0).trans had)
    · cases hck
  have one : ∀ (B : Int) (q : Int × Int), r 124 = B → (q.1 ≤ x ∧ x ≤ q.2) → ∃ r1, ai_ext 154 r r1 ∧ r1 154 = x ∧ ai_Rel D tyc A s sa ws 7 r1 ad lx_L [.inl (0, .ofNat 24)] (lx_xn B q) H locs ls st := fun B q hB hq => by
    have hR1 := lx_sp_ok (t := 124) (k := B) hRc hB lx_no16
    obtain ⟨r1, a1, a2, hR2⟩ := lx_add hR1 (q := q) (x := x) hq (ai_small32 x32)
    have a1 : ai_ext lx_E5.1 r r1 := a1
    have a2 : r1 lx_E5.1 = x := a2
    rw [hN] at a1 a2
    exact ⟨r1, a1, a2, hR2⟩
  have hNx : ∀ B q, (lx_xn B q).1.1 = 155 := fun B q => by
    have h : (lx_xn B q).1.1 = (lx_xb B).1.1 + 1 := lx_newX (lx_xb B) q
    have h2 : (lx_xb B).1.1 = lx_E5.1 := rfl
    rw [h, h2, hN]
  rcases (by omega : r 124 = 0 ∨ r 124 = 1) with b0 | b1
  · obtain ⟨r1, a1, a2, hR2⟩ := one 0 (ai_lo32, ai_hi32) b0 x32
    exact fin _ r1 lx_x0 hR2 a1 (by rw [hNx]; exact Nat.le_refl _) (by show 0 < 336; omega) a2
  by_cases p1 : x ≤ -1
  · obtain ⟨r1, a1, a2, hR2⟩ := one 1 (ai_lo32, -1) b1 ⟨x32.1, p1⟩
    exact fin _ r1 lx_x1 hR2 a1 (by rw [hNx]; exact Nat.le_refl _) (by show 0 < 336; omega) a2
  by_cases p2 : 1001 ≤ x
  · obtain ⟨r1, a1, a2, hR2⟩ := one 1 (1001, ai_hi32) b1 ⟨p2, x32.2⟩
    exact fin _ r1 lx_x2 hR2 a1 (by rw [hNx]; exact Nat.le_refl _) (by show 0 < 336; omega) a2
  obtain ⟨r1, a1, a2, hR2⟩ := one 1 (0, 1000) b1 ⟨by show (0 : Int) ≤ x; omega, by show x ≤ (1000 : Int); omega⟩
  have sm : ∀ z : Int, -5000 ≤ z → z ≤ 5000 → ai_small z := fun z h1 h2 => by
    unfold ai_small ai_lo64 ai_hi64
    omega
  have two : ∀ (q : Int × Int) (f : ai_D), (q.1 ≤ r 128 + x ∧ r 128 + x ≤ q.2) → (∀ r3 : Nat → Int, r3 0 = 0 → r3 154 = x → r3 156 = 1000 - r 128 → f.2.1 < 157 ∧ f.2.2.1.1 < 157 ∧ f.2.2.2.1 < 157 ∧ r3 f.2.1 = ai_op f.1 (ai_vx r3 f.2.2.1) (ai_vx r3 f.2.2.2)) → lx_ckX lx_T24 [] lx_P24 (lx_xs q f) = true → W p l e R s m args below meth c H locs 0 0 Q (F0 m 40 ls st) := fun q f hq hf hck => by
    obtain ⟨r2, c1, c2, hR3⟩ := lx_add hR2 (q := q) (x := r 128 + x) hq (sm _ (by omega) (by omega))
    rw [hNx] at c1 c2
    obtain ⟨r3, d1, d2, hR4⟩ := lx_add hR3 (q := (0, 1000)) (x := 1000 - r 128) ⟨by show (0 : Int) ≤ _; omega, by show _ ≤ (1000 : Int); omega⟩ (sm _ (by omega) (by omega))
    have h2 : (hg_new (lx_xn 1 (0, 1000)) q).1.1 = 156 := by rw [lx_newX, hNx]
    rw [h2] at d1 d2
    have h3 : (hg_new (hg_new (lx_xn 1 (0, 1000)) q) (0, 1000)).1.1 = 157 := by rw [lx_newX, h2]
    have k0 : r3 0 = 0 := hR4.env.1
    have kG : r3 128 = r 128 := (d1 _ (by omega)).trans ((c1 _ (by omega)).trans (a1 _ (by omega)))
    have kx : r3 154 = x := (d1 _ (by omega)).trans ((c1 _ (by omega)).trans a2)
    have ks : r3 155 = r 128 + x := (d1 _ (by omega)).trans c2
    have hR5 := lx_adf hR4 (d := (0, 155, (128, 0), (154, 0))) ⟨by rw [h3]; show 155 < 157; omega, by rw [h3]; show 128 < 157; omega, by rw [h3]; show 154 < 157; omega, by
      show r3 155 = (r3 128 + 0 + (r3 154 + 0)).bmod 4294967296
      rw [ks, kG, kx, Int.add_zero, Int.add_zero]
      exact (Int.bmod_eq_of_le_mul_two (by omega) (by omega)).symm⟩
    have hR6 := lx_adf hR5 (d := (1, 156, (0, 1000), (128, 0))) ⟨by show 156 < (hg_new (hg_new (lx_xn 1 (0, 1000)) q) (0, 1000)).1.1; rw [h3]; omega, by show 0 < (hg_new (hg_new (lx_xn 1 (0, 1000)) q) (0, 1000)).1.1; rw [h3]; omega, by show 128 < (hg_new (hg_new (lx_xn 1 (0, 1000)) q) (0, 1000)).1.1; rw [h3]; omega, by
      show r3 156 = (r3 0 + 1000 - (r3 128 + 0)).bmod 4294967296
      rw [d2, kG, k0, Int.add_zero, Int.zero_add]
      exact (Int.bmod_eq_of_le_mul_two (by omega) (by omega)).symm⟩
    have hf3 := hf r3 k0 kx d2
    have hR7 := lx_adf hR6 (d := f) ⟨by show f.2.1 < (hg_new (hg_new (lx_xn 1 (0, 1000)) q) (0, 1000)).1.1; rw [h3]; exact hf3.1, by show f.2.2.1.1 < (hg_new (hg_new (lx_xn 1 (0, 1000)) q) (0, 1000)).1.1; rw [h3]; exact hf3.2.1, by show f.2.2.2.1 < (hg_new (hg_new (lx_xn 1 (0, 1000)) q) (0, 1000)).1.1; rw [h3]; exact hf3.2.2.1, hf3.2.2.2⟩
    exact fin (lx_xs q f) r3 hck hR7 (fun u hu => (d1 _ (by omega)).trans ((c1 _ (by omega)).trans (a1 _ hu))) (by show 155 ≤ (hg_new (hg_new (lx_xn 1 (0, 1000)) q) (0, 1000)).1.1; rw [h3]; omega) (by show 0 < 336; omega) kx
  by_cases p3 : r 128 + x ≤ 1000
  · refine two (0, 1000) lx_fg ⟨by show (0 : Int) ≤ _; omega, p3⟩ (fun r3 k0 kx kd => ⟨by show 0 < 157; omega, by show 154 < 157; omega, by show 156 < 157; omega, ?_⟩) lx_x3
    have q : ai_le (r3 154 + 0) (r3 156 + 0) = true := ai_le_iff.mpr (by omega)
    show r3 0 = (match ai_le (r3 154 + 0) (r3 156 + 0) with | true => 0 | false => 1)
    rw [q, k0]
  · refine two (1001, 2000) lx_fb ⟨by show (1001 : Int) ≤ _; omega, by show _ ≤ (2000 : Int); omega⟩ (fun r3 k0 kx kd => ⟨by show 0 < 157; omega, by show 156 < 157; omega, by show 154 < 157; omega, ?_⟩) lx_x4
    have q : ai_le (r3 156 + 1) (r3 154 + 0) = true := ai_le_iff.mpr (by omega)
    show r3 0 = (match ai_le (r3 156 + 1) (r3 154 + 0) with | true => 0 | false => 1)
    rw [q, k0]
end LXG
