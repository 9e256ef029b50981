/-! flow by its contracts -/
noncomputable def lk_hF : ai_H := (336, ai_tset 9 lx_h.2 335 (some (.inr (.inl (1, 1, .negSucc 9223372036854775807, .ofNat 9223372036854775807, [((0, .ofNat 0), (198, .ofNat 0))])))))
theorem lk_fc2 : gq_ck2 raY rbY lk_P0f lk_p1 lk_p2 [(198, 335, 0, 319)] [] [] lk_hF = true := by decide +kernel
theorem lk_fcv : gq_cv lk_P0f = true := by decide +kernel
theorem lk_frow : gq_row 12 895 265 true raY [ra_335, ra_i 329, ra_i 328, ra_i 327, ra_i 326, ra_16] (ra_nL ++ [ra_335]) lk_A1 (0, 0) (1, 6) 925 215 false rbY [ra_i 342, ra_i 341, ra_i 340, ra_i 339, rb_264] [rb_264, ra_i 339, ra_i 340, ra_i 341, ra_i 342] lk_A2 (0, 0) (198, 0) [(121, 0)] lk_hF [] lk_Pf = true := by decide +kernel
section LKN
variable {p : Program} {l : Launch} {e : Env} {R : Room} {s : State} {m : MethodId} {args : Array Value} {below : List Frame} {meth : Method} {c : Code} {Q : State → Prop}
variable {D : va_G} {tyc : Nat → ClassId} {A : Nat → Prop} {sa : ai_B} {ws : va_W} {b Ln z0 v k : Nat} {xs : Nat → Int32}
variable {r : Nat → Int} {ad : Nat → Nat} {H : Heap} {locs : List Loc} {ls : Array Slot} {st : List Value}
set_option maxHeartbeats 8000000 in
theorem lx_flowL (F : lx_Fr p R s m args meth c D tyc A sa) (hl : l.stackTraces = false) (hRf : 111 ≤ R.frames) (hRl : 8000 ≤ R.locals) (hsa : (z0, b, Ln, xs) ∈ sa.2) (hV : lx_V tyc ws r) (hvk : v ≤ k) (hk4 : k ≤ 4) (hR : ai_Rel D tyc A s sa ws 7 r ad lx_L [.inl (0, .ofNat 12)] (lx_G v 1) H locs ls st) (hi : 0 ≤ r 1 ∧ r 1 + 10 ≤ (Ln : Int)) (h5 : r 1 ≤ 5110) (h110 : r 124 = (k : Int)) (had : ad 0 = b)
    (kn : lx_Kn p l e R s m args below meth c Q D tyc A sa b (r 1)) : W p l e R s m args below meth c H locs 0 0 Q (F0 m 40 ls st) := by
  have hE : ai_gE r (lx_El v 1) := hR.env
  obtain ⟨x4, hrd, hR4⟩ := gq_start (xs := xs) hE ⟨hi.1, h5⟩ hR
  generalize gq_r4 r xs = r4 at x4 hrd hR4
  have hE4 : ai_gE r4 gq_E := hR4.env
  obtain ⟨bp, bl, b3⟩ := lk_bd hE4
  have i1 := lk_i32 hE4 (t := 188) (by omega)
  have i2 := lk_i32 hE4 (t := 189) (by omega)
  have i3 := lk_i32 hE4 (t := 190) (by omega)
  have i4 := lk_i32 hE4 (t := 191) (by omega)
  have J4 : lx_J r4 := lx_J_keep hV.2 (fun t ht => x4 t (by
    have w : lx_Jt.all (fun t => Nat.blt t 188) = true := by decide +kernel
    exact Nat.le_of_ble_eq_true (List.all_eq_true.mp w t ht)))
  have fail : ∀ {cp : List (Nat × Int × Int)} {le : List (ai_X × ai_X)}, (gq_rd.all (fun q => Nat.blt q.2.1 199) && (cp.all (fun q => Nat.blt q.1 199) && le.all (fun q => Nat.blt q.1.1 199 && Nat.blt q.2.1 199))) = true → gq_frow 12 gq_rd cp le [] lk_Pf = true → pt_asm r4 [] cp le → W p l e R s m args below meth c H locs 0 0 Q (F0 m 40 ls st) := fun h2 h3 h4 => gq_fail F hl hRf hRl hsa hV hvk hk4 hE x4 hR4 hi h110 had kn lk_Pfok hrd h2 h3 h4
  have le1 : ∀ {a b : Nat}, r4 a + 1 ≤ r4 b → ai_vx r4 (a, 1) ≤ ai_vx r4 (b, 0) := fun {a b} h => by
    show r4 a + 1 ≤ r4 b + 0
    omega
  have le0 : ∀ {a b : Nat}, r4 a ≤ r4 b → ai_vx r4 (a, 0) ≤ ai_vx r4 (b, 0) := fun {a b} h => by
    show r4 a + 0 ≤ r4 b + 0
    omega
  by_cases l0 : r4 188 ≤ -1
  · exact fail (by decide +kernel) lk_f12_l0 ⟨pt_m0, pt_m1 ⟨i1.1, l0⟩, pt_m0⟩
  have l0 : 0 ≤ r4 188 := by omega
  by_cases l1 : r4 123 ≤ r4 188
  · exact fail (by decide +kernel) lk_f12_l1 ⟨pt_m0, pt_m1 ⟨l0, i1.2⟩, pt_m1 (le0 l1)⟩
  have l1 : r4 188 + 1 ≤ r4 123 := by omega
  have l4 : r4 188 ≤ 4 := by omega
  by_cases a0 : r4 189 ≤ -1
  · exact fail (by decide +kernel) lk_f12_a0 ⟨pt_m0, pt_m2 ⟨l0, l4⟩ ⟨i2.1, a0⟩, pt_m1 (le1 l1)⟩
  have a0 : 0 ≤ r4 189 := by omega
  by_cases a1 : r4 122 ≤ r4 189
  · exact fail (by decide +kernel) lk_f12_a1 ⟨pt_m0, pt_m2 ⟨l0, l4⟩ ⟨a0, i2.2⟩, pt_m2 (le1 l1) (le0 a1)⟩
  have a1 : r4 189 + 1 ≤ r4 122 := by omega
  have a3 : r4 189 ≤ 3 := by omega
  by_cases b0 : r4 190 ≤ -1
  · exact fail (by decide +kernel) lk_f12_b0 ⟨pt_m0, pt_m3 ⟨l0, l4⟩ ⟨a0, a3⟩ ⟨i3.1, b0⟩, pt_m2 (le1 l1) (le1 a1)⟩
  have b0 : 0 ≤ r4 190 := by omega
  by_cases b1 : r4 122 ≤ r4 190
  · exact fail (by decide +kernel) lk_f12_b1 ⟨pt_m0, pt_m3 ⟨l0, l4⟩ ⟨a0, a3⟩ ⟨b0, i3.2⟩, pt_m3 (le1 l1) (le1 a1) (le0 b1)⟩
  have b1 : r4 190 + 1 ≤ r4 122 := by omega
  have b3' : r4 190 ≤ 3 := by omega
  by_cases w0 : r4 191 ≤ -1
  · exact fail (by decide +kernel) lk_f12_w0 ⟨pt_m0, pt_m4 ⟨l0, l4⟩ ⟨a0, a3⟩ ⟨b0, b3'⟩ ⟨i4.1, w0⟩, pt_m3 (le1 l1) (le1 a1) (le1 b1)⟩
  have w0 : 0 ≤ r4 191 := by omega
  by_cases w1 : 2 ≤ r4 191
  · exact fail (by decide +kernel) lk_f12_w1 ⟨pt_m0, pt_m4 ⟨l0, l4⟩ ⟨a0, a3⟩ ⟨b0, b3'⟩ ⟨w1, i4.2⟩, pt_m3 (le1 l1) (le1 a1) (le1 b1)⟩
  have w1 : r4 191 ≤ 1 := by omega
  obtain ⟨li, hli⟩ : ∃ li : Nat, r4 188 = (li : Int) := ⟨(r4 188).toNat, by omega⟩
  obtain ⟨ai, hai⟩ : ∃ ai : Nat, r4 189 = (ai : Int) := ⟨(r4 189).toNat, by omega⟩
  obtain ⟨bi, hbi⟩ : ∃ bi : Nat, r4 190 = (bi : Int) := ⟨(r4 190).toNat, by omega⟩
  have H4 : fy_H r4 := lk_H hE4 J4.1
  have tl : (r4 188).toNat = li := by omega
  have ta : (r4 189).toNat = ai := by omega
  have tb : (r4 190).toNat = bi := by omega
  have shv : ∀ q : Nat, q < 4 → r4 (9 + 4 * li + q) = fy_S r4 li q := fun q hq => J4.2.2 li (by omega) (by omega) q hq
  -- what the class has, in the reference's words, for any numbers that have this land
  have alg : ∀ r' : Nat → Int, (∀ t, lk_ld t → r' t = r4 t) → rb_D r' = r4 8 ∧ (0 ≤ r4 8 ∧ r4 8 ≤ 2000000) ∧ rb_N r' li ai bi = ai_op 1 (r4 (9 + 4 * li + ai)) (r4 (9 + 4 * li + bi)) ∧ -2000000 ≤ rb_N r' li ai bi ∧ rb_N r' li ai bi ≤ 2000000 := fun r' hr' => by
    obtain ⟨⟨d1, d2, d3⟩, d4, d5, d6⟩ := fy_end (lk_Hc H4 hr') (l := li) (a := ai) (b := bi) (by rw [hr' 123 (Or.inr (Or.inl rfl))]; omega) (by rw [hr' 122 (Or.inl rfl)]; omega) (by rw [hr' 122 (Or.inl rfl)]; omega)
    rw [lk_pl hr' 5 (Nat.le_refl _), ← J4.2.1] at d1 d2 d3
    rw [lk_S hr' (by omega), lk_S hr' (by omega), ← shv ai (by omega), ← shv bi (by omega)] at d4
    exact ⟨d1, ⟨d2, d3⟩, d4.symm, d5, d6⟩
  obtain ⟨-, g8, -, -, -⟩ := alg r4 (fun _ _ => rfl)
  have ptv : ∀ cc, ra_pt (gq_rn r4 cc lk_p1 lk_X1 lk_A1 raY.1) = ai_op 1 (r4 (9 + 4 * li + ai)) (r4 (9 + 4 * li + bi)) := fun cc => by
    obtain ⟨e1, e2, e3, -⟩ := lk_a1 (r4 := r4) (cc := cc)
    unfold ra_pt
    rw [e1, e2, e3, tl, ta, tb, lk_r1 (lk_in1 (by omega)), lk_r1 (lk_in1 (by omega))]
  refine gq_two (p1 := lk_p1) (p2 := lk_p2) (X1 := lk_X1) (X2 := lk_X2) (AL1 := lk_A1) (AL2 := lk_A2) (P0 := lk_P0f) (P1 := lk_p1) (P2 := lk_p2) (x1 := (0, 0)) (x2 := (198, 0)) (b1 := (1, 6)) (b2 := (0, 0)) (XF := [(198, 335, 0, 319)]) (XG1 := []) (XG2 := []) (hF := lk_hF) (sp3 := [(121, 0)]) (C := []) (Pf := lk_Pf) F hl hRf hRl hsa hV hvk hk4 hE x4 hrd hR4 hi h110 had rasys (ra_helpFlow (n := 8) (by omega)) ⟨by show 9 + 0 + 8 + 1 ≤ 111; omega, by show 64 * (9 + 0) + 400 + 64 ≤ 8000; omega⟩ lk_hp1 rbsys (rb_flow (n := 8) (by omega)) ⟨by show 9 + 0 + 8 + 1 ≤ 111; omega, by show 64 * (9 + 0) + 400 + 64 ≤ 8000; omega⟩ lk_hp2 lk_bud.2.2.2.2.1 lk_bud.2.2.2.2.2 rfl rfl rfl lk_hBf lk_Pfok lk_lc1 lk_fc2 lk_fcv (gq_row_of lk_frow) (fun cc _ => ?_) (fun cc _ r2 M2 v1 po1 hE2 hv1 => ?_) kn
  · obtain ⟨e1, e2, e3, e4⟩ := lk_a1 (r4 := r4) (cc := cc)
    obtain ⟨-, -, h3, h4, h5⟩ := alg r4 (fun _ _ => rfl)
    refine ⟨?_, ?_, ?_, ?_, ?_, ?_⟩
    · rw [e1, lk_r1 (lk_in1 (by omega))]
      exact ⟨l0, l1⟩
    · rw [e2, lk_r1 (lk_in1 (by omega))]
      exact ⟨a0, a1⟩
    · rw [e3, lk_r1 (lk_in1 (by omega))]
      exact ⟨b0, b1⟩
    · rw [e4]
      exact ⟨w0, w1⟩
    · rw [lk_r1 (lk_in1 (by omega))]
      omega
    · rw [ptv cc, ← h3]
      exact ⟨h4, h5⟩
  obtain ⟨hv, -, h319, hk⟩ := po1
  refine ⟨0, ?_, by decide, ?_, fun r3 M3 v2 po2 hE3 hv2 => ?_⟩
  · rw [hv]
    refine congrArg some ?_
    show (0 : Int) = pt_set r4 197 0 0 + 0
    have : pt_set r4 197 0 0 = r4 0 := if_neg (by omega)
    rw [this, hE4.1]
    rfl
  · obtain ⟨g1, g2, g3, g4⟩ := lk_a2 (r4 := r4) (cc := cc) (a := 0)
    have ld : ∀ t, lk_ld t → gq_rn (pt_set r4 197 0) cc lk_p2 lk_X2 lk_A2 rbY.1 t = r4 t := fun t ht => lk_r2 (lk_l2 ht)
    obtain ⟨h1, h2, h3, h4, h5⟩ := alg _ ld
    refine ⟨lk_ok J4.1 ld, ?_, ?_, ?_, ?_, ?_, ?_⟩
    · rw [g1, lk_r2 (lk_in2 (by omega))]
      exact ⟨l0, l1⟩
    · rw [g2, lk_r2 (lk_in2 (by omega))]
      exact ⟨a0, a1⟩
    · rw [g3, lk_r2 (lk_in2 (by omega))]
      exact ⟨b0, b1⟩
    · rw [g4]
      exact ⟨w0, w1⟩
    · rw [h1]
      exact h2
    · rw [g1, g2, g3, tl, ta, tb]
      exact ⟨h4, h5⟩
  obtain ⟨g1, g2, g3, g4⟩ := lk_a2 (r4 := r4) (cc := cc) (a := 0)
  have ld : ∀ t, lk_ld t → gq_rn (pt_set r4 197 0) cc lk_p2 lk_X2 lk_A2 rbY.1 t = r4 t := fun t ht => lk_r2 (lk_l2 ht)
  obtain ⟨h1, h2, h3, h4, h5'⟩ := alg _ ld
  obtain ⟨u1, -, u2, u3⟩ := po2
  rw [g1, g2, g3, g4, tl, ta, tb, h1, h3] at u1
  have ev : v2 = some (r2 319) := by
    rw [u1, h319]
    obtain ⟨e1, e2, e3, e4⟩ := lk_a1 (r4 := r4) (cc := cc)
    unfold ra_fv rb_fw
    rw [ptv cc, e4, lk_r1 (lk_in1 (by omega))]
  have k2 : ∀ t, lk_p1 t = true → r2 t = r4 t := fun t ht => by
    have := lk_bt_lt ht
    rw [hk t (by omega) (by omega)]
    exact lk_r1 ht
  have k3 : ∀ t, lk_p2 t = true → t ≠ 121 → r3 t = r4 t := fun t ht h => by
    have := lk_bt_lt ht
    rw [u3 t (by omega) (by omega) h]
    exact lk_r2 ht
  obtain ⟨rF, hrF⟩ : ∃ rF : Nat → Int, rF = fun t => if t = 197 then 0 else if t = 198 then r2 319 else if t = 121 then 0 else r4 t := ⟨_, rfl⟩
  have f0 : ∀ t, t < 197 → t ≠ 121 → rF t = r4 t := fun t a b => by
    rw [hrF]
    show (if t = 197 then 0 else if t = 198 then r2 319 else if t = 121 then 0 else r4 t) = _
    rw [if_neg (by omega), if_neg (by omega), if_neg b]
  have f121 : rF 121 = 0 := by
    rw [hrF]
    rfl
  have f197 : rF 197 = 0 := by
    rw [hrF]
    rfl
  have f198 : rF 198 = r2 319 := by
    rw [hrF]
    rfl
  refine ⟨rF, fun t ht => ?_, fun t ht => ?_, fun t ht => f0 t (lk_P0f_ok ht).1 (lk_P0f_ok ht).2, f197, ?_, pt_m1 f198, pt_m0, pt_m0, by rw [f198]; exact hv2 _ ev, pt_m1 f121, ?_⟩
  · have h121 : t ≠ 121 := fun q => by
      rw [q, lk_p1n] at ht
      cases ht
    rw [f0 t (by have := lk_bt_lt ht; omega) h121, k2 t ht]
  · by_cases h121 : t = 121
    · rw [h121, f121, u2]
    · rw [f0 t (by have := lk_bt_lt ht; omega) h121, k3 t ht h121]
  · rw [ev]
    refine congrArg some ?_
    show r2 319 = rF 198 + 0
    rw [Int.add_zero, f198]
  · exact lx_J_keep J4 (fun t ht => f0 t (by
      have w : lx_Jt.all (fun t => Nat.blt t 197 && !(Nat.beq t 121)) = true := by decide +kernel
      have g := List.all_eq_true.mp w t ht
      rw [Bool.and_eq_true] at g
      exact Nat.le_of_ble_eq_true g.1) (by
      have w : lx_Jt.all (fun t => Nat.blt t 197 && !(Nat.beq t 121)) = true := by decide +kernel
      have g := List.all_eq_true.mp w t ht
      rw [Bool.and_eq_true, Bool.not_eq_true'] at g
      exact Nat.ne_of_beq_eq_false g.2))
end LKN
