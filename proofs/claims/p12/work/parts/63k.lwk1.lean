/-! write by its contracts -/
theorem kw_wc2 : gq_ck2 waY wbY kw_P0 kw_p1 kw_p2 [] kw_R1 kw_G2 lx_h = true := by decide +kernel
theorem kw_wrow : gq_row 4 454 260 true waY [wa_r 335, wa_i 394, wa_i 393, wa_i 392, wa_r 16] (wa_wL ++ [wa_r 335]) kw_A1 (0, 0) (1, 6) 478 180 false wbY [wa_i 393, wa_i 392, wa_i 391, wa_r 264] [wa_r 264, wa_i 391, wa_i 392, wa_i 393] kw_A2 (0, 0) (392, 0) [] lx_h [] kw_Pf = true := by decide +kernel
theorem kw_Jc {r4 rF : Nat → Int} {A B : Nat} {g : Nat → Bool} (J : lx_J r4) (h0 : r4 0 = 0) (hck : lx_jcl.all (fun c => !((g c.1.1 || g c.2.1.1) || (g c.2.2.1.1 || g c.2.2.2.1)) || (cx_q c.1 (A, 0) && cx_q c.2.1 (0, .ofNat B))) = true) (hg : (B : Int) + 1 ≤ r4 A) (hA : rF A = r4 A) (hz : rF 0 = r4 0) (h : ∀ t ∈ lx_Jt, g t = false → rF t = r4 t) : lx_J rF := fun c hc hgd => by
  have w := List.all_eq_true.mp hck c hc
  obtain ⟨h1, h2, h3, h4⟩ := lx_jt hc
  rw [Bool.or_eq_true] at w
  rcases w with w | w
  · rw [Bool.not_eq_true', Bool.or_eq_false_iff, Bool.or_eq_false_iff, Bool.or_eq_false_iff] at w
    obtain ⟨⟨b1, b2⟩, b3, b4⟩ := w
    have kx : ∀ x : ai_X, x.1 ∈ lx_Jt → g x.1 = false → ai_vx rF x = ai_vx r4 x := fun x hx hx2 => by
      show rF x.1 + x.2 = r4 x.1 + x.2
      rw [h _ hx hx2]
    rw [kx _ h1 b1, kx _ h2 b2] at hgd
    rw [kx _ h3 b3, kx _ h4 b4]
    exact J c hc hgd
  · rw [Bool.and_eq_true] at w
    rw [cx_q_ok w.1, cx_q_ok w.2] at hgd
    have hgd : rF A + 0 ≤ rF 0 + (B : Int) := hgd
    rw [hA, hz, h0] at hgd
    omega
theorem kw_jw : (List.range 12).all (fun s => lx_jcl.all (fun c => !(((Nat.ble (225 + 12 * s) c.1.1 && Nat.blt c.1.1 (225 + 12 * s + 12)) || (Nat.ble (225 + 12 * s) c.2.1.1 && Nat.blt c.2.1.1 (225 + 12 * s + 12))) || ((Nat.ble (225 + 12 * s) c.2.2.1.1 && Nat.blt c.2.2.1.1 (225 + 12 * s + 12)) || (Nat.ble (225 + 12 * s) c.2.2.2.1 && Nat.blt c.2.2.2.1 (225 + 12 * s + 12)))) || (cx_q c.1 (74, 0) && cx_q c.2.1 (0, .ofNat s)))) = true := by decide +kernel
theorem kw_jd : (List.range 4).all (fun p => lx_jcl.all (fun c => !(((Nat.ble (169 + 4 * p) c.1.1 && Nat.blt c.1.1 (169 + 4 * p + 4)) || (Nat.ble (169 + 4 * p) c.2.1.1 && Nat.blt c.2.1.1 (169 + 4 * p + 4))) || ((Nat.ble (169 + 4 * p) c.2.2.1.1 && Nat.blt c.2.2.1.1 (169 + 4 * p + 4)) || (Nat.ble (169 + 4 * p) c.2.2.2.1 && Nat.blt c.2.2.2.1 (169 + 4 * p + 4)))) || (cx_q c.1 (71, 0) && cx_q c.2.1 (0, .ofNat p)))) = true := by decide +kernel
theorem kw_Jw {r4 rF : Nat → Int} {s at' : Nat} (J : lx_J r4) (h0 : r4 0 = 0) (hs : s < 12) (h1 : (s : Int) + 1 ≤ r4 74) (h : ∀ t, t < 391 → t ≠ 70 → (at' < 12 → t ≠ 225 + (12 * s + at')) → rF t = r4 t) : lx_J rF := by
  refine kw_Jc (A := 74) (B := s) (g := fun t => Nat.ble (225 + 12 * s) t && Nat.blt t (225 + 12 * s + 12)) J h0 (List.all_eq_true.mp kw_jw s (List.mem_range.mpr hs)) h1 (h _ (by omega) (by omega) (by omega)) (h 0 (by omega) (by omega) (by omega)) (fun t ht hg => ?_)
  have w : lx_Jt.all (fun t => Nat.blt t 391 && !(Nat.beq t 70)) = true := by decide +kernel
  have g := List.all_eq_true.mp w t ht
  rw [Bool.and_eq_true, Bool.not_eq_true'] at g
  refine h t (Nat.le_of_ble_eq_true g.1) (Nat.ne_of_beq_eq_false g.2) (fun a q => ?_)
  have hg : (Nat.ble (225 + 12 * s) t && Nat.blt t (225 + 12 * s + 12)) = false := hg
  rw [Nat.ble_eq_true_of_le (by omega), show Nat.blt t (225 + 12 * s + 12) = true from Nat.ble_eq_true_of_le (by omega)] at hg
  cases hg
section LWW
variable {p : Program} {l : Launch} {e : Env} {R : Room} {s : State} {m : MethodId} {args : Array Value} {below : List Frame} {meth : Method} {c : Code} {Q : State → Prop}
variable {D : va_G} {tyc : Nat → ClassId} {A : Nat → Prop} {sa : ai_B} {ws : va_W} {b Ln z0 v k : Nat} {xs : Nat → Int32}
variable {r : Nat → Int} {ad : Nat → Nat} {H : Heap} {locs : List Loc} {ls : Array Slot} {st : List Value}
set_option maxHeartbeats 8000000 in
theorem lx_writeP (F : lx_Fr p R s m args meth c D tyc A sa) (hl : l.stackTraces = false) (hRf : 111 ≤ R.frames) (hRl : 8000 ≤ R.locals) (hsa : (z0, b, Ln, xs) ∈ sa.2) (hV : lx_V tyc ws r) (hvk : v ≤ k) (hk4 : k ≤ 4) (hR : ai_Rel D tyc A s sa ws 7 r ad lx_L [.inl (0, .ofNat 4)] (lx_G v 1) H locs ls st) (hi : 0 ≤ r 1 ∧ r 1 + 10 ≤ (Ln : Int)) (h5 : r 1 ≤ 5110) (h110 : r 73 = (k : Int)) (had : ad 0 = b)
    (kn : lx_Kn p l e R s m args below meth c Q D tyc A sa b (r 1)) : W p l e R s m args below meth c H locs 0 0 Q (F0 m 40 ls st) := by
  have hE : ai_gE r (lx_El v 1) := hR.env
  obtain ⟨x4, hrd, hR4⟩ := gq_start (xs := xs) hE ⟨hi.1, h5⟩ hR
  generalize gq_r4 r xs = r4 at x4 hrd hR4
  have hE4 : ai_gE r4 gq_E := hR4.env
  have h40 : r4 0 = 0 := hE4.1
  obtain ⟨bm, -, -, bz, -⟩ := kw_bd hE4
  have i1 := kw_i32 hE4 (t := 382) (by omega)
  have J4 : lx_J r4 := lx_J_keep hV.2 (fun t ht => x4 t (by
    have w : lx_Jt.all (fun t => Nat.blt t 382) = true := by decide +kernel
    exact Nat.le_of_ble_eq_true (List.all_eq_true.mp w t ht)))
  by_cases s0 : r4 382 ≤ -1
  · exact gq_fail F hl hRf hRl hsa hV hvk hk4 hE x4 hR4 hi h110 had kn kw_Pfok hrd (by decide +kernel) kw_f4_s0 ⟨pt_m0, pt_m1 ⟨i1.1, s0⟩, pt_m0⟩
  have s0 : 0 ≤ r4 382 := by omega
  by_cases s1 : r4 74 ≤ r4 382
  · exact gq_fail F hl hRf hRl hsa hV hvk hk4 hE x4 hR4 hi h110 had kn kw_Pfok hrd (by decide +kernel) kw_f4_s1 ⟨pt_m0, pt_m1 ⟨s0, i1.2⟩, pt_m1 (by show r4 74 + 0 ≤ r4 382 + 0; omega)⟩
  have s1 : r4 382 + 1 ≤ r4 74 := by omega
  obtain ⟨sh, hsh⟩ : ∃ sh : Nat, r4 382 = (sh : Int) := ⟨(r4 382).toNat, by omega⟩
  have sh12 : sh < 12 := by omega
  refine gq_twoO (hg := by decide +kernel) (hkk := by decide +kernel) (p1 := kw_p1) (p2 := kw_p2) (X1 := kw_X1) (X2 := kw_X2) (AL1 := kw_A1) (AL2 := kw_A2) (P0 := kw_P0) (P1 := kw_p1) (P2 := kw_p2) (x1 := (0, 0)) (x2 := (392, 0)) (b1 := (1, 6)) (b2 := (0, 0)) (XF := []) (XG1 := kw_R1) (XG2 := kw_G2) (hF := lx_h) (sp3 := []) (C := []) (Pf := kw_Pf) F hl hRf hRl hsa hV hvk hk4 hE x4 hrd hR4 hi h110 had wasys (wa_help (n := 7) (by omega)) ⟨by show 8 + 0 + 8 + 1 ≤ 111; omega, by show 64 * (8 + 0) + 400 + 64 ≤ 8000; omega⟩ kw_hp1 wbsys (wb_write (n := 7) (by omega)) ⟨by show 8 + 0 + 8 + 1 ≤ 111; omega, by show 64 * (8 + 0) + 400 + 64 ≤ 8000; omega⟩ kw_hp2 kw_bud.1 kw_bud.2.1 rfl rfl rfl kw_hB kw_Pfok kw_c1 kw_wc2 kw_cv.1 (gq_row_of kw_wrow) (fun cc hct => ?_) (fun cc hct r2 M2 v1 po1 hE2 hv1 => ?_) kn
  · obtain ⟨e1, -, -, -⟩ := kw_a1 (r4 := r4) (cc := cc)
    exact ⟨sh, sh12, by rw [e1]; exact hsh, by rw [e1, kw_r1 (kw_m1 kw_mMN)]; exact s1⟩
  obtain ⟨e1, e2, e3, -⟩ := kw_a1 (r4 := r4) (cc := cc)
  obtain ⟨hv, s', hs', es', -, em, keep⟩ := po1
  rw [e1] at es'
  have ess : s' = sh := by omega
  subst ess
  rw [kw_r1 (kw_m1 (kw_mSZ sh12)), kw_r1 (kw_m1 (kw_mSO sh12)), e2, e3] at em
  obtain ⟨w, hw⟩ : ∃ w, w = wv_r (r4 (213 + s')) (r4 (201 + s')) (r4 383) (r4 384) := ⟨_, rfl⟩
  rw [← hw] at em
  refine ⟨0, ?_, by decide, ⟨s', sh12, by rw [(kw_a2 (r4 := r4) (cc := cc) (a := 0)).1]; exact hsh, by rw [(kw_a2 (r4 := r4) (cc := cc) (a := 0)).1, kw_r2 (kw_m2 kw_mMN)]; exact s1⟩, fun r3 M3 v2 po2 hE3 hv2 => ?_⟩
  · rw [hv]
    refine congrArg some ?_
    show (0 : Int) = pt_set r4 391 0 0 + 0
    rw [show pt_set r4 391 0 0 = r4 0 from if_neg (by omega), h40]
    rfl
  obtain ⟨g1, g2, g3, -⟩ := kw_a2 (r4 := r4) (cc := cc) (a := 0)
  obtain ⟨s2, hs2, es2, ov, em3, rc, keep3⟩ := po2
  rw [g1] at es2
  have ess : s2 = s' := by omega
  subst ess
  rw [kw_r2 (kw_m2 (kw_mSZ sh12)), kw_r2 (kw_m2 (kw_mSO sh12)), g2, g3, ← hw] at em3 ov
  obtain ⟨at', hat⟩ : ∃ at' : Nat, at' = (r4 383).toNat := ⟨_, rfl⟩
  rw [← hat] at em em3
  have w12 : w = 0 → at' < 12 := fun h0 => by
    have := kw_wv0 (hw.symm.trans h0)
    have := (bz s2 sh12).2
    omega
  -- what the rows hold at the end
  have same : ∀ z : Nat, z < 144 → M3 283 z = M2 (70 + z / 12) (z % 12) := fun z hz => by
    rw [em, em3]
    by_cases h0 : w = 0
    · have a12 := w12 h0
      rw [if_pos h0, if_pos h0]
      show (if (283 : Nat) = 283 ∧ z = 12 * s2 + at' then r4 384 else cc 283 z) = (if 70 + z / 12 = 70 + s2 ∧ z % 12 = at' then r4 384 else cc (70 + z / 12) (z % 12))
      by_cases q : z = 12 * s2 + at'
      · rw [if_pos ⟨rfl, q⟩, if_pos ⟨by omega, by omega⟩]
      · rw [if_neg (fun h => q h.2), if_neg (fun h => q (by omega)), kw_t1 h40 hct hz, kw_t2 h40 hct hz]
    · rw [if_neg h0, if_neg h0, kw_t1 h40 hct hz, kw_t2 h40 hct hz]
  have stay : ∀ z : Nat, z < 144 → z ≠ 12 * s2 + at' ∨ w ≠ 0 → M3 283 z = r4 (225 + z) := fun z hz h => by
    rw [em3, ← kw_t2 h40 hct hz]
    by_cases h0 : w = 0
    · rw [if_pos h0]
      exact if_neg (fun q => by
        rcases h with h | h
        · exact h q.2
        · exact h h0)
    · rw [if_neg h0]
  obtain ⟨rF, hrF⟩ : ∃ rF : Nat → Int, rF = fun t => if t = 391 then 0 else if t = 392 then w else if t = 70 then 0 else if 225 ≤ t ∧ t < 225 + 144 then M3 283 (t - 225) else r4 t := ⟨_, rfl⟩
  have f0 : ∀ t, t < 391 → t ≠ 70 → ¬ (225 ≤ t ∧ t < 225 + 144) → rF t = r4 t := fun t a1 a2 a3 => by
    rw [hrF]
    show (if t = 391 then 0 else if t = 392 then w else if t = 70 then 0 else if 225 ≤ t ∧ t < 225 + 144 then M3 283 (t - 225) else r4 t) = _
    rw [if_neg (by omega), if_neg (by omega), if_neg a2, if_neg a3]
  have fr : ∀ z : Nat, z < 144 → rF (225 + z) = M3 283 z := fun z hz => by
    rw [hrF]
    show (if 225 + z = 391 then 0 else if 225 + z = 392 then w else if 225 + z = 70 then 0 else if 225 ≤ 225 + z ∧ 225 + z < 225 + 144 then M3 283 (225 + z - 225) else r4 (225 + z)) = _
    rw [if_neg (by omega), if_neg (by omega), if_neg (by omega), if_pos ⟨by omega, by omega⟩, show 225 + z - 225 = z by omega]
  have fc : rF 70 = 0 := by
    rw [hrF]
    rfl
  have f1 : rF 391 = 0 := by
    rw [hrF]
    rfl
  have f2 : rF 392 = w := by
    rw [hrF]
    rfl
  refine ⟨rF, fun t ht => ?_, fun t ht => ?_, fun t ht => ?_, f1, ?_, pt_m0, fun z hz => ?_, fun z hz => ?_, by rw [f2]; exact hv2 _ ov, pt_m0, ?_⟩
  · obtain ⟨a1, a2, a3⟩ := kw_n1 ht
    rw [f0 t (by omega) a2 a3, keep t (by omega) (by omega), kw_r1 ht]
  · obtain ⟨a1, a3, -⟩ := kw_n2 ht
    by_cases a2 : t = 70
    · rw [a2, fc, rc]
    · rw [f0 t (by omega) a2 a3, keep3 t (by omega) a2, kw_r2 ht]
  · obtain ⟨a1, a2, a3⟩ := kw_P0_ok ht
    exact f0 t a1 a2 a3
  · rw [ov]
    refine congrArg some ?_
    show w = rF 392 + 0
    rw [Int.add_zero, f2]
  · obtain ⟨z1, hz1, rfl⟩ := List.mem_map.mp hz
    have hz1 := List.mem_range.mp hz1
    exact (fr z1 hz1).trans (same z1 hz1)
  · rcases List.mem_append.mp hz with hz | hz
    · obtain ⟨z1, hz1, rfl⟩ := List.mem_map.mp hz
      exact fr z1 (List.mem_range.mp hz1)
    · have oth : ∀ q k, q ≠ 283 → M3 q k = cc q k := fun q k hq => by
        rw [em3]
        split
        · exact if_neg (fun h => hq h.1)
        · rfl
      rcases List.mem_append.mp hz with hz | hz
      · obtain ⟨z1, hz1, rfl⟩ := List.mem_map.mp hz
        have hz1 := List.mem_range.mp hz1
        show rF (169 + z1) = M3 279 z1
        rw [f0 _ (by omega) (by omega) (by omega), oth 279 z1 (by omega), (kw_t3 h40 hct hz1).1]
      · obtain ⟨z1, hz1, rfl⟩ := List.mem_map.mp hz
        have hz1 := List.mem_range.mp hz1
        show rF (185 + z1) = M3 280 z1
        rw [f0 _ (by omega) (by omega) (by omega), oth 280 z1 (by omega), (kw_t3 h40 hct hz1).2]
  · refine kw_Jw J4 h40 sh12 (by rw [← hsh]; exact s1) (at' := at') (fun t a1 a2 a3 => ?_)
    by_cases q : 225 ≤ t ∧ t < 225 + 144
    · obtain ⟨z, rfl⟩ : ∃ z, t = 225 + z := ⟨t - 225, by omega⟩
      rw [fr z (by omega)]
      by_cases h0 : w = 0
      · exact stay z (by omega) (Or.inl (fun e => a3 (w12 h0) (by omega)))
      · exact stay z (by omega) (Or.inr h0)
    · exact f0 t a1 a2 q
end LWW
