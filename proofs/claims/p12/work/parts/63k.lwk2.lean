/-! day by its contracts -/
noncomputable def kw_hF : ai_H := (336, ai_tset 9 lx_h.2 335 (some (.inr (.inl (1, 1, .negSucc 9223372036854775807, .ofNat 9223372036854775807, [((0, .ofNat 0), (392, .ofNat 0))])))))
theorem kw_dc2 : gq_ck2 waY wbY kw_P0d kw_p1 kw_p2 [(392, 335, 0, 390)] kw_R1 kw_G2 kw_hF = true := by decide +kernel
theorem kw_drow : gq_row 6 588 262 true waY [wa_r 335, wa_i 395, wa_i 394, wa_i 393, wa_i 392, wa_r 16] (da_gL ++ [wa_r 335]) kw_A1 (0, 0) (1, 6) 618 183 false wbY [wa_i 394, wa_i 393, wa_i 392, wa_i 391, wa_r 264] [wa_r 264, wa_i 391, wa_i 392, wa_i 393, wa_i 394] kw_A2 (0, 0) (392, 0) [(70, 0)] kw_hF [] kw_Pf = true := by decide +kernel
section LWD
variable {p : Program} {l : Launch} {e : Env} {R : Room} {s : State} {m : MethodId} {args : Array Value} {below : List Frame} {meth : Method} {c : Code} {Q : State → Prop}
variable {D : va_G} {tyc : Nat → ClassId} {A : Nat → Prop} {sa : ai_B} {ws : va_W} {b Ln z0 v k : Nat} {xs : Nat → Int32}
variable {r : Nat → Int} {ad : Nat → Nat} {H : Heap} {locs : List Loc} {ls : Array Slot} {st : List Value}
set_option maxHeartbeats 8000000 in
theorem lx_dayP (F : lx_Fr p R s m args meth c D tyc A sa) (hl : l.stackTraces = false) (hRf : 111 ≤ R.frames) (hRl : 8000 ≤ R.locals) (hsa : (z0, b, Ln, xs) ∈ sa.2) (hV : lx_V tyc ws r) (hvk : v ≤ k) (hk4 : k ≤ 4) (hR : ai_Rel D tyc A s sa ws 7 r ad lx_L [.inl (0, .ofNat 6)] (lx_G v 1) H locs ls st) (hi : 0 ≤ r 1 ∧ r 1 + 10 ≤ (Ln : Int)) (h5 : r 1 ≤ 5110) (h110 : r 73 = (k : Int)) (had : ad 0 = b)
    (kn : lx_Kn p l e R s m args below meth c Q D tyc A sa b (r 1)) : W p l e R s m args below meth c H locs 0 0 Q (F0 m 40 ls st) := by
  have hE : ai_gE r (lx_El v 1) := hR.env
  obtain ⟨x4, hrd, hR4⟩ := gq_start (xs := xs) hE ⟨hi.1, h5⟩ hR
  generalize gq_r4 r xs = r4 at x4 hrd hR4
  have hE4 : ai_gE r4 gq_E := hR4.env
  have h40 : r4 0 = 0 := hE4.1
  obtain ⟨bm, bp, bmi, bz, bk⟩ := kw_bd hE4
  have i1 := kw_i32 hE4 (t := 382) (by omega)
  have i2 := kw_i32 hE4 (t := 383) (by omega)
  have i3 := kw_i32 hE4 (t := 384) (by omega)
  have J4 : lx_J r4 := lx_J_keep hV.2 (fun t ht => x4 t (by
    have w : lx_Jt.all (fun t => Nat.blt t 382) = true := by decide +kernel
    exact Nat.le_of_ble_eq_true (List.all_eq_true.mp w t ht)))
  have fail : ∀ {rd : List (Int × ai_X)} {cp : List (Nat × Int × Int)} {le : List (ai_X × ai_X)}, (∀ q ∈ rd, ai_vx r4 q.2 = (xs (r 1 + q.1).toNat).toInt) → (rd.all (fun q => Nat.blt q.2.1 393) && (cp.all (fun q => Nat.blt q.1 393) && le.all (fun q => Nat.blt q.1.1 393 && Nat.blt q.2.1 393))) = true → gq_frow 6 rd cp le [] kw_Pf = true → pt_asm r4 [] cp le → W p l e R s m args below meth c H locs 0 0 Q (F0 m 40 ls st) := fun h1 h2 h3 h4 => gq_fail F hl hRf hRl hsa hV hvk hk4 hE x4 hR4 hi h110 had kn kw_Pfok h1 h2 h3 h4
  by_cases w0 : r4 382 ≤ -1
  · exact fail hrd (by decide +kernel) kw_f6_w0 ⟨pt_m0, pt_m1 ⟨i1.1, w0⟩, pt_m0⟩
  have w0 : 0 ≤ r4 382 := by omega
  by_cases w1 : 2 ≤ r4 382
  · exact fail hrd (by decide +kernel) kw_f6_w1 ⟨pt_m0, pt_m1 ⟨w1, i1.2⟩, pt_m0⟩
  have w1 : r4 382 ≤ 1 := by omega
  by_cases s0 : r4 384 ≤ -1
  · exact fail hrd (by decide +kernel) kw_f6_s0 ⟨pt_m0, pt_m2 ⟨w0, w1⟩ ⟨i3.1, s0⟩, pt_m0⟩
  have s0 : 0 ≤ r4 384 := by omega
  by_cases s1 : r4 74 ≤ r4 384
  · exact fail hrd (by decide +kernel) kw_f6_s1 ⟨pt_m0, pt_m2 ⟨w0, w1⟩ ⟨s0, i3.2⟩, pt_m1 (by show r4 74 + 0 ≤ r4 384 + 0; omega)⟩
  have s1 : r4 384 + 1 ≤ r4 74 := by omega
  have s11 : r4 384 ≤ 11 := by omega
  have les : ai_vx r4 (384, 1) ≤ ai_vx r4 (74, 0) := by
    show r4 384 + 1 ≤ r4 74 + 0
    omega
  obtain ⟨sh, hsh⟩ : ∃ sh : Nat, r4 384 = (sh : Int) := ⟨(r4 384).toNat, by omega⟩
  have sh12 : sh < 12 := by omega
  -- which place, which mill
  have main : (∃ pp : Nat, pp < 4 ∧ r4 383 = (pp : Int) ∧ ((r4 382 = 0 ∧ r4 383 + 1 ≤ r4 71) ∨ (r4 382 = 1 ∧ r4 383 + 1 ≤ r4 73 ∧ r4 (137 + pp) = 3))) → W p l e R s m args below meth c H locs 0 0 Q (F0 m 40 ls st) := fun hwh => by
    refine gq_twoO (hg := by decide +kernel) (hkk := by decide +kernel) (p1 := kw_p1) (p2 := kw_p2) (X1 := kw_X1) (X2 := kw_X2) (AL1 := kw_A1) (AL2 := kw_A2) (P0 := kw_P0d) (P1 := kw_p1) (P2 := kw_p2) (x1 := (0, 0)) (x2 := (392, 0)) (b1 := (1, 6)) (b2 := (0, 0)) (XF := [(392, 335, 0, 390)]) (XG1 := kw_R1) (XG2 := kw_G2) (hF := kw_hF) (sp3 := [(70, 0)]) (C := []) (Pf := kw_Pf) F hl hRf hRl hsa hV hvk hk4 hE x4 hrd hR4 hi h110 had wasys (da_help (n := 7) (by omega)) ⟨by show 8 + 0 + 8 + 1 ≤ 111; omega, by show 64 * (8 + 0) + 400 + 64 ≤ 8000; omega⟩ kw_hp1 wbsys (db_day (n := 7) (by omega)) ⟨by show 8 + 0 + 8 + 1 ≤ 111; omega, by show 64 * (8 + 0) + 400 + 64 ≤ 8000; omega⟩ kw_hp2 kw_bud.2.2.1 kw_bud.2.2.2 rfl rfl rfl kw_hBd kw_Pfok kw_c1 kw_dc2 kw_cv.2 (gq_row_of kw_drow) (fun cc hct => ?_) (fun cc hct r2 M2 v1 po1 hE2 hv1 => ?_) kn
    · obtain ⟨e1, e2, e3, -⟩ := kw_a1 (r4 := r4) (cc := cc)
      obtain ⟨pp, hp4, hpp, hk⟩ := hwh
      refine ⟨⟨sh, sh12, by rw [e3]; exact hsh, by rw [e3, kw_r1 (kw_m1 kw_mMN)]; exact s1⟩, pp, hp4, by rw [e2]; exact hpp, ?_⟩
      rw [e1, e2, kw_r1 (kw_m1 kw_mPL), kw_r1 (kw_m1 kw_mMI), kw_r1 (kw_m1 (kw_mKI hp4))]
      exact hk
    obtain ⟨e1, e2, e3, e4⟩ := kw_a1 (r4 := r4) (cc := cc)
    obtain ⟨hv, s', hs', es', p', hp', ep', wh, hwh2, ewh, an, em, keep⟩ := po1
    rw [e3] at es'
    rw [e2] at ep'
    rw [e1] at ewh
    have ess : s' = sh := by omega
    subst ess
    refine ⟨0, ?_, by decide, ?_, fun r3 M3 v2 po2 hE3 hv2 => ?_⟩
    · rw [hv]
      refine congrArg some ?_
      show (0 : Int) = pt_set r4 391 0 0 + 0
      rw [show pt_set r4 391 0 0 = r4 0 from if_neg (by omega), h40]
      rfl
    · obtain ⟨g1, g2, g3, -⟩ := kw_a2 (r4 := r4) (cc := cc) (a := 0)
      obtain ⟨pp, hp4, hpp, hk⟩ := hwh
      refine ⟨⟨s', sh12, by rw [g3]; exact hsh, by rw [g3, kw_r2 (kw_m2 kw_mMN)]; exact s1⟩, pp, hp4, by rw [g2]; exact hpp, ?_⟩
      rw [g1, g2, kw_r2 (kw_m2 kw_mPL), kw_r2 (kw_m2 kw_mMI), kw_r2 (kw_m2 (kw_mKI hp4))]
      exact hk
    obtain ⟨g1, g2, g3, g4⟩ := kw_a2 (r4 := r4) (cc := cc) (a := 0)
    obtain ⟨s2, hs2, es2, p2', hp2, ep2, wh2, hwh3, ewh2, ov, em3, rc, keep3⟩ := po2
    rw [g3] at es2
    rw [g1] at ewh2
    have ess : s2 = s' := by omega
    subst ess
    have eww : wh2 = wh := by omega
    subst eww
    have rowM3 : ∀ z : Nat, z < 144 → M3 283 z = cc 283 z := fun z hz => by
      rw [em3]
      split
      · refine dm_o (fun q => ?_)
        rcases (by omega : wh2 = 0 ∨ wh2 = 1) with rfl | rfl <;> cases q
      · rfl
    -- the answers are one
    obtain ⟨wA, hwA⟩ : ∃ wA : Nat → Int, wA = fun q => cc (70 + s2) ((r4 385).toNat + q) := ⟨_, rfl⟩
    obtain ⟨wB, hwB⟩ : ∃ wB : Nat → Int, wB = fun q => cc 283 (12 * s2 + ((r4 385).toNat + q)) := ⟨_, rfl⟩
    have ew : r4 385 < 9 → ∀ q : Nat, q < 4 → wB q = wA q := fun h9 q hq => by
      have h144 : 12 * s2 + ((r4 385).toNat + q) < 144 := by omega
      have t1 := kw_t1 h40 hct h144
      rw [show 70 + (12 * s2 + ((r4 385).toNat + q)) / 12 = 70 + s2 by omega, show (12 * s2 + ((r4 385).toNat + q)) % 12 = (r4 385).toNat + q by omega] at t1
      rw [hwA, hwB]
      show cc 283 (12 * s2 + ((r4 385).toNat + q)) = cc (70 + s2) ((r4 385).toNat + q)
      rw [kw_t2 h40 hct h144, t1]
    have b12 := (bz s2 sh12).2
    have eA : da_v (gq_rn r4 cc kw_p1 kw_X1 kw_A1 waY.1) cc wh2 s2 = dv_r (r4 (213 + s2)) (r4 385) ((da_mo wh2 : Nat) : Int) wA := by
      unfold da_v
      rw [kw_r1 (kw_m1 (kw_mSZ sh12)), e4, hwA]
    have eB : db_v (gq_rn (pt_set r4 391 0) cc kw_p2 kw_X2 kw_A2 wbY.1) cc wh2 s2 = dv_r (r4 (213 + s2)) (r4 385) ((da_mo wh2 : Nat) : Int) wB := by
      unfold db_v
      rw [kw_r2 (kw_m2 (kw_mSZ sh12)), g4, hwB]
    have eqv : dv_r (r4 (213 + s2)) (r4 385) ((da_mo wh2 : Nat) : Int) wB = dv_r (r4 (213 + s2)) (r4 385) ((da_mo wh2 : Nat) : Int) wA := by
      unfold dv_r
      by_cases hp : r4 (213 + s2) = -1
      · rw [if_pos hp, if_pos hp]
      · rw [if_neg hp, if_neg hp]
        by_cases hq : r4 385 < 0 ∨ r4 (213 + s2) < r4 385 + 4
        · rw [if_pos hq, if_pos hq]
        · have h9 : r4 385 < 9 := by omega
          rw [if_neg hq, if_neg hq, ew h9 0 (by omega), ew h9 1 (by omega), ew h9 2 (by omega), ew h9 3 (by omega)]
    rw [eB, eqv] at ov em3
    rw [eA] at an keep
    rw [e4] at keep
    rw [g4] at em3
    have hwA' : (fun q => cc (70 + s2) ((r4 385).toNat + q)) = wA := hwA.symm
    have hwB' : (fun q => cc 283 (12 * s2 + ((r4 385).toNat + q))) = wB := hwB.symm
    rw [hwA'] at keep
    rw [hwB'] at em3
    have v0 : dv_r (r4 (213 + s2)) (r4 385) ((da_mo wh2 : Nat) : Int) wA = 0 → r4 385 < 9 := fun h => by
      unfold dv_r at h
      split at h
      · cases h
      · split at h
        · cases h
        · omega
    have ans : v2 = some (r2 390) := by
      rw [ov, an]
    rw [g2] at ep2
    have epp : p2' = p' := by omega
    subst epp
    have hT := da_tbr (da_Tin (what := wh2) (p := p2') hwh2 hp')
    have hTb : da_tb (da_T wh2 p2') = (if wh2 = 0 then 169 else 185) + 4 * p2' := by
      have z : (List.range 2).all (fun wh => (List.range 4).all (fun p => Nat.beq (da_tb (da_T wh p)) ((if wh = 0 then 169 else 185) + 4 * p))) = true := by decide +kernel
      exact Nat.eq_of_beq_eq_true (List.all_eq_true.mp (List.all_eq_true.mp z wh2 (List.mem_range.mpr hwh2)) p2' (List.mem_range.mpr hp'))
    -- what the land holds at the end
    have land : ∀ z : Nat, z < 16 → r2 (169 + z) = M3 279 z ∧ r2 (185 + z) = M3 280 z := fun z hz => by
      have p1a : kw_p1 (169 + z) = true ∧ kw_p1 (185 + z) = true := by
        have q : (List.range 16).all (fun z => kw_p1 (169 + z) && kw_p1 (185 + z)) = true := by decide +kernel
        have g := List.all_eq_true.mp q z (List.mem_range.mpr hz)
        rw [Bool.and_eq_true] at g
        exact g
      rw [keep _ (by omega) (by omega), keep _ (by omega) (by omega), em3]
      obtain ⟨t3a, t3b⟩ := kw_t3 h40 hct hz
      by_cases h0 : dv_r (r4 (213 + s2)) (r4 385) ((da_mo wh2 : Nat) : Int) wA = 0
      · rw [if_pos h0, if_pos h0, if_pos h0]
        have h9 := v0 h0
        unfold da_nu
        rcases (by omega : wh2 = 0 ∨ wh2 = 1) with rfl | rfl
        · have hTc : da_tb (da_T 0 p2') = 169 + 4 * p2' := hTb.trans (by rw [if_pos rfl])
          rw [hTc, kw_r1 p1a.1, kw_r1 p1a.2]
          refine ⟨?_, ?_⟩
          · show _ = (if (279 : Nat) = 279 ∧ 4 * p2' ≤ z ∧ z < 4 * p2' + 4 then wB (z - 4 * p2') else cc 279 z)
            by_cases q : 4 * p2' ≤ z ∧ z < 4 * p2' + 4
            · rw [if_pos ⟨by omega, by omega⟩, if_pos ⟨rfl, q⟩, ew h9 _ (by omega), show 169 + z - (169 + 4 * p2') = z - 4 * p2' by omega]
            · rw [if_neg (by omega), if_neg (fun k => q k.2), t3a]
          · rw [if_neg (by omega), ← t3b]
            exact (dm_o (by decide)).symm
        · have hTc : da_tb (da_T 1 p2') = 185 + 4 * p2' := hTb.trans (by rw [if_neg (show ¬ (1 : Nat) = 0 by decide)])
          rw [hTc, kw_r1 p1a.1, kw_r1 p1a.2]
          refine ⟨?_, ?_⟩
          · rw [if_neg (by omega), ← t3a]
            exact (dm_o (by decide)).symm
          · show _ = (if (280 : Nat) = 280 ∧ 4 * p2' ≤ z ∧ z < 4 * p2' + 4 then wB (z - 4 * p2') else cc 280 z)
            by_cases q : 4 * p2' ≤ z ∧ z < 4 * p2' + 4
            · rw [if_pos ⟨by omega, by omega⟩, if_pos ⟨rfl, q⟩, ew h9 _ (by omega), show 185 + z - (185 + 4 * p2') = z - 4 * p2' by omega]
            · rw [if_neg (by omega), if_neg (fun k => q k.2), t3b]
      · rw [if_neg h0, if_neg h0, if_neg h0, kw_r1 p1a.1, kw_r1 p1a.2, t3a, t3b]
        exact ⟨rfl, rfl⟩
    obtain ⟨rF, hrF⟩ : ∃ rF : Nat → Int, rF = fun t => if t = 391 then 0 else if t = 392 then r2 390 else if t = 70 then 0 else if (169 ≤ t ∧ t < 169 + 16) ∨ (185 ≤ t ∧ t < 185 + 16) then r2 t else r4 t := ⟨_, rfl⟩
    have f0 : ∀ t, t < 391 → t ≠ 70 → ¬ ((169 ≤ t ∧ t < 169 + 16) ∨ (185 ≤ t ∧ t < 185 + 16)) → rF t = r4 t := fun t a1 a2 a3 => by
      rw [hrF]
      show (if t = 391 then 0 else if t = 392 then r2 390 else if t = 70 then 0 else if (169 ≤ t ∧ t < 169 + 16) ∨ (185 ≤ t ∧ t < 185 + 16) then r2 t else r4 t) = _
      rw [if_neg (by omega), if_neg (by omega), if_neg a2, if_neg a3]
    have fg : ∀ t, ((169 ≤ t ∧ t < 169 + 16) ∨ (185 ≤ t ∧ t < 185 + 16)) → rF t = r2 t := fun t a3 => by
      rw [hrF]
      show (if t = 391 then 0 else if t = 392 then r2 390 else if t = 70 then 0 else if (169 ≤ t ∧ t < 169 + 16) ∨ (185 ≤ t ∧ t < 185 + 16) then r2 t else r4 t) = _
      rw [if_neg (by omega), if_neg (by omega), if_neg (by omega), if_pos a3]
    have fc : rF 70 = 0 := by
      rw [hrF]
      rfl
    have f1 : rF 391 = 0 := by
      rw [hrF]
      rfl
    have f2 : rF 392 = r2 390 := by
      rw [hrF]
      rfl
    refine ⟨rF, fun t ht => ?_, fun t ht => ?_, fun t ht => f0 t (kw_P0d_ok ht).1 (kw_P0d_ok ht).2.1 (kw_P0d_ok ht).2.2, f1, ?_, pt_m1 f2, fun z hz => ?_, fun z hz => ?_, by rw [f2]; exact hv2 _ ans, pt_m1 fc, ?_⟩
    · obtain ⟨a1, a2, -⟩ := kw_n1 ht
      by_cases a3 : (169 ≤ t ∧ t < 169 + 16) ∨ (185 ≤ t ∧ t < 185 + 16)
      · exact fg t a3
      · rw [f0 t (by omega) a2 a3, keep t (by omega) (by omega), da_nun (by omega) (by omega), kw_r1 ht]
        exact (ite_self _).symm
    · obtain ⟨a1, -, a3⟩ := kw_n2 ht
      by_cases a2 : t = 70
      · rw [a2, fc, rc]
      · rw [f0 t (by omega) a2 a3, keep3 t (by omega) a2, kw_r2 ht]
    · rw [ans]
      refine congrArg some ?_
      show r2 390 = rF 392 + 0
      rw [Int.add_zero, f2]
    · obtain ⟨z1, hz1, rfl⟩ := List.mem_map.mp hz
      have hz1 := List.mem_range.mp hz1
      show rF (225 + z1) = M2 (70 + z1 / 12) (z1 % 12)
      rw [f0 _ (by omega) (by omega) (by omega), em, kw_t1 h40 hct hz1]
    · rcases List.mem_append.mp hz with hz | hz
      · obtain ⟨z1, hz1, rfl⟩ := List.mem_map.mp hz
        have hz1 := List.mem_range.mp hz1
        show rF (225 + z1) = M3 283 z1
        rw [f0 _ (by omega) (by omega) (by omega), rowM3 z1 hz1, kw_t2 h40 hct hz1]
      · rcases List.mem_append.mp hz with hz | hz
        · obtain ⟨z1, hz1, rfl⟩ := List.mem_map.mp hz
          have hz1 := List.mem_range.mp hz1
          exact (fg _ (Or.inl ⟨by omega, by omega⟩)).trans (land z1 hz1).1
        · obtain ⟨z1, hz1, rfl⟩ := List.mem_map.mp hz
          have hz1 := List.mem_range.mp hz1
          exact (fg _ (Or.inr ⟨by omega, by omega⟩)).trans (land z1 hz1).2
    · obtain ⟨pp, hp4, hpp, hk⟩ := hwh
      have epq : pp = p2' := by omega
      subst epq
      have other : ∀ t ∈ lx_Jt, ¬ (169 + 4 * pp ≤ t ∧ t < 169 + 4 * pp + 4 ∧ wh2 = 0) → rF t = r4 t := fun t ht hn => by
        have w : lx_Jt.all (fun t => Nat.blt t 391 && (!(Nat.beq t 70) && !(Nat.ble 185 t && Nat.blt t (185 + 16)))) = true := by decide +kernel
        have g := List.all_eq_true.mp w t ht
        simp only [Bool.and_eq_true, Bool.not_eq_true'] at g
        obtain ⟨w1, w2, w3⟩ := g
        have w1 := Nat.le_of_ble_eq_true w1
        have w2 := Nat.ne_of_beq_eq_false w2
        have w3 : ¬ (185 ≤ t ∧ t < 185 + 16) := fun q => by
          rw [Nat.ble_eq_true_of_le q.1, show Nat.blt t (185 + 16) = true from Nat.ble_eq_true_of_le q.2] at w3
          cases w3
        by_cases a3 : 169 ≤ t ∧ t < 169 + 16
        · rw [fg t (Or.inl a3)]
          have p1a : kw_p1 t = true := by
            have q : (List.range 16).all (fun z => kw_p1 (169 + z)) = true := by decide +kernel
            have g := List.all_eq_true.mp q (t - 169) (List.mem_range.mpr (by omega))
            rw [show 169 + (t - 169) = t by omega] at g
            exact g
          rw [keep t (by omega) (by omega), kw_r1 p1a]
          by_cases h0 : dv_r (r4 (213 + s2)) (r4 385) ((da_mo wh2 : Nat) : Int) wA = 0
          · rw [if_pos h0]
            unfold da_nu
            rw [hTb, if_neg (by
              rcases (by omega : wh2 = 0 ∨ wh2 = 1) with rfl | rfl
              · rw [if_pos rfl]
                omega
              · rw [if_neg (by decide)]
                omega), kw_r1 p1a]
          · rw [if_neg h0]
        · exact f0 t (by omega) w2 (by omega)
      rcases hk with ⟨k1, k2⟩ | ⟨k1, k2, -⟩
      · have hw0 : wh2 = 0 := by omega
        refine kw_Jc (A := 71) (B := pp) (g := fun t => Nat.ble (169 + 4 * pp) t && Nat.blt t (169 + 4 * pp + 4)) J4 h40 (List.all_eq_true.mp kw_jd pp (List.mem_range.mpr hp4)) (by omega) (f0 _ (by omega) (by omega) (by omega)) (f0 0 (by omega) (by omega) (by omega)) (fun t ht hg => other t ht (fun q => ?_))
        have hg : (Nat.ble (169 + 4 * pp) t && Nat.blt t (169 + 4 * pp + 4)) = false := hg
        rw [Nat.ble_eq_true_of_le q.1, show Nat.blt t (169 + 4 * pp + 4) = true from Nat.ble_eq_true_of_le q.2.1] at hg
        cases hg
      · exact lx_J_keep J4 (fun t ht => other t ht (fun q => by omega))
  by_cases hw0 : r4 382 = 0
  · have w00 : (0 : Int) ≤ r4 382 ∧ r4 382 ≤ 0 := ⟨by omega, by omega⟩
    by_cases n0 : r4 383 ≤ -1
    · exact fail hrd (by decide +kernel) kw_f6_n0 ⟨pt_m0, pt_m3 w00 ⟨i2.1, n0⟩ ⟨s0, s11⟩, pt_m1 les⟩
    have n0 : 0 ≤ r4 383 := by omega
    by_cases n1 : r4 71 ≤ r4 383
    · exact fail hrd (by decide +kernel) kw_f6_n1 ⟨pt_m0, pt_m3 w00 ⟨n0, i2.2⟩ ⟨s0, s11⟩, pt_m2 les (by show r4 71 + 0 ≤ r4 383 + 0; omega)⟩
    exact main ⟨(r4 383).toNat, by omega, by omega, Or.inl ⟨hw0, by omega⟩⟩
  · have w01 : (1 : Int) ≤ r4 382 ∧ r4 382 ≤ 1 := ⟨by omega, w1⟩
    by_cases n0 : r4 383 ≤ -1
    · exact fail hrd (by decide +kernel) kw_f6_m0 ⟨pt_m0, pt_m3 w01 ⟨i2.1, n0⟩ ⟨s0, s11⟩, pt_m1 les⟩
    have n0 : 0 ≤ r4 383 := by omega
    by_cases n1 : r4 73 ≤ r4 383
    · exact fail hrd (by decide +kernel) kw_f6_m1 ⟨pt_m0, pt_m3 w01 ⟨n0, i2.2⟩ ⟨s0, s11⟩, pt_m2 les (by show r4 73 + 0 ≤ r4 383 + 0; omega)⟩
    have n1 : r4 383 + 1 ≤ r4 73 := by omega
    obtain ⟨pp, hpp⟩ : ∃ pp : Nat, r4 383 = (pp : Int) := ⟨(r4 383).toNat, by omega⟩
    have pp4 : pp < 4 := by omega
    by_cases hk3 : r4 (137 + pp) = 3
    · exact main ⟨pp, pp4, hpp, Or.inr ⟨by omega, n1, hk3⟩⟩
    have bkp := bk pp pp4
    have hrd2 : ∀ q ∈ kw_rd pp, ai_vx r4 q.2 = (xs (r 1 + q.1).toNat).toInt := fun q hq => by
      have g : ∀ q ∈ gq_rd, ai_vx r4 q.2 = (xs (r 1 + q.1).toNat).toInt := hrd
      unfold kw_rd at hq
      simp only [List.mem_cons, List.not_mem_nil, or_false] at hq
      rcases hq with rfl | rfl | rfl | rfl
      · exact g (1, (382, 0)) (by simp [gq_rd])
      · rw [← g (2, (383, 0)) (by simp [gq_rd])]
        show r4 0 + (pp : Int) = r4 383 + 0
        omega
      · exact g (3, (384, 0)) (by simp [gq_rd])
      · exact g (4, (385, 0)) (by simp [gq_rd])
    have row := List.all_eq_true.mp kw_f6_k pp (List.mem_range.mpr pp4)
    rw [Bool.and_eq_true] at row
    exact fail hrd2 row.2 row.1 ⟨pt_m0, pt_m4 w01 ⟨s0, s11⟩ ⟨by show ((pp + 1 : Nat) : Int) ≤ r4 73; omega, bmi.2⟩ ⟨by show (0 : Int) ≤ r4 (137 + pp); omega, by show r4 (137 + pp) ≤ (2 : Int); omega⟩, pt_m1 les⟩
end LWD
