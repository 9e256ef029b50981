/-! write by its contracts -/
theorem kw_wc2 : gq_ck2B waY wbY kw_P0 kw_p1 kw_p2 [] kw_R1 kw_R2 lx_h = true := by decide +kernel
theorem kw_wrow : gq_row 4 454 260 true waY [wa_r 335, wa_i 364, wa_i 363, wa_i 362, wa_r 16] (wa_wL ++ [wa_r 335]) kw_A1 (0, 0) (1, 6) 478 180 false wbY [wa_i 331, wa_i 330, wa_i 329, wa_r 264] [wa_r 264, wa_i 329, wa_i 330, wa_i 331] kw_A2 (0, 0) (330, 0) [] lx_h [] kw_Pf = true := by decide +kernel
theorem kw_Jw {r4 rF : Nat → Int} {s at' : Nat} (J : lx_J r4) (h0 : r4 0 = 0) (hs : s < 12) (h1 : (s : Int) + 1 ≤ r4 104) (h : ∀ t, t < 329 → t ≠ 100 → (at' < 12 → t ≠ 175 + (12 * s + at')) → rF t = r4 t) : lx_J rF := fun j hj hm => by
  rw [h 104 (by omega) (by omega) (by omega)] at hm
  rw [h (175 + j) (by omega) (by omega) (fun a q => by omega)]
  exact J j hj hm
section LWW
variable {p : Program} {l : Launch} {e : Env} {R : Room} {s : State} {m : MethodId} {args : Array Value} {below : List Frame} {meth : Method} {c : Code} {Q : State → Prop}
variable {D : va_G} {tyc : Nat → ClassId} {A : Nat → Prop} {sa : ai_B} {ws : va_W} {b Ln z0 v k : Nat} {xs : Nat → Int32}
variable {r : Nat → Int} {ad : Nat → Nat} {H : Heap} {locs : List Loc} {ls : Array Slot} {st : List Value}
set_option maxHeartbeats 8000000 in
theorem lx_writeP (F : lx_Fr p R s m args meth c D tyc A sa) (hl : l.stackTraces = false) (hRf : 111 ≤ R.frames) (hRl : 8000 ≤ R.locals) (hsa : (z0, b, Ln, xs) ∈ sa.2) (hV : lx_V tyc ws r) (hvk : v ≤ k) (hk4 : k ≤ 4) (hR : ai_Rel D tyc A s sa ws 7 r ad lx_L [.inl (0, .ofNat 4)] (lx_G v 1) H locs ls st) (hi : 0 ≤ r 1 ∧ r 1 + 10 ≤ (Ln : Int)) (h5 : r 1 ≤ 5110) (h110 : r 103 = (k : Int)) (had : ad 0 = b)
    (kn : lx_Kn p l e R s m args below meth c Q D tyc A sa b (r 1)) : W p l e R s m args below meth c H locs 0 0 Q (F0 m 40 ls st) := by
  have hE : ai_gE r (lx_El v 1) := hR.env
  obtain ⟨x4, hrd, hR4⟩ := gq_start (xs := xs) hE ⟨hi.1, h5⟩ hR
  generalize gq_r4 r xs = r4 at x4 hrd hR4
  have hE4 : ai_gE r4 gq_E := hR4.env
  have h40 : r4 0 = 0 := hE4.1
  obtain ⟨bm, -, -, bz, -⟩ := kw_bd hE4
  have i1 := kw_i32 hE4 (t := 320) (by omega)
  have J4 : lx_J r4 := lx_J_keep hV.2 (fun t ht => x4 t (by
    have w : lx_Jt.all (fun t => Nat.blt t 320) = true := by decide +kernel
    exact Nat.le_of_ble_eq_true (List.all_eq_true.mp w t ht)))
  by_cases s0 : r4 320 ≤ -1
  · exact gq_fail F hl hRf hRl hsa hV hvk hk4 hE x4 hR4 hi h110 had kn kw_Pfok hrd (by decide +kernel) kw_f4_s0 ⟨pt_m0, pt_m1 ⟨i1.1, s0⟩, pt_m0⟩
  have s0 : 0 ≤ r4 320 := by omega
  by_cases s1 : r4 104 ≤ r4 320
  · exact gq_fail F hl hRf hRl hsa hV hvk hk4 hE x4 hR4 hi h110 had kn kw_Pfok hrd (by decide +kernel) kw_f4_s1 ⟨pt_m0, pt_m1 ⟨s0, i1.2⟩, pt_m1 (by show r4 104 + 0 ≤ r4 320 + 0; omega)⟩
  have s1 : r4 320 + 1 ≤ r4 104 := by omega
  obtain ⟨sh, hsh⟩ : ∃ sh : Nat, r4 320 = (sh : Int) := ⟨(r4 320).toNat, by omega⟩
  have sh12 : sh < 12 := by omega
  refine gq_twoB (p1 := kw_p1) (p2 := kw_p2) (X1 := kw_X1) (X2 := kw_X2) (AL1 := kw_A1) (AL2 := kw_A2) (P0 := kw_P0) (P1 := kw_p1) (P2 := kw_p2) (x1 := (0, 0)) (x2 := (330, 0)) (b1 := (1, 6)) (b2 := (0, 0)) (XF := []) (XG1 := kw_R1) (XG2 := kw_R2) (hF := lx_h) (sp3 := []) (C := []) (Pf := kw_Pf) F hl hRf hRl hsa hV hvk hk4 hE x4 hrd hR4 hi h110 had wasys (wa_help (n := 7) (by omega)) ⟨by show 8 + 0 + 8 + 1 ≤ 111; omega, by show 64 * (8 + 0) + 400 + 64 ≤ 8000; omega⟩ kw_hp1 wbsys (wb_write (n := 7) (by omega)) ⟨by show 8 + 0 + 8 + 1 ≤ 111; omega, by show 64 * (8 + 0) + 400 + 64 ≤ 8000; omega⟩ kw_hp2 kw_bud.1 kw_bud.2.1 rfl rfl rfl kw_hB kw_Pfok kw_c1 kw_wc2 kw_cv.1 (gq_row_of kw_wrow) (fun cc hct => ?_) (fun cc hct r2 M2 v1 po1 hE2 hv1 => ?_) kn
  · obtain ⟨e1, -, -, -⟩ := kw_a1 (r4 := r4) (cc := cc)
    exact ⟨sh, sh12, by rw [e1]; exact hsh, by rw [e1, kw_r1 (kw_m1 kw_mMN)]; exact s1⟩
  obtain ⟨e1, e2, e3, -⟩ := kw_a1 (r4 := r4) (cc := cc)
  obtain ⟨hv, s', hs', es', -, em, keep⟩ := po1
  rw [e1] at es'
  have ess : s' = sh := by omega
  subst ess
  rw [kw_r1 (kw_m1 (kw_mSZ sh12)), kw_r1 (kw_m1 (kw_mSO sh12)), e2, e3] at em
  obtain ⟨w, hw⟩ : ∃ w, w = wv_r (r4 (163 + s')) (r4 (151 + s')) (r4 321) (r4 322) := ⟨_, rfl⟩
  rw [← hw] at em
  refine ⟨0, ?_, by decide, ⟨s', sh12, by rw [(kw_a2 (r4 := r4) (cc := cc) (a := 0)).1]; exact hsh, by rw [(kw_a2 (r4 := r4) (cc := cc) (a := 0)).1, kw_r2 (kw_m2 kw_mMN)]; exact s1⟩, fun r3 M3 v2 po2 hE3 hv2 => ?_⟩
  · rw [hv]
    refine congrArg some ?_
    show (0 : Int) = pt_set r4 329 0 0 + 0
    rw [show pt_set r4 329 0 0 = r4 0 from if_neg (by omega), h40]
    rfl
  obtain ⟨g1, g2, g3, -⟩ := kw_a2 (r4 := r4) (cc := cc) (a := 0)
  obtain ⟨s2, hs2, es2, ov, em3, rc, keep3⟩ := po2
  rw [g1] at es2
  have ess : s2 = s' := by omega
  subst ess
  rw [kw_r2 (kw_m2 (kw_mSZ sh12)), kw_r2 (kw_m2 (kw_mSO sh12)), g2, g3, ← hw] at em3 ov
  obtain ⟨at', hat⟩ : ∃ at' : Nat, at' = (r4 321).toNat := ⟨_, rfl⟩
  rw [← hat] at em em3
  have w12 : w = 0 → at' < 12 := fun h0 => by
    have := kw_wv0 (hw.symm.trans h0)
    have := (bz s2 sh12).2
    omega
  -- what the rows hold at the end
  have same : ∀ z : Nat, z < 144 → M3 283 z = M2 (70 + z / 12) (z % 12) := fun z hz => by
    rw [em, em3]
    by_cases h0 : w = 0
    · have a12 := w12 h0
      rw [if_pos h0, if_pos h0]
      show (if (283 : Nat) = 283 ∧ z = 12 * s2 + at' then r4 322 else cc 283 z) = (if 70 + z / 12 = 70 + s2 ∧ z % 12 = at' then r4 322 else cc (70 + z / 12) (z % 12))
      by_cases q : z = 12 * s2 + at'
      · rw [if_pos ⟨rfl, q⟩, if_pos ⟨by omega, by omega⟩]
      · rw [if_neg (fun h => q h.2), if_neg (fun h => q (by omega)), kw_t1 h40 hct hz, kw_t2 h40 hct hz]
    · rw [if_neg h0, if_neg h0, kw_t1 h40 hct hz, kw_t2 h40 hct hz]
  have stay : ∀ z : Nat, z < 144 → z ≠ 12 * s2 + at' ∨ w ≠ 0 → M3 283 z = r4 (175 + z) := fun z hz h => by
    rw [em3, ← kw_t2 h40 hct hz]
    by_cases h0 : w = 0
    · rw [if_pos h0]
      exact if_neg (fun q => by
        rcases h with h | h
        · exact h q.2
        · exact h h0)
    · rw [if_neg h0]
  obtain ⟨rF, hrF⟩ : ∃ rF : Nat → Int, rF = fun t => if t = 329 then 0 else if t = 330 then w else if t = 100 then 0 else if 175 ≤ t ∧ t < 175 + 144 then M3 283 (t - 175) else r4 t := ⟨_, rfl⟩
  have f0 : ∀ t, t < 329 → t ≠ 100 → ¬ (175 ≤ t ∧ t < 175 + 144) → rF t = r4 t := fun t a1 a2 a3 => by
    rw [hrF]
    show (if t = 329 then 0 else if t = 330 then w else if t = 100 then 0 else if 175 ≤ t ∧ t < 175 + 144 then M3 283 (t - 175) else r4 t) = _
    rw [if_neg (by omega), if_neg (by omega), if_neg a2, if_neg a3]
  have fr : ∀ z : Nat, z < 144 → rF (175 + z) = M3 283 z := fun z hz => by
    rw [hrF]
    show (if 175 + z = 329 then 0 else if 175 + z = 330 then w else if 175 + z = 100 then 0 else if 175 ≤ 175 + z ∧ 175 + z < 175 + 144 then M3 283 (175 + z - 175) else r4 (175 + z)) = _
    rw [if_neg (by omega), if_neg (by omega), if_neg (by omega), if_pos ⟨by omega, by omega⟩, show 175 + z - 175 = z by omega]
  have fc : rF 100 = 0 := by
    rw [hrF]
    rfl
  have f1 : rF 329 = 0 := by
    rw [hrF]
    rfl
  have f2 : rF 330 = w := by
    rw [hrF]
    rfl
  refine ⟨rF, fun t ht => ?_, fun t ht => ?_, fun t ht => ?_, f1, ?_, pt_m0, fun z hz => ?_, fun z hz => ?_, by rw [f2]; exact hv2 _ ov, pt_m0, ?_⟩
  · obtain ⟨a1, a2, a3⟩ := kw_n1 ht
    rw [f0 t (by omega) a2 a3, keep t (by omega) (by omega), kw_r1 ht]
  · obtain ⟨a1, a3⟩ := kw_n2 ht
    by_cases a2 : t = 100
    · rw [a2, fc, rc]
    · rw [f0 t (by omega) a2 a3, keep3 t (by omega) a2, kw_r2 ht]
  · obtain ⟨a1, a2, a3⟩ := kw_P0_ok ht
    exact f0 t a1 a2 a3
  · rw [ov]
    refine congrArg some ?_
    show w = rF 330 + 0
    rw [Int.add_zero, f2]
  · obtain ⟨z1, hz1, rfl⟩ := List.mem_map.mp hz
    have hz1 := List.mem_range.mp hz1
    exact (fr z1 hz1).trans (same z1 hz1)
  · obtain ⟨z1, hz1, rfl⟩ := List.mem_map.mp hz
    exact fr z1 (List.mem_range.mp hz1)
  · refine kw_Jw J4 h40 sh12 (by rw [← hsh]; exact s1) (at' := at') (fun t a1 a2 a3 => ?_)
    by_cases q : 175 ≤ t ∧ t < 175 + 144
    · obtain ⟨z, rfl⟩ : ∃ z, t = 175 + z := ⟨t - 175, by omega⟩
      rw [fr z (by omega)]
      by_cases h0 : w = 0
      · exact stay z (by omega) (Or.inl (fun e => a3 (w12 h0) (by omega)))
      · exact stay z (by omega) (Or.inr h0)
    · exact f0 t a1 a2 q
end LWW
