/-! act by its contracts -/
noncomputable def ka_P0 (t : Nat) : Bool := Nat.blt t 402 && !(Nat.beq t 72 || kv_rw t)
noncomputable def ka_Pf : List (Nat × Nat × Nat) := [(1, 0, 4), (72, 264, 1)]
theorem ka_Pfok : lx_pc ka_Pf = true := by decide +kernel
theorem ka_P0_ok {t : Nat} (h : ka_P0 t = true) : t < 402 ∧ t ≠ 72 ∧ ¬ (379 ≤ t ∧ t < 379 + 13) := by
  unfold ka_P0 at h
  rw [Bool.and_eq_true, Bool.not_eq_true', Bool.or_eq_false_iff] at h
  exact ⟨Nat.le_of_ble_eq_true h.1, Nat.ne_of_beq_eq_false h.2.1, kv_rwF h.2.2⟩
theorem ka_hB : ∀ t, (ka_P0 t = true ∨ kv_p1 t = true ∨ kv_p2 t = true) → t < 404 := fun t h => by
  rcases h with h | h | h
  · have := (ka_P0_ok h).1
    omega
  · have := (kv_n1 h).1
    omega
  · have := (kv_n2 h).1
    omega
theorem ka_cv : gq_cv ka_P0 = true := by decide +kernel
noncomputable def ka_hF : ai_H := (336, ai_tset 9 lx_h.2 335 (some (.inr (.inl (1, 1, .negSucc 9223372036854775807, .ofNat 9223372036854775807, [((0, .ofNat 0), (403, .ofNat 0))])))))
theorem ka_c2 : gq_ck2 qaY qbY ka_P0 kv_p1 kv_p2 [(403, 335, 0, 401)] kv_R1 kv_R2 ka_hF = true := by decide +kernel
theorem ka_row : gq_row 28 1545 281 true qaY [wa_r 335, wa_i 403, wa_r 16] (qa_wL ++ [wa_r 335]) kv_A1 (0, 0) (1, 6) 1557 253 false qbY [wa_i 402, wa_r 264] [wa_r 264, wa_i 402] kv_A2 (0, 0) (403, 0) [(72, 0)] ka_hF [] ka_Pf = true := by decide +kernel
theorem ka_bdr : (112, ((-1 : Int), (13 : Int))) ∈ gq_E.2.1 ∧ (69, ((0 : Int), (13 : Int))) ∈ gq_E.2.1 := by decide +kernel
noncomputable def ka_t9 : Bool := match ai_cell lx_h 329 with
  | some (.inr (.inl (a, b, lo, hi, l))) => Nat.beq a 0 && (Nat.beq b 4096 && (ai_eq lo (-1) && (ai_eq hi 12 && l.isEmpty)))
  | _ => false
theorem ka_t9t : ka_t9 = true := by decide +kernel
theorem ka_c9 : ai_cell lx_h 329 = some (.inr (.inl (0, 4096, -1, 12, []))) := by
  have h := ka_t9t
  unfold ka_t9 at h
  split at h
  · rename_i a b lo hi l e
    simp only [Bool.and_eq_true] at h
    obtain ⟨h1, h2, h3, h4, h5⟩ := h
    rw [e, Nat.eq_of_beq_eq_true h1, Nat.eq_of_beq_eq_true h2, ai_eq_iff.mp h3, ai_eq_iff.mp h4, List.isEmpty_iff.mp h5]
  · cases h
theorem ka_f28_a0 : gq_frow 28 gq_rd [(393, (-2147483648, -1))] [] [] ka_Pf = true := by decide +kernel
theorem ka_f28_a1 : gq_frow 28 gq_rd [(69, (0, 0)), (112, (-1, -1)), (393, (0, 2147483647))] [] [] ka_Pf = true := by decide +kernel
theorem ka_f28_a2 : gq_frow 28 gq_rd [(112, (0, 13)), (393, (0, 2147483647))] [((112, 0), (393, 0)), ((69, 0), (393, 0))] [] ka_Pf = true := by decide +kernel
section LAC
variable {p : Program} {l : Launch} {e : Env} {R : Room} {s : State} {m : MethodId} {args : Array Value} {below : List Frame} {meth : Method} {c : Code} {Q : State → Prop}
variable {D : va_G} {tyc : Nat → ClassId} {A : Nat → Prop} {sa : ai_B} {ws : va_W} {b Ln z0 v k : Nat} {xs : Nat → Int32}
variable {r : Nat → Int} {ad : Nat → Nat} {H : Heap} {locs : List Loc} {ls : Array Slot} {st : List Value}
set_option maxHeartbeats 8000000 in
theorem lx_actP (F : lx_Fr p R s m args meth c D tyc A sa) (hl : l.stackTraces = false) (hRf : 111 ≤ R.frames) (hRl : 8000 ≤ R.locals) (hsa : (z0, b, Ln, xs) ∈ sa.2) (hV : lx_V tyc ws r) (hvk : v ≤ k) (hk4 : k ≤ 4) (hR : ai_Rel D tyc A s sa ws 7 r ad lx_L [.inl (0, .ofNat 28)] (lx_G v 1) H locs ls st) (hi : 0 ≤ r 1 ∧ r 1 + 10 ≤ (Ln : Int)) (h5 : r 1 ≤ 5110) (h110 : r 75 = (k : Int)) (had : ad 0 = b)
    (kn : lx_Kn p l e R s m args below meth c Q D tyc A sa b (r 1)) : W p l e R s m args below meth c H locs 0 0 Q (F0 m 40 ls st) := by
  have hE : ai_gE r (lx_El v 1) := hR.env
  obtain ⟨x4, hrd, hR4⟩ := gq_start (xs := xs) hE ⟨hi.1, h5⟩ hR
  generalize gq_r4 r xs = r4 at x4 hrd hR4
  have hE4 : ai_gE r4 gq_E := hR4.env
  have h40 : r4 0 = 0 := hE4.1
  have i1 := kw_i32 hE4 (t := 393) (by omega)
  have J4 : lx_J r4 := lx_J_keep hV.2 (fun t ht => x4 t (by
    have w : lx_Jt.all (fun t => Nat.blt t 393) = true := by decide +kernel
    exact Nat.le_of_ble_eq_true (List.all_eq_true.mp w t ht)))
  have bR : (-1 : Int) ≤ r4 112 ∧ r4 112 ≤ 13 := (hE4.2.2.2.1 _ ka_bdr.1).2
  have bL : (0 : Int) ≤ r4 69 ∧ r4 69 ≤ 13 := (hE4.2.2.2.1 _ ka_bdr.2).2
  obtain ⟨jl1, jl2⟩ := lx_Jle J4 h40
  by_cases s0 : r4 393 ≤ -1
  · exact gq_fail F hl hRf hRl hsa hV hvk hk4 hE x4 hR4 hi h110 had kn ka_Pfok hrd (by decide +kernel) ka_f28_a0 ⟨pt_m0, pt_m1 ⟨i1.1, s0⟩, pt_m0⟩
  have s0 : 0 ≤ r4 393 := by omega
  by_cases s1 : r4 112 ≤ -1
  · have l0 := jl2 s1
    exact gq_fail F hl hRf hRl hsa hV hvk hk4 hE x4 hR4 hi h110 had kn ka_Pfok hrd (by decide +kernel) ka_f28_a1 ⟨pt_m0, pt_m3 ⟨by show (0 : Int) ≤ r4 69; omega, by show r4 69 ≤ (0 : Int); omega⟩ ⟨by show (-1 : Int) ≤ r4 112; omega, s1⟩ ⟨s0, i1.2⟩, pt_m0⟩
  have el := jl1 (by omega)
  by_cases s2 : r4 112 ≤ r4 393
  · exact gq_fail F hl hRf hRl hsa hV hvk hk4 hE x4 hR4 hi h110 had kn ka_Pfok hrd (by decide +kernel) ka_f28_a2 ⟨pt_m0, pt_m2 ⟨by show (0 : Int) ≤ r4 112; omega, bR.2⟩ ⟨s0, i1.2⟩, pt_m2 (by show r4 112 + 0 ≤ r4 393 + 0; omega) (by show r4 69 + 0 ≤ r4 393 + 0; omega)⟩
  obtain ⟨i, hiq⟩ : ∃ i : Nat, r4 393 = (i : Int) := ⟨(r4 393).toNat, by omega⟩
  have i13 : i < 13 := by omega
  have m1 : kv_p1 69 = true := by decide +kernel
  have m2 : kv_p2 112 = true := by decide +kernel
  refine gq_two (p1 := kv_p1) (p2 := kv_p2) (X1 := kv_X1) (X2 := kv_X2) (AL1 := kv_A1) (AL2 := kv_A2) (P0 := ka_P0) (P1 := kv_p1) (P2 := kv_p2) (x1 := (0, 0)) (x2 := (403, 0)) (b1 := (1, 6)) (b2 := (0, 0)) (XF := [(403, 335, 0, 401)]) (XG1 := kv_R1) (XG2 := kv_R2) (hF := ka_hF) (sp3 := [(72, 0)]) (C := []) (Pf := ka_Pf) F hl hRf hRl hsa hV hvk hk4 hE x4 hrd hR4 hi h110 had qasys (qa_g2M (n := 4) (i := i) (by omega)) ⟨by show 6 + 0 + 8 + 1 ≤ 111; omega, by show 64 * (6 + 0) + 400 + 64 ≤ 8000; omega⟩ kv_hp1 qbsys (qb_gM (n := 4) (i := i) (by omega)) ⟨by show 5 + 0 + 8 + 1 ≤ 111; omega, by show 64 * (5 + 0) + 400 + 64 ≤ 8000; omega⟩ kv_hp2 qa_g_l.1.2.2.1 qa_g_l.1.2.2.2 rfl rfl rfl ka_hB ka_Pfok kv_c1 ka_c2 ka_cv (gq_row_of ka_row) (fun cc hct => ?_) (fun cc hct r2 M2 v1 po1 hE2 hv1 => ?_) kn
  · have g := gq_ik_A (r := r4) (c := cc) kv_ik1
    have a1 := ((g (403, (393, 0)) List.mem_cons_self).2.trans (Int.add_zero _))
    exact ⟨a1.trans hiq, i13, by rw [a1.trans hiq, gq_rn_p m1]; omega⟩
  obtain ⟨R1, hR1⟩ : ∃ R1, R1 = gq_rn r4 cc kv_p1 kv_X1 kv_A1 qaY.1 := ⟨_, rfl⟩
  rw [← hR1] at po1
  have R1p : ∀ t, kv_p1 t = true → R1 t = r4 t := fun t ht => by
    rw [hR1]
    exact gq_rn_p ht
  obtain ⟨hv, an, eM, keep⟩ := po1
  obtain ⟨R2, hR2⟩ : ∃ R2, R2 = gq_rn (pt_set r4 402 0) cc kv_p2 kv_X2 kv_A2 qbY.1 := ⟨_, rfl⟩
  have R2p : ∀ t, kv_p2 t = true → R2 t = r4 t := fun t ht => by
    rw [hR2]
    exact (gq_rn_p ht).trans (if_neg (by have := (kv_n2 ht).1; omega))
  refine ⟨0, ?_, by decide, ?_, fun r3 M3 v2 po2 hE3 hv2 => ?_⟩
  · rw [hv]
    refine congrArg some ?_
    show (0 : Int) = pt_set r4 402 0 0 + 0
    rw [show pt_set r4 402 0 0 = r4 0 from if_neg (by omega), h40]
    rfl
  · have g := gq_ik_A (r := pt_set r4 402 0) (c := cc) kv_ik2
    have b1 := ((g (402, (393, 0)) List.mem_cons_self).2.trans ((Int.add_zero _).trans (if_neg (show ¬ 393 = 402 by omega))))
    rw [← hR2] at b1 ⊢
    exact ⟨b1.trans hiq, i13, by rw [b1.trans hiq, R2p _ m2]; omega⟩
  rw [← hR2] at po2
  obtain ⟨hv3, eM3, cd3, keep3⟩ := po2
  have an2 : v2 = some (r2 401) := by rw [hv3, an, kv_t1 h40 hct i13, kv_t2 h40 hct i13]
  obtain ⟨rF, hrF⟩ : ∃ rF : Nat → Int, rF = fun t => if t = 402 then 0 else if t = 403 then r2 401 else if t = 72 then 0 else r4 t := ⟨_, rfl⟩
  have fv : ∀ t, rF t = if t = 402 then 0 else if t = 403 then r2 401 else if t = 72 then 0 else r4 t := fun t => by rw [hrF]
  have f0 : ∀ t, t < 402 → t ≠ 72 → rF t = r4 t := fun t a1 a2 => by rw [fv, if_neg (by omega), if_neg (by omega), if_neg a2]
  have fcd : rF 72 = 0 := by rw [fv, if_neg (by omega), if_neg (by omega), if_pos rfl]
  have f1 : rF 402 = 0 := by rw [fv, if_pos rfl]
  have f2 : rF 403 = r2 401 := by rw [fv, if_neg (by omega), if_pos rfl]
  refine ⟨rF, fun t ht => ?_, fun t ht => ?_, fun t ht => f0 t (ka_P0_ok ht).1 (ka_P0_ok ht).2.1, f1, ?_, pt_m1 f2, fun z hz => ?_, fun z hz => ?_, by rw [f2]; exact hv2 _ an2, pt_m1 fcd, ?_, fun g hg e => ?_⟩
  · obtain ⟨a1, ⟨a2, a3⟩, a4⟩ := kv_n1 ht
    rw [f0 t (by omega) a2, keep t (by omega) (by omega), R1p t ht]
  · obtain ⟨a1, a2, a4⟩ := kv_n2 ht
    by_cases a : t = 72
    · rw [a, fcd, cd3]
    · rw [f0 t (by omega) a, keep3 t (by omega) a, R2p t ht]
  · rw [an2]
    refine congrArg some ?_
    show r2 401 = rF 403 + 0
    rw [Int.add_zero, f2]
  · obtain ⟨z1, hz1, rfl⟩ := List.mem_map.mp hz
    have hz1 := List.mem_range.mp hz1
    show rF (379 + z1) = M2 199 z1
    rw [f0 _ (by omega) (by omega), eM, kv_t1 h40 hct hz1]
  · obtain ⟨z1, hz1, rfl⟩ := List.mem_map.mp hz
    have hz1 := List.mem_range.mp hz1
    show rF (379 + z1) = M3 330 z1
    rw [f0 _ (by omega) (by omega), eM3, kv_t2 h40 hct hz1]
  · refine lx_J_keep J4 (fun t ht => ?_)
    have w : lx_Jt.all (fun t => Nat.blt t 402 && !(Nat.beq t 72)) = true := by decide +kernel
    have g := List.all_eq_true.mp w t ht
    rw [Bool.and_eq_true, Bool.not_eq_true'] at g
    exact f0 t (Nat.le_of_ble_eq_true g.1) (Nat.ne_of_beq_eq_false g.2)
  · intro j hj
    have w : qbY.2.2.1.all (fun g => !(Nat.beq g.1 329) || Nat.ble g.2.1 4096) = true := by decide +kernel
    have w := List.all_eq_true.mp w g hg
    rw [Bool.or_eq_true, Bool.not_eq_true'] at w
    rcases w with w | w
    · exact absurd e (Nat.ne_of_beq_eq_false w)
    · have := Nat.le_of_ble_eq_true w
      rw [eM3]
      have q : ai_ov r4 (-1) 12 [] j (cc 329 j) := hct 329 0 4096 (-1) 12 [] (by omega) (by omega) ka_c9 j (by omega)
      exact q
end LAC
