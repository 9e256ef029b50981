/-! way by its contracts -/
section LWY
variable {p : Program} {l : Launch} {e : Env} {R : Room} {s : State} {m : MethodId} {args : Array Value} {below : List Frame} {meth : Method} {c : Code} {Q : State → Prop}
variable {D : va_G} {tyc : Nat → ClassId} {A : Nat → Prop} {sa : ai_B} {ws : va_W} {b Ln z0 v k : Nat} {xs : Nat → Int32}
variable {r : Nat → Int} {ad : Nat → Nat} {H : Heap} {locs : List Loc} {ls : Array Slot} {st : List Value}
set_option maxHeartbeats 8000000 in
theorem lx_wayP (F : lx_Fr p R s m args meth c D tyc A sa) (hl : l.stackTraces = false) (hRf : 111 ≤ R.frames) (hRl : 8000 ≤ R.locals) (hsa : (z0, b, Ln, xs) ∈ sa.2) (hV : lx_V tyc ws r) (hvk : v ≤ k) (hk4 : k ≤ 4) (hR : ai_Rel D tyc A s sa ws 7 r ad lx_L [.inl (0, .ofNat 27)] (lx_G v 1) H locs ls st) (hi : 0 ≤ r 1 ∧ r 1 + 10 ≤ (Ln : Int)) (h5 : r 1 ≤ 5110) (h110 : r 75 = (k : Int)) (had : ad 0 = b)
    (kn : lx_Kn p l e R s m args below meth c Q D tyc A sa b (r 1)) : W p l e R s m args below meth c H locs 0 0 Q (F0 m 40 ls st) := by
  have hE : ai_gE r (lx_El v 1) := hR.env
  obtain ⟨x4, hrd, hR4⟩ := gq_start (xs := xs) hE ⟨hi.1, h5⟩ hR
  generalize gq_r4 r xs = r4 at x4 hrd hR4
  have hE4 : ai_gE r4 gq_E := hR4.env
  have h40 : r4 0 = 0 := hE4.1
  have i1 := kw_i32 hE4 (t := 393) (by omega)
  have J4 : lx_J r4 := lx_J_keep hV.2 (fun t ht => x4 t (by
    have w : lx_Jt.all (fun t => Nat.blt t 393) = true := by decide +kernel
    exact Nat.le_of_ble_eq_true (List.all_eq_true.mp w t ht)))
  by_cases s0 : r4 393 ≤ -1
  · exact gq_fail F hl hRf hRl hsa hV hvk hk4 hE x4 hR4 hi h110 had kn kv_Pfok hrd (by decide +kernel) kv_f27_s0 ⟨pt_m0, pt_m1 ⟨i1.1, s0⟩, pt_m0⟩
  have s0 : 0 ≤ r4 393 := by omega
  by_cases s1 : 4 ≤ r4 393
  · exact gq_fail F hl hRf hRl hsa hV hvk hk4 hE x4 hR4 hi h110 had kn kv_Pfok hrd (by decide +kernel) kv_f27_s1 ⟨pt_m0, pt_m1 ⟨s1, i1.2⟩, pt_m0⟩
  obtain ⟨q, hq⟩ : ∃ q : Nat, r4 393 = (q : Int) := ⟨(r4 393).toNat, by omega⟩
  obtain ⟨N, Fd, σ, α, hH⟩ := kv_H hE4 J4 (q := q) (by omega)
  refine gq_two (p1 := kv_p1) (p2 := kv_p2) (X1 := kv_X1) (X2 := kv_X2) (AL1 := kv_A1) (AL2 := kv_A2) (P0 := kv_P0) (P1 := kv_p1) (P2 := kv_p2) (x1 := (0, 0)) (x2 := (403, 0)) (b1 := (1, 6)) (b2 := (0, 0)) (XF := []) (XG1 := kv_R1) (XG2 := kv_R2) (hF := kv_hF) (sp3 := []) (C := []) (Pf := kv_Pf) F hl hRf hRl hsa hV hvk hk4 hE x4 hrd hR4 hi h110 had qasys (qa_hM (m := 4) (q := q) (N := N) (F := Fd) (σ := σ) (α := α) (by omega)) ⟨by show 11 + 0 + 8 + 1 ≤ 111; omega, by show 64 * (11 + 0) + 400 + 64 ≤ 8000; omega⟩ kv_hp1 qbsys (qb_wM (m := 4) (q := q) (N := N) (F := Fd) (σ := σ) (α := α) (by omega)) ⟨by show 7 + 0 + 8 + 1 ≤ 111; omega, by show 64 * (7 + 0) + 400 + 64 ≤ 8000; omega⟩ kv_hp2 kv_bud.1 kv_bud.2 rfl rfl rfl kv_hB kv_Pfok kv_c1 kv_c2 kv_cv (gq_row_of kv_row) (fun cc hct => ?_) (fun cc hct r2 M2 v1 po1 hE2 hv1 => ?_) kn
  · have g := gq_ik_A (r := r4) (c := cc) kv_ik1
    refine ⟨((g (403, (393, 0)) List.mem_cons_self).2.trans (Int.add_zero _)).trans hq, wq_H_c (fun t ht => gq_rn_p (kv_nm ht).1) hH⟩
  obtain ⟨R1, hR1⟩ : ∃ R1, R1 = gq_rn r4 cc kv_p1 kv_X1 kv_A1 qaY.1 := ⟨_, rfl⟩
  rw [← hR1] at po1
  have R1p : ∀ t, kv_p1 t = true → R1 t = r4 t := fun t ht => by
    rw [hR1]
    exact gq_rn_p ht
  have m1 : kv_p1 69 = true ∧ kv_p1 0 = true := by decide +kernel
  have m2 : kv_p2 112 = true ∧ kv_p2 0 = true := by decide +kernel
  obtain ⟨hv, keep, keepM, ans⟩ := po1
  obtain ⟨R2, hR2⟩ : ∃ R2, R2 = gq_rn (pt_set r4 402 0) cc kv_p2 kv_X2 kv_A2 qbY.1 := ⟨_, rfl⟩
  have R2p : ∀ t, kv_p2 t = true → R2 t = r4 t := fun t ht => by
    rw [hR2]
    exact (gq_rn_p ht).trans (if_neg (by have := (kv_n2 ht).1; omega))
  refine ⟨0, ?_, by decide, ?_, fun r3 M3 v2 po2 hE3 hv2 => ?_⟩
  · rw [hv]
    refine congrArg some ?_
    show (0 : Int) = pt_set r4 402 0 0 + 0
    rw [show pt_set r4 402 0 0 = r4 0 from if_neg (by omega), h40]
    rfl
  · have g := gq_ik_A (r := pt_set r4 402 0) (c := cc) kv_ik2
    refine ⟨((g (402, (393, 0)) List.mem_cons_self).2.trans ((Int.add_zero _).trans (if_neg (show ¬ 393 = 402 by omega)))).trans hq, ?_⟩
    rw [← hR2]
    exact wq_H_c (fun t ht => R2p t (kv_nm ht).2) hH
  rw [← hR2] at po2
  obtain ⟨⟨keep3, cd3⟩, ⟨keepM3, b329⟩, ans3⟩ := po2
  -- the row, its length, the answer
  have res : v2 = some (r2 401) ∧ ((r2 69 = r4 69 ∧ r3 112 = r4 112) ∨ (r2 69 = r3 112 ∧ 0 ≤ r3 112)) ∧ ∀ z, z < 13 → M2 199 z = M3 330 z := by
    have le1 := R1p _ m1.1
    have rm2 := R2p _ m2.1
    rcases ans with ⟨f1, f2, f3, f4⟩ | ⟨f1, f2, f3, f4⟩ <;> rcases ans3 with ⟨g1, g2, g3, g4⟩ | ⟨g1, g2, g3, g4⟩
    · refine ⟨by rw [g2, f2], Or.inl ⟨f3.trans le1, g3.trans rm2⟩, fun z hz => ?_⟩
      rw [f4, g4, kv_t1 h40 hct hz, kv_t2 h40 hct hz]
    · omega
    · omega
    · refine ⟨by rw [g2, f2], Or.inr ⟨f3.trans g3.symm, by omega⟩, fun z hz => ?_⟩
      rw [f4, g4]
      show (if z < N then (α z : Int) else cc 199 z) = if z < N then (α z : Int) else cc 330 z
      rw [kv_t1 h40 hct hz, kv_t2 h40 hct hz]
  obtain ⟨an, lerm, rows⟩ := res
  obtain ⟨rF, hrF⟩ : ∃ rF : Nat → Int, rF = fun t => if t = 402 then 0 else if t = 403 then r2 401 else if t = 72 then 0 else if t = 112 then r3 t else if t = 69 ∨ t = 70 ∨ t = 71 then r2 t else if 379 ≤ t ∧ t < 379 + 13 then M2 199 (t - 379) else r4 t := ⟨_, rfl⟩
  have fv : ∀ t, rF t = if t = 402 then 0 else if t = 403 then r2 401 else if t = 72 then 0 else if t = 112 then r3 t else if t = 69 ∨ t = 70 ∨ t = 71 then r2 t else if 379 ≤ t ∧ t < 379 + 13 then M2 199 (t - 379) else r4 t := fun t => by rw [hrF]
  have f0 : ∀ t, t < 402 → t ≠ 72 → t ≠ 112 → ¬ (t = 69 ∨ t = 70 ∨ t = 71) → ¬ (379 ≤ t ∧ t < 379 + 13) → rF t = r4 t := fun t a1 a2 a3 a4 a5 => by
    rw [fv, if_neg (by omega), if_neg (by omega), if_neg a2, if_neg a3, if_neg a4, if_neg a5]
  have fl : ∀ t, (t = 69 ∨ t = 70 ∨ t = 71) → rF t = r2 t := fun t a => by
    rw [fv, if_neg (by omega), if_neg (by omega), if_neg (by omega), if_neg (by omega), if_pos a]
  have frm : rF 112 = r3 112 := by
    rw [fv, if_neg (by omega), if_neg (by omega), if_neg (by omega), if_pos rfl]
  have fcd : rF 72 = 0 := by
    rw [fv, if_neg (by omega), if_neg (by omega), if_pos rfl]
  have f1 : rF 402 = 0 := by
    rw [fv, if_pos rfl]
  have f2 : rF 403 = r2 401 := by
    rw [fv, if_neg (by omega), if_pos rfl]
  have fr : ∀ z : Nat, z < 13 → rF (379 + z) = M2 199 z := fun z hz => by
    rw [fv, if_neg (by omega), if_neg (by omega), if_neg (by omega), if_neg (by omega), if_neg (by omega), if_pos ⟨by omega, by omega⟩, show 379 + z - 379 = z by omega]
  refine ⟨rF, fun t ht => ?_, fun t ht => ?_, fun t ht => ?_, f1, ?_, pt_m0, fun z hz => ?_, fun z hz => ?_, by rw [f2]; exact hv2 _ an, pt_m0, ?_, fun g hg e => ?_⟩
  · obtain ⟨a1, ⟨a2, a3⟩, a4⟩ := kv_n1 ht
    by_cases a : t = 69 ∨ t = 70 ∨ t = 71
    · exact fl t a
    · rw [f0 t (by omega) a2 a3 a a4, keep t (by omega) (by omega) (by omega) (by omega) (by omega), R1p t ht]
  · obtain ⟨a1, a2, a4⟩ := kv_n2 ht
    by_cases a : t = 72
    · rw [a, fcd, cd3]
    · by_cases a3 : t = 112
      · rw [a3, frm]
      · rw [f0 t (by omega) a a3 (by omega) a4, keep3 t (by omega) a a3, R2p t ht]
  · obtain ⟨a1, ⟨a2, a3, a4⟩, a5⟩ := kv_P0_ok ht
    exact f0 t a1 a3 a4 (by omega) a5
  · rw [an]
    refine congrArg some ?_
    show r2 401 = rF 403 + 0
    rw [Int.add_zero, f2]
  · obtain ⟨z1, hz1, rfl⟩ := List.mem_map.mp hz
    exact fr z1 (List.mem_range.mp hz1)
  · obtain ⟨z1, hz1, rfl⟩ := List.mem_map.mp hz
    have hz1 := List.mem_range.mp hz1
    exact (fr z1 hz1).trans (rows z1 hz1)
  · refine kv_J J4 h40 (fun t ht a b => ?_) ?_
    · have w : lx_Jt.all (fun t => (Nat.blt t 402 && !(Nat.beq t 72)) && (!(Nat.beq t 70 || Nat.beq t 71) && !(kv_rw t))) = true := by decide +kernel
      have g := List.all_eq_true.mp w t ht
      simp only [Bool.and_eq_true, Bool.not_eq_true', Bool.or_eq_false_iff] at g
      obtain ⟨⟨w1, w2⟩, ⟨w3, w4⟩, w5⟩ := g
      have w3 := Nat.ne_of_beq_eq_false w3
      have w4 := Nat.ne_of_beq_eq_false w4
      exact f0 t (Nat.le_of_ble_eq_true w1) (Nat.ne_of_beq_eq_false w2) b (by omega) (kv_rwF w5)
    · rw [fl 69 (Or.inl rfl), frm]
      exact lerm
  · intro j hj
    have w : qbY.2.2.1.all (fun g => !(Nat.beq g.1 329) || Nat.ble g.2.1 4096) = true := by decide +kernel
    have w := List.all_eq_true.mp w g hg
    rw [Bool.or_eq_true, Bool.not_eq_true'] at w
    rcases w with w | w
    · exact absurd e (Nat.ne_of_beq_eq_false w)
    · have := Nat.le_of_ble_eq_true w
      exact b329 j (by omega)
end LWY
