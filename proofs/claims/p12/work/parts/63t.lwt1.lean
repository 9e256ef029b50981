/-! KIND feed -/
theorem kt_72 : gq_ck2 gcY gbY kt_P7 kt_p1 kt_p2 [] [] [] lx_h = true := by decide +kernel
theorem kt_7v : gq_cv kt_P7 = true := by decide +kernel
theorem kt_7row : gq_row 7 657 140 false gcY [wa_i 396, wa_i 395, wa_i 394, wa_i 393, wa_i 392, wa_r 16] fe_L kt_A1 (391, 0) (0, 0) 692 184 false gbY [wa_i 396, wa_i 395, wa_i 394, wa_i 393, wa_i 392, wa_r 264] fb_a kt_A2 (0, 0) (392, 0) [] lx_h [] kt_Pf = true := by decide +kernel
theorem kt_bud : (ct_bud 140 = (0, 0) ∧ ct_bud 184 = (0, 0)) ∧ ct_bud 263 = (1, 6) ∧ ct_bud 203 = (0, 0) := by decide +kernel
section KTF
variable {p : Program} {l : Launch} {e : Env} {R : Room} {s : State} {m : MethodId} {args : Array Value} {below : List Frame} {meth : Method} {c : Code} {Q : State → Prop}
variable {D : va_G} {tyc : Nat → ClassId} {A : Nat → Prop} {sa : ai_B} {ws : va_W} {b Ln z0 v k : Nat} {xs : Nat → Int32}
variable {r : Nat → Int} {ad : Nat → Nat} {H : Heap} {locs : List Loc} {ls : Array Slot} {st : List Value}
set_option maxHeartbeats 8000000 in
theorem lx_feedT (F : lx_Fr p R s m args meth c D tyc A sa) (hl : l.stackTraces = false) (hRf : 111 ≤ R.frames) (hRl : 8000 ≤ R.locals) (hsa : (z0, b, Ln, xs) ∈ sa.2) (hV : lx_V tyc ws r) (hvk : v ≤ k) (hk4 : k ≤ 4) (hR : ai_Rel D tyc A s sa ws 7 r ad lx_L [.inl (0, .ofNat 7)] (lx_G v 1) H locs ls st) (hi : 0 ≤ r 1 ∧ r 1 + 10 ≤ (Ln : Int)) (h5 : r 1 ≤ 5110) (h110 : r 73 = (k : Int)) (had : ad 0 = b)
    (kn : lx_Kn p l e R s m args below meth c Q D tyc A sa b (r 1)) : W p l e R s m args below meth c H locs 0 0 Q (F0 m 40 ls st) := by
  have hE : ai_gE r (lx_El v 1) := hR.env
  obtain ⟨x4, hrd, hR4⟩ := gq_start (xs := xs) hE ⟨hi.1, h5⟩ hR
  generalize gq_r4 r xs = r4 at x4 hrd hR4
  have hE4 : ai_gE r4 gq_E := hR4.env
  have h40 : r4 0 = 0 := hE4.1
  have J4 : lx_J r4 := lx_J_keep hV.2 (fun t ht => x4 t (by
    have w : lx_Jt.all (fun t => Nat.blt t 382) = true := by decide +kernel
    exact Nat.le_of_ble_eq_true (List.all_eq_true.mp w t ht)))
  have bB : (0 : Int) ≤ r4 75 ∧ r4 75 ≤ 200 := (hE4.2.2.2.1 _ kt_bd.1).2
  refine gq_two (p1 := kt_p1) (p2 := kt_p2) (X1 := kt_X1) (X2 := kt_X2) (AL1 := kt_A1) (AL2 := kt_A2) (P0 := kt_P7) (P1 := kt_p1) (P2 := kt_p2) (x1 := (391, 0)) (x2 := (392, 0)) (b1 := (0, 0)) (b2 := (0, 0)) (XF := []) (XG1 := []) (XG2 := []) (hF := lx_h) (sp3 := []) (C := []) (Pf := kt_Pf) F hl hRf hRl hsa hV hvk hk4 hE x4 hrd hR4 hi h110 had gcsys (fe_M (n := 4) (by omega)) ⟨by show 7 + 0 + 8 + 1 ≤ 111; omega, by show 64 * (7 + 0) + 400 + 64 ≤ 8000; omega⟩ kt_hp1 gbsys (fb_M (n := 4) (by omega)) ⟨by show 5 + 0 + 8 + 1 ≤ 111; omega, by show 64 * (5 + 0) + 400 + 64 ≤ 8000; omega⟩ kt_hp2 kt_bud.1.1 kt_bud.1.2 rfl rfl rfl kt_hB7 kt_Pfok kt_c1 kt_72 kt_7v (gq_row_of kt_7row) (fun cc _ _ _ => trivial) (fun cc hct hI hK r2 M2 v1 po1 hE2 hv1 => ?_) kn
  obtain ⟨rn, hrn⟩ : ∃ rn, rn = gq_rn r4 cc kt_p1 kt_X1 kt_A1 gcY.1 := ⟨_, rfl⟩
  rw [← hrn] at po1
  have n1 : ∀ t, kt_p1 t = true → rn t = r4 t := fun t ht => by
    rw [hrn]
    exact kt_r1 ht
  have nA : ∀ j, j < 5 → rn (392 + j) = r4 (382 + j) := fun j hj => by
    rw [hrn]
    exact kt_a1 j hj
  obtain ⟨q1, q2, q3, q4⟩ := po1
  have nB : rn 75 = r4 75 := n1 _ kt_pm.2.2.1.1
  obtain ⟨w1, ew1⟩ : ∃ w, v1 = some w := by
    by_cases c : rn 75 ≤ 180
    · exact ⟨_, (q1 c).1⟩
    · exact ⟨_, (q2 (by omega)).1⟩
  have k2 : ∀ t, kt_p1 t = true → t ≠ 75 → r2 t = r4 t := fun t ht hb => (q3 t (by have := kt_bt_lt ht; omega) hb).trans (n1 t ht)
  refine ⟨kt_pw1 hI.1, w1, ?_, hv1 _ ew1, trivial, fun r3 M3 v2 po2 hE3 hv2 => ?_⟩
  · rw [ew1]
    refine congrArg some ?_
    show w1 = pt_set r4 391 w1 391 + 0
    rw [Int.add_zero]
    exact (if_pos rfl).symm
  obtain ⟨rm, hrm⟩ : ∃ rm, rm = gq_rn (pt_set r4 391 w1) cc kt_p2 kt_X2 kt_A2 gbY.1 := ⟨_, rfl⟩
  rw [← hrm] at po2
  have m1 : ∀ t, kt_p2 t = true → rm t = r4 t := fun t ht => by
    rw [hrm]
    exact kt_r2 ht
  have mA : ∀ j, j < 5 → rm (392 + j) = r4 (382 + j) := fun j hj => by
    rw [hrm]
    exact kt_a2 j hj
  obtain ⟨u1, u2, u3, u4⟩ := po2
  have mB : rm 75 = r4 75 := m1 _ kt_pm.2.2.1.2
  have k3 : ∀ t, kt_p2 t = true → t ≠ 75 → t ≠ 70 → r3 t = r4 t := fun t ht ha hb => (u4 t (by have := kt_bt_lt ht; omega) ha hb).trans (m1 t ht)
  have z3 : ∀ z, z ≠ 285 → M3 z = cc z := fun z hz => by
    by_cases c : rm 75 ≤ 180
    · rw [(u1 c).2.2]
      funext x
      exact if_neg (fun w => hz w.1)
    · rw [(u2 (by omega)).2.2]
  obtain ⟨w2, ew2⟩ : ∃ w, v2 = some w := by
    by_cases c : rm 75 ≤ 180
    · exact ⟨_, (u1 c).1⟩
    · exact ⟨_, (u2 (by omega)).1⟩
  have z2 : ∀ z, z ≠ 86 → M2 z = cc z := q4
  have eB : r2 75 = r3 75 := by
    by_cases c : r4 75 ≤ 180
    · have a := (q1 (by omega)).2.1
      have b := (u1 (by omega)).2.1
      have b : r3 75 = rm 75 + 20 := b
      omega
    · have a := (q2 (by omega)).2.1
      have b := (u2 (by omega)).2.1
      have b : r3 75 = rm 75 := b
      omega
  have hT : ∀ j, j < 200 → M2 86 j = M3 285 j ∧ 0 ≤ M2 86 j ∧ M2 86 j ≤ 255 := fun j hj => by
    obtain ⟨i1, i2, i3⟩ := hI.2 j hj
    by_cases c : r4 75 ≤ 180
    · rw [(q1 (by omega)).2.2, (u1 (by omega)).2.2, nB, mB]
      show (if 86 = 86 ∧ _ ∧ _ then fd_b (rn (392 + (j - (r4 75).toNat) / 4)) ((j - (r4 75).toNat) % 4) else cc 86 j) = (if 285 = 285 ∧ _ ∧ _ then fd_b (rm (392 + (j - (r4 75).toNat) / 4)) ((j - (r4 75).toNat) % 4) else cc 285 j) ∧ 0 ≤ (if 86 = 86 ∧ _ ∧ _ then fd_b (rn (392 + (j - (r4 75).toNat) / 4)) ((j - (r4 75).toNat) % 4) else cc 86 j) ∧ (if 86 = 86 ∧ _ ∧ _ then fd_b (rn (392 + (j - (r4 75).toNat) / 4)) ((j - (r4 75).toNat) % 4) else cc 86 j) ≤ 255
      by_cases d : (r4 75).toNat ≤ j ∧ j < (r4 75).toNat + 20
      · rw [if_pos ⟨rfl, d⟩, if_pos ⟨rfl, d⟩, nA _ (by omega), mA _ (by omega)]
        exact ⟨rfl, fd_r _ _⟩
      · rw [if_neg (fun w => d w.2), if_neg (fun w => d w.2)]
        exact ⟨i1, i2, i3⟩
    · rw [(q2 (by omega)).2.2, (u2 (by omega)).2.2]
      exact ⟨i1, i2, i3⟩
  obtain ⟨rF, hrF⟩ : ∃ rF : Nat → Int, rF = fun t => if t = 391 then w1 else if t = 392 then w2 else if t = 70 then 0 else if t = 75 then r2 75 else r4 t := ⟨_, rfl⟩
  have fv : ∀ t, rF t = if t = 391 then w1 else if t = 392 then w2 else if t = 70 then 0 else if t = 75 then r2 75 else r4 t := fun t => by rw [hrF]
  have f0 : ∀ t, t < 391 → t ≠ 70 → t ≠ 75 → rF t = r4 t := fun t a1 a2 a3 => by rw [fv, if_neg (by omega), if_neg (by omega), if_neg a2, if_neg a3]
  have fB : rF 75 = r2 75 := by rw [fv, if_neg (by omega), if_neg (by omega), if_neg (by omega), if_pos rfl]
  have f1 : rF 391 = w1 := by rw [fv, if_pos rfl]
  have f2 : rF 392 = w2 := by rw [fv, if_neg (by omega), if_pos rfl]
  have fC : rF 70 = 0 := by rw [fv, if_neg (by omega), if_neg (by omega), if_pos rfl]
  refine ⟨rF, fun t ht => ?_, fun t ht => ?_, fun t ht => f0 t (kt_P7_ok ht).1 (kt_P7_ok ht).2.2 (kt_P7_ok ht).2.1, f1, ?_, pt_m0, pt_m0, pt_m0, by rw [f2]; exact hv2 _ ew2, pt_m0, ⟨kt_pw3 (gz_pw_c hI.1 (fun z x w => by rw [z3 z (by omega)])), fun j hj => ?_⟩, gw_K_k (gw_K_c2 hK (fun z _ _ h86 h285 => kt_oo z2 z3 h86 h285)) (fun t ht => f0 t (kt_Kn t ht).1 (kt_Kn t ht).2.1 (kt_Kn t ht).2.2), lx_J_keep J4 (fun t ht => f0 t (kt_Jn t ht).1 (kt_Jn t ht).2.1 (kt_Jn t ht).2.2)⟩
  · by_cases e : t = 75
    · rw [e, fB]
    · have : t ≠ 70 := fun q => by
        rw [q, kt_pm.2.2.2.2.2] at ht
        cases ht
      rw [f0 t (by have := kt_bt_lt ht; omega) this e, k2 t ht e]
  · by_cases e : t = 75
    · rw [e, fB, eB]
    · by_cases e2 : t = 70
      · rw [e2, fC]
        exact u3.symm
      · rw [f0 t (by have := kt_bt_lt ht; omega) e2 e, k3 t ht e e2]
  · rw [ew2]
    refine congrArg some ?_
    show w2 = rF 392 + 0
    rw [Int.add_zero, f2]
  · rw [kt_o86, kt_o3 (by omega)]
    exact hT j hj
end KTF
