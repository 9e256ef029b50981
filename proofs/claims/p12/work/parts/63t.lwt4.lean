/-! KIND asked -/
section KQG
variable {p : Program} {l : Launch} {e : Env} {R : Room} {s : State} {m : MethodId} {args : Array Value} {below : List Frame} {meth : Method} {c : Code} {Q : State → Prop}
variable {D : va_G} {tyc : Nat → ClassId} {A : Nat → Prop} {sa : ai_B} {ws : va_W} {b Ln z0 v k : Nat} {xs : Nat → Int32}
variable {r : Nat → Int} {ad : Nat → Nat} {H : Heap} {locs : List Loc} {ls : Array Slot} {st : List Value}
set_option maxHeartbeats 8000000 in
theorem lx_asked (F : lx_Fr p R s m args meth c D tyc A sa) (hl : l.stackTraces = false) (hRf : 111 ≤ R.frames) (hRl : 8000 ≤ R.locals) (hsa : (z0, b, Ln, xs) ∈ sa.2) (hV : lx_V tyc ws r) (hvk : v ≤ k) (hk4 : k ≤ 4) (hR : ai_Rel D tyc A s sa ws 7 r ad lx_L [.inl (0, .ofNat 10)] (lx_G v 1) H locs ls st) (hi : 0 ≤ r 1 ∧ r 1 + 10 ≤ (Ln : Int)) (h5 : r 1 ≤ 5110) (h110 : r 73 = (k : Int)) (had : ad 0 = b)
    (kn : lx_Kn p l e R s m args below meth c Q D tyc A sa b (r 1)) : W p l e R s m args below meth c H locs 0 0 Q (F0 m 40 ls st) := by
  have hE : ai_gE r (lx_El v 1) := hR.env
  obtain ⟨x4, hrd, hR4⟩ := gq_start (xs := xs) hE ⟨hi.1, h5⟩ hR
  generalize gq_r4 r xs = r4 at x4 hrd hR4
  have hE4 : ai_gE r4 gq_E := hR4.env
  have h40 : r4 0 = 0 := hE4.1
  have J4 : lx_J r4 := lx_J_keep hV.2 (fun t ht => x4 t (by
    have w : lx_Jt.all (fun t => Nat.blt t 382) = true := by decide +kernel
    exact Nat.le_of_ble_eq_true (List.all_eq_true.mp w t ht)))
  have bM : (0 : Int) ≤ r4 73 ∧ r4 73 ≤ 4 := (hE4.2.2.2.1 _ kt_bd.2).2
  have i1 := kt_i32 hE4 (t := 382) (by omega)
  have i2 := kt_i32 hE4 (t := 383) (by omega)
  have i3 := kt_i32 hE4 (t := 384) (by omega)
  have fail : ∀ {cp : List (Nat × Int × Int)} {le : List (ai_X × ai_X)}, (gq_rd.all (fun q => Nat.blt q.2.1 393) && (cp.all (fun q => Nat.blt q.1 393) && le.all (fun q => Nat.blt q.1.1 393 && Nat.blt q.2.1 393))) = true → gq_frow 10 gq_rd cp le [] kt_Pf = true → pt_asm r4 [] cp le → W p l e R s m args below meth c H locs 0 0 Q (F0 m 40 ls st) := fun h2 h3 h4 => gq_fail F hl hRf hRl hsa hV hvk hk4 hE x4 hR4 hi h110 had kn kt_Pfok hrd h2 h3 h4
  by_cases a0 : r4 382 ≤ -1
  · exact fail (by decide +kernel) kq_f0 ⟨pt_m0, pt_m1 ⟨i1.1, a0⟩, pt_m0⟩
  have a0 : 0 ≤ r4 382 := by omega
  by_cases a1 : r4 73 ≤ r4 382
  · exact fail (by decide +kernel) kq_f1 ⟨pt_m0, pt_m1 ⟨a0, i1.2⟩, pt_m1 (by show r4 73 + 0 ≤ r4 382 + 0; omega)⟩
  obtain ⟨w, hw⟩ : ∃ w : Nat, r4 382 = (w : Int) := ⟨(r4 382).toNat, by omega⟩
  have w4 : w < 4 := by omega
  have hrdw : ∀ q ∈ kq_rd w, ai_vx r4 q.2 = (xs (r 1 + q.1).toNat).toInt := fun q hq => by
    rcases List.mem_cons.mp hq with rfl | hq
    · have g := hrd (1, (382, 0)) List.mem_cons_self
      rw [← g]
      show r4 0 + (w : Int) = r4 382 + 0
      omega
    · exact hrd q (List.mem_of_mem_tail hq)
  have lv := List.all_eq_true.mp kq_lv w (List.mem_range.mpr w4)
  have failw : ∀ {cp : List (Nat × Int × Int)} {le : List (ai_X × ai_X)}, gq_frow 10 (kq_rd w) cp le [] kt_Pf = true → (cp.all (fun q => Nat.blt q.1 393) && le.all (fun q => Nat.blt q.1.1 393 && Nat.blt q.2.1 393)) = true → pt_asm r4 [] cp le → W p l e R s m args below meth c H locs 0 0 Q (F0 m 40 ls st) := fun h3 h2 h4 => gq_fail F hl hRf hRl hsa hV hvk hk4 hE x4 hR4 hi h110 had kn kt_Pfok hrdw (by rw [Bool.and_eq_true]; exact ⟨lv, h2⟩) h3 h4
  have bw : ((w + 1 : Nat) : Int) ≤ r4 73 ∧ r4 73 ≤ 4 := by omega
  obtain ⟨y, hy, ey⟩ := List.any_eq_true.mp (List.all_eq_true.mp kq_bd w (List.mem_range.mpr w4))
  have ey := of_decide_eq_true ey
  subst ey
  have bo : (0 : Int) ≤ r4 (145 + w) ∧ r4 (145 + w) ≤ 7 := (hE4.2.2.2.1 _ hy).2
  have mo : 145 + w < 393 := by omega
  have fu := List.all_eq_true.mp kq_fu w (List.mem_range.mpr w4)
  rw [Bool.and_eq_true] at fu
  have fq := List.all_eq_true.mp kq_fq w (List.mem_range.mpr w4)
  rw [Bool.and_eq_true] at fq
  have lt : Nat.blt (145 + w) 393 = true := Nat.ble_eq_true_of_le mo
  have l1 : ∀ b : Bool, b = true → (true && ((b && true) && true)) = true := fun b hb => by
    rw [hb]
    rfl
  have l2 : ∀ b : Bool, b = true → (true && ((true && b) && true)) = true := fun b hb => by
    rw [hb]
    rfl
  by_cases u0 : r4 383 ≤ 0
  · exact failw fu.1 rfl ⟨pt_m0, pt_m2 bw ⟨i2.1, u0⟩, pt_m0⟩
  have u0 : 1 ≤ r4 383 := by omega
  by_cases u1 : r4 (145 + w) + 1 ≤ r4 383
  · exact failw fu.2 (l1 _ lt) ⟨pt_m0, pt_m2 bw ⟨u0, i2.2⟩, pt_m1 (by show r4 (145 + w) + 1 ≤ r4 383 + 0; omega)⟩
  have u7 : r4 383 ≤ 7 := by omega
  have q3 : ∀ {B : Int × Int}, (B.1 ≤ r4 384 ∧ r4 384 ≤ B.2) → ∀ q ∈ [(73, (((w + 1 : Nat) : Int), (4 : Int))), (383, ((1 : Int), (7 : Int))), (384, B)], q.2.1 ≤ r4 q.1 ∧ r4 q.1 ≤ q.2.2 := fun {B} hB q hq => by
    simp only [List.mem_cons, List.not_mem_nil, or_false] at hq
    rcases hq with rfl | rfl | rfl
    · exact bw
    · exact ⟨u0, u7⟩
    · exact hB
  by_cases d0 : r4 384 ≤ -1
  · exact failw fq.1 (l2 _ lt) ⟨pt_m0, q3 ⟨i3.1, d0⟩, pt_m1 (by show r4 383 + 0 ≤ r4 (145 + w) + 0; omega)⟩
  by_cases d1 : 4 ≤ r4 384
  · exact failw fq.2 (l2 _ lt) ⟨pt_m0, q3 ⟨d1, i3.2⟩, pt_m1 (by show r4 383 + 0 ≤ r4 (145 + w) + 0; omega)⟩
  obtain ⟨u, hu⟩ : ∃ u : Nat, r4 383 = (u : Int) := ⟨(r4 383).toNat, by omega⟩
  obtain ⟨q, hq⟩ : ∃ q : Nat, r4 384 = (q : Int) := ⟨(r4 384).toNat, by omega⟩
  have hu7 : 1 ≤ u ∧ u ≤ 7 := by omega
  have q4 : q < 4 := by omega
  obtain ⟨ko, hko⟩ : ∃ ko : Nat, r4 (145 + w) = (ko : Int) := ⟨(r4 (145 + w)).toNat, by omega⟩
  -- both sides know the same numbers
  have pv := List.all_eq_true.mp kq_pm.2.1 w (List.mem_range.mpr w4)
  simp only [Bool.and_eq_true] at pv
  obtain ⟨⟨⟨m1, m2⟩, o1, o2⟩, -⟩ := pv
  have pt : ∀ j, j < 4 → kq_p1 (169 + 4 * j + q) = true ∧ kq_p2 (169 + 4 * j + q) = true := fun j hj => by
    have g := List.all_eq_true.mp kq_pm.2.2 (4 * j + q) (List.mem_range.mpr (by omega))
    rw [Bool.and_eq_true, show 169 + (4 * j + q) = 169 + 4 * j + q by omega] at g
    exact g
  have eT : ∀ rr : Nat → Int, (∀ j, j < 4 → rr (169 + 4 * j + q) = r4 (169 + 4 * j + q)) → op_T rr q 0 = op_T r4 q 0 := fun rr h => by
    have e : ∀ j, j < 4 → op_l rr q 0 j = op_l r4 q 0 j := fun j hj => by
      have a : op_l rr q 0 j = rr (169 + 4 * j + q) := if_neg (by omega)
      have a2 : op_l r4 q 0 j = r4 (169 + 4 * j + q) := if_neg (by omega)
      rw [a, a2, h j hj]
    unfold op_T
    rw [e 0 (by omega), e 1 (by omega), e 2 (by omega), e 3 (by omega)]
  have eA : ∀ (rr : Nat → Int) (ll : List Int), (∀ j, j < 4 → rr (169 + 4 * j + q) = r4 (169 + 4 * j + q)) → rr (149 + w) = r4 (149 + w) → rr (145 + w) = r4 (145 + w) → am_A rr (q : Int) (op_T rr q 0) w ll = am_A r4 (q : Int) (op_T r4 q 0) w ll := fun rr ll h h2 h3 => by
    rw [eT rr h]
    unfold am_A
    funext z
    refine congrArg (fun V => av_ask V ll) ?_
    funext j
    unfold aV
    rw [h2, h3]
  refine gq_two (p1 := kq_p1) (p2 := kq_p2) (X1 := kq_X1) (X2 := kq_X2) (AL1 := kq_A1) (AL2 := kq_A2) (P0 := kq_P) (P1 := kq_p1) (P2 := kq_p2) (x1 := (0, 0)) (x2 := (392, 0)) (b1 := (1, 6)) (b2 := (0, 0)) (XF := [(392, 335, 0, 390)]) (XG1 := []) (XG2 := []) (hF := kt_hF) (sp3 := [(70, 0)]) (C := []) (Pf := kt_Pf) (Pre1 := fun r M => op_wf (kq_l r4 M) ∧ as_P w u q (kq_l r4 M) r M) (Post1 := fun r M => ah_Q w u q (kq_l r4 M) r M) (Pre2 := fun r M => ps_gc (kq_l r4 M w) ∧ rq_P w u q (kq_l r4 M w) r M) (Post2 := fun r M => rq_Q w u q (kq_l r4 M w) r M) F hl hRf hRl hsa hV hvk hk4 hE x4 hrd hR4 hi h110 had gdsys (fun l D tyc A sa hl ws r ad H As M a1 a2 a3 => ah_M (n := 57) (v := w) (u := u) (q := q) (l := kq_l r4 M) (by omega) w4 hu7 q4 a3.1 l D tyc A sa hl ws r ad H As M a1 a2 a3.2) ⟨by show 64 + 0 + 8 + 1 ≤ 111; omega, by show 64 * (64 + 0) + 400 + 64 ≤ 8000; omega⟩ kq_hp1 gesys (fun l D tyc A sa hl ws r ad H As M a1 a2 a3 => rq_M (n := 55) (v := w) (u := u) (q := q) (l := kq_l r4 M w) (by omega) w4 hu7 q4 a3.1 l D tyc A sa hl ws r ad H As M a1 a2 a3.2) ⟨by show 59 + 0 + 8 + 1 ≤ 111; omega, by show 64 * (59 + 0) + 400 + 64 ≤ 8000; omega⟩ kq_hp2 kq_bud.1 kq_bud.2 rfl rfl rfl kq_hB kt_Pfok kq_k1 kq_k2 kq_kv (gq_row_of kq_row) (fun cc hct hI hK => ?_) (fun cc hct hI hK r2 M2 v1 po1 hE2 hv1 => ?_) kn
  · obtain ⟨ll, hll⟩ := hK
    have el : ∀ v, v < 4 → kq_l r4 cc v = ll v := fun v hv => kq_le (hll v hv)
    have g := gq_ik_A (r := r4) (c := cc) kq_ik1
    have k : ∀ x y, (x, ((y, 0) : ai_X)) ∈ kq_A1 → gq_rn r4 cc kq_p1 kq_X1 kq_A1 gdY.1 x = r4 y := fun x y h => (g _ h).2.trans (Int.add_zero _)
    have e0 := k 424 382 (by simp [kq_A1])
    have e1 := k 425 383 (by simp [kq_A1])
    have e2 := k 426 384 (by simp [kq_A1])
    refine ⟨fun v hv => by rw [el v hv]; exact ⟨(hll v hv).1.2, av_gc (hll v hv).1.1⟩, ⟨⟨e0.trans hw, ?_⟩, ⟨e1.trans hu, ?_⟩, e2.trans hq⟩, fun v hv => ?_⟩
    · rw [gq_rn_p kq_pm.1.2.1.1]
      omega
    · rw [e1, gq_rn_p m1]
      omega
    · rw [el v hv]
      have pv := List.all_eq_true.mp kq_pm.2.1 v (List.mem_range.mpr hv)
      simp only [Bool.and_eq_true] at pv
      refine ⟨?_, (hll v hv).2.1.2⟩
      show gq_rn r4 cc kq_p1 kq_X1 kq_A1 gdY.1 (lx_oc v) = _
      rw [gq_rn_p pv.2.1]
      exact (hll v hv).2.1.1
  obtain ⟨ll, hll⟩ := hK
  have el : kq_l r4 cc w = ll w := kq_le (hll w w4)
  obtain ⟨rn, hrn⟩ : ∃ rn, rn = gq_rn r4 cc kq_p1 kq_X1 kq_A1 gdY.1 := ⟨_, rfl⟩
  rw [← hrn] at po1
  have nn : ∀ t, kq_p1 t = true → rn t = r4 t := fun t ht => by
    rw [hrn]
    exact gq_rn_p ht
  obtain ⟨q1, q2, q3', q4'⟩ := po1
  rw [eA rn _ (fun j hj => nn _ (pt j hj).1) (nn _ o1) (nn _ m1), nn _ m1] at q2
  have z2 : ∀ z ∈ gw_l, M2 z.1 = cc z.1 := fun z hz => q4' z.1 (by
    have h : gw_l.all (fun z => (List.range 4).all (fun v => !(Nat.beq z.1 (49 + 6 * v)) && !(Nat.beq z.1 (91 + v)))) = true := by decide
    intro v hv
    have g := List.all_eq_true.mp (List.all_eq_true.mp h z hz) v (List.mem_range.mpr hv)
    rw [Bool.and_eq_true, Bool.not_eq_true', Bool.not_eq_true'] at g
    exact ⟨Nat.ne_of_beq_eq_false g.1, Nat.ne_of_beq_eq_false g.2⟩)
  have y2 : ∀ z ∈ gw_l, gw_o gdY M2 cc z.1 = cc z.1 := fun z hz => by
    unfold gw_o
    split
    · exact z2 z hz
    · rfl
  refine ⟨(gw_I_c hI y2).1, 0, ?_, by decide, ?_, fun r3 M3 v2 po2 hE3 hv2 => ?_⟩
  · rw [q1]
    refine congrArg some ?_
    show (0 : Int) = pt_set r4 391 0 0 + 0
    rw [show pt_set r4 391 0 0 = r4 0 from if_neg (by omega), h40]
    rfl
  · have g := gq_ik_A (r := pt_set r4 391 0) (c := cc) kq_ik2
    have k : ∀ x y, y ≠ 391 → (x, ((y, 0) : ai_X)) ∈ kq_A2 → gq_rn (pt_set r4 391 0) cc kq_p2 kq_X2 kq_A2 geY.1 x = r4 y := fun x y hy h => (g _ h).2.trans ((Int.add_zero _).trans (if_neg hy))
    have kp : ∀ t, kq_p2 t = true → gq_rn (pt_set r4 391 0) cc kq_p2 kq_X2 kq_A2 geY.1 t = r4 t := fun t ht => (gq_rn_p ht).trans (if_neg (by have := kt_bt_lt ht; omega))
    have e0 := k 424 382 (by omega) (by simp [kq_A2])
    have e1 := k 425 383 (by omega) (by simp [kq_A2])
    have e2 := k 426 384 (by omega) (by simp [kq_A2])
    have pv := List.all_eq_true.mp kq_pm.2.1 w (List.mem_range.mpr w4)
    simp only [Bool.and_eq_true] at pv
    rw [el]
    refine ⟨(hll w w4).1.1, ⟨⟨e0.trans hw, ?_⟩, ⟨e1.trans hu, ?_⟩, e2.trans hq⟩, fun j hj hle => ?_, ?_, (hll w w4).2.2.1⟩
    · rw [kp _ kq_pm.1.2.1.2]
      omega
    · rw [e1, kp _ m2]
      omega
    · rw [kp _ kq_pm.1.2.2.1] at hle
      rw [kp _ (pt j hj).2]
      have g := kq_ld J4 h40 (4 * j + q) (by omega) (by rw [show (4 * j + q) / 4 = j by omega]; exact hle)
      rw [show 169 + (4 * j + q) = 169 + 4 * j + q by omega] at g
      exact g
    · show gq_rn (pt_set r4 391 0) cc kq_p2 kq_X2 kq_A2 geY.1 (lx_hs w) = _
      rw [kp _ pv.2.2]
      exact (hll w w4).2.2.2.1
  obtain ⟨rm, hrm⟩ : ∃ rm, rm = gq_rn (pt_set r4 391 0) cc kq_p2 kq_X2 kq_A2 geY.1 := ⟨_, rfl⟩
  rw [← hrm] at po2
  have mm : ∀ t, kq_p2 t = true → rm t = r4 t := fun t ht => by
    rw [hrm]
    exact (gq_rn_p ht).trans (if_neg (by have := kt_bt_lt ht; omega))
  obtain ⟨⟨u1', u2'⟩, ⟨u3, u4⟩, u5⟩ := po2
  rw [eA rm _ (fun j hj => mm _ (pt j hj).2) (mm _ o2) (mm _ m2)] at u1' u2'
  obtain ⟨AA, hAA⟩ : ∃ AA, AA = am_A r4 (q : Int) (op_T r4 q 0) w (kq_l r4 cc w) := ⟨_, rfl⟩
  rw [← hAA] at q2 u1' u2'
  have same : r2 390 = rq_v AA u := by
    rw [q2]
    exact rq_eq u2' hu7.1 (by omega) (by omega)
  obtain ⟨rF, hrF⟩ : ∃ rF : Nat → Int, rF = fun t => if t = 391 then 0 else if t = 392 then rq_v AA u else if kq_p1 t = true then r2 t else if kq_p2 t = true then r3 t else r4 t := ⟨_, rfl⟩
  have fv : ∀ t, rF t = if t = 391 then 0 else if t = 392 then rq_v AA u else if kq_p1 t = true then r2 t else if kq_p2 t = true then r3 t else r4 t := fun t => by rw [hrF]
  have f1 : rF 391 = 0 := by rw [fv, if_pos rfl]
  have f2 : rF 392 = rq_v AA u := by rw [fv, if_neg (by omega), if_pos rfl]
  have fp1 : ∀ t, kq_p1 t = true → rF t = r2 t := fun t ht => by
    have := kt_bt_lt ht
    rw [fv, if_neg (by omega), if_neg (by omega), if_pos ht]
  have k2 : ∀ t, kq_p1 t = true → kq_c t = false → r2 t = r4 t := fun t ht hc => by
    have b := kt_bt_lt ht
    obtain ⟨⟨c1, c2⟩, -, -⟩ := kq_c_ok hc b
    exact (q3' t (by omega) c1 c2).trans (nn t ht)
  have k3 : ∀ t, kq_p2 t = true → kq_c t = false → r3 t = r4 t := fun t ht hc => by
    have b := kt_bt_lt ht
    obtain ⟨-, c1, c2⟩ := kq_c_ok hc b
    exact (u4 t (by omega) c1 c2).trans (mm t ht)
  have fp2 : ∀ t, kq_p2 t = true → rF t = r3 t := fun t ht => by
    have b := kt_bt_lt ht
    by_cases h1 : kq_p1 t = true
    · have hc := kq_both h1 ht
      rw [fp1 t h1, k2 _ h1 hc, k3 _ ht hc]
    · rw [fv, if_neg (by omega), if_neg (by omega), if_neg h1, if_pos ht]
  have f0 : ∀ t, t < 391 → kq_c t = false → rF t = r4 t := fun t b1 b2 => by
    by_cases h1 : kq_p1 t = true
    · rw [fp1 t h1, k2 t h1 b2]
    · by_cases h2 : kq_p2 t = true
      · rw [fp2 t h2, k3 t h2 b2]
      · rw [fv, if_neg (by omega), if_neg (by omega), if_neg h1, if_neg h2]
  have fJ : ∀ t ∈ lx_Jt, rF t = r4 t := fun t ht => by
    have g := List.all_eq_true.mp kq_pp.2 t ht
    rw [Bool.and_eq_true, Bool.not_eq_true'] at g
    exact f0 t (Nat.le_of_ble_eq_true g.1) g.2
  have z3 : ∀ z ∈ gw_l, M3 z.1 = cc z.1 := fun z hz => u5 z.1 (by
    have h : gw_l.all (fun z => !(Nat.beq z.1 292)) = true := by decide
    have g := List.all_eq_true.mp h z hz
    rw [Bool.not_eq_true'] at g
    exact Nat.ne_of_beq_eq_false g)
  have y3 : ∀ z ∈ gw_l, gw_o geY M3 (gw_o gdY M2 cc) z.1 = cc z.1 := fun z hz => by
    unfold gw_o
    split
    · exact z3 z hz
    · exact y2 z hz
  refine ⟨rF, fp1, fp2, fun t ht => f0 t (kq_P_ok ht).1 (kq_P_ok ht).2, f1, ?_, pt_m1 (f2.trans same.symm), pt_m0, pt_m0, by rw [f2]; exact hv2 _ u1', pt_m1 ((fp2 _ kq_pm.1.2.2.2.1).trans u3), gw_I_c hI y3, gw_K_k (gw_K_c ⟨ll, hll⟩ y3) (fun t ht => fJ t (lx_Kj ht).1), lx_J_keep J4 fJ⟩
  rw [u1']
  refine congrArg some ?_
  show _ = rF 392 + 0
  rw [Int.add_zero, f2]
end KQG
