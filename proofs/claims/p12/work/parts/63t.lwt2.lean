/-! KIND offer -/
/-- what offer for mill w may change -/
noncomputable def kt_c8x (w t : Nat) : Bool := (of_p t || go_ch t) || (Nat.beq t (11 + 8 * w) || Nat.beq t (369 + w))
theorem kt_c8x_ok {w t : Nat} (h : kt_c8x w t = false) : of_p t = false ∧ go_ch t = false ∧ t ≠ 11 + 8 * w ∧ t ≠ 369 + w := by
  unfold kt_c8x at h
  rw [Bool.or_eq_false_iff, Bool.or_eq_false_iff, Bool.or_eq_false_iff] at h
  exact ⟨h.1.1, h.1.2, Nat.ne_of_beq_eq_false h.2.1, Nat.ne_of_beq_eq_false h.2.2⟩
/-- an offer without a fault has a clause -/
theorem ps_cl_ne {A : Nat → Int} {n i : Nat} {σ : ps_S} (h : σ.2.1 ≠ [] ∨ (σ.2.2.1 = 0 ∧ (ps_cl A n i σ).2.2.1 = 0)) : (ps_cl A n i σ).2.1 ≠ [] := by
  unfold ps_cl at h ⊢
  split
  · split
    · intro e
      exact List.append_ne_nil_of_right_ne_nil _ (List.cons_ne_nil _ _) e
    · rename_i a b
      rw [if_pos a, if_neg b] at h
      rcases h with h | ⟨h1, h2⟩
      · rw [ps_fl_c]
        exact h
      · unfold ps_fl at h2
        rw [if_pos h1] at h2
        exact absurd (show (2 : Int) = 0 from h2) (by decide)
  · rename_i a
    rw [if_neg a] at h
    rcases h with h | ⟨h1, h2⟩
    · rw [ps_fl_c]
      exact h
    · unfold ps_fl at h2
      rw [if_pos h1] at h2
      exact absurd (show (1 : Int) = 0 from h2) (by decide)
theorem ps_rd_ne {A : Nat → Int} {n : Nat} : ∀ (f i : Nat) (σ : ps_S), σ.2.1 ≠ [] → (ps_rd A n f i σ).2.1 ≠ []
  | 0, _, _, h => h
  | f + 1, i, σ, h => by
    unfold ps_rd
    split
    · exact ps_rd_ne f (i + 1) _ (ps_cl_ne (Or.inl h))
    · exact h
theorem ps_read_ne {A : Nat → Int} {n : Nat} (hA : ps_A A n) (c : (ps_read A n).2.2.1 = 0) : (ps_read A n).2.1 ≠ [] := by
  unfold ps_read at c ⊢
  have e : ps_rd A n 9 0 (0, [], 0, -1) = ps_rd A n 8 1 (ps_cl A n 0 (0, [], 0, -1)) := if_pos ⟨rfl, Or.inl rfl⟩
  rw [e] at c ⊢
  exact ps_rd_ne 8 1 _ (ps_cl_ne (Or.inr ⟨rfl, (ps_ok_rd hA 8 1 _ c).1⟩))
/-- the tape below n, nothing else -/
noncomputable def kt_cut (n : Nat) (f : Nat → Int) (j : Nat) : Int := if j < n then f j else 0
theorem kt_cut_lt {n : Nat} {f : Nat → Int} {j : Nat} (h : j < n) : kt_cut n f j = f j := if_pos h
theorem kt_cut_eq {n : Nat} {f g : Nat → Int} (h : ∀ j, j < n → f j = g j) : kt_cut n f = kt_cut n g := by
  funext j
  unfold kt_cut
  by_cases c : j < n
  · rw [if_pos c, if_pos c]
    exact h j c
  · rw [if_neg c, if_neg c]
noncomputable def kt_hF : ai_H := (336, ai_tset 9 lx_h.2 335 (some (.inr (.inl (1, 1, .negSucc 9223372036854775807, .ofNat 9223372036854775807, [((0, .ofNat 0), (392, .ofNat 0))])))))
theorem kt_82 : gq_ck2 gcY gbY kt_P8 kt_p1 kt_p2 [(392, 335, 0, 390)] [] [] kt_hF = true := by decide +kernel
theorem kt_8v : gq_cv kt_P8 = true := by decide +kernel
theorem kt_8row : gq_row 8 713 263 true gcY [wa_r 335, wa_i 393, wa_i 392, wa_r 16] (oh_a ++ [wa_r 335]) kt_A1 (0, 0) (1, 6) 731 203 false gbY [wa_i 393, wa_i 392, wa_r 264] [wa_r 264, wa_i 392, wa_i 393] kt_A2 (0, 0) (392, 0) [(70, 0)] kt_hF [] kt_Pf = true := by decide +kernel
theorem kt_f8_m0 : gq_frow 8 gq_rd [(382, (-2147483648, -1))] [] [] kt_Pf = true := by decide +kernel
theorem kt_f8_m1 : gq_frow 8 gq_rd [(382, (0, 2147483647))] [((73, 0), (382, 0))] [] kt_Pf = true := by decide +kernel
theorem kt_f8_n0 : gq_frow 8 gq_rd [(382, (0, 3)), (383, (-2147483648, -1))] [((382, 1), (73, 0))] [] kt_Pf = true := by decide +kernel
theorem kt_f8_n1 : gq_frow 8 gq_rd [(382, (0, 3)), (383, (0, 2147483647))] [((382, 1), (73, 0)), ((75, 1), (383, 0))] [] kt_Pf = true := by decide +kernel
section KTG
variable {p : Program} {l : Launch} {e : Env} {R : Room} {s : State} {m : MethodId} {args : Array Value} {below : List Frame} {meth : Method} {c : Code} {Q : State → Prop}
variable {D : va_G} {tyc : Nat → ClassId} {A : Nat → Prop} {sa : ai_B} {ws : va_W} {b Ln z0 v k : Nat} {xs : Nat → Int32}
variable {r : Nat → Int} {ad : Nat → Nat} {H : Heap} {locs : List Loc} {ls : Array Slot} {st : List Value}
set_option maxHeartbeats 8000000 in
theorem lx_offer (F : lx_Fr p R s m args meth c D tyc A sa) (hl : l.stackTraces = false) (hRf : 111 ≤ R.frames) (hRl : 8000 ≤ R.locals) (hsa : (z0, b, Ln, xs) ∈ sa.2) (hV : lx_V tyc ws r) (hvk : v ≤ k) (hk4 : k ≤ 4) (hR : ai_Rel D tyc A s sa ws 7 r ad lx_L [.inl (0, .ofNat 8)] (lx_G v 1) H locs ls st) (hi : 0 ≤ r 1 ∧ r 1 + 10 ≤ (Ln : Int)) (h5 : r 1 ≤ 5110) (h110 : r 73 = (k : Int)) (had : ad 0 = b)
    (kn : lx_Kn p l e R s m args below meth c Q D tyc A sa b (r 1)) : W p l e R s m args below meth c H locs 0 0 Q (F0 m 40 ls st) := by
  have hE : ai_gE r (lx_El v 1) := hR.env
  obtain ⟨x4, hrd, hR4⟩ := gq_start (xs := xs) hE ⟨hi.1, h5⟩ hR
  generalize gq_r4 r xs = r4 at x4 hrd hR4
  have hE4 : ai_gE r4 gq_E := hR4.env
  have h40 : r4 0 = 0 := hE4.1
  have J4 : lx_J r4 := lx_J_keep hV.2 (fun t ht => x4 t (by
    have w : lx_Jt.all (fun t => Nat.blt t 382) = true := by decide +kernel
    exact Nat.le_of_ble_eq_true (List.all_eq_true.mp w t ht)))
  have bB : (0 : Int) ≤ r4 75 ∧ r4 75 ≤ 200 := (hE4.2.2.2.1 _ kt_bd.1).2
  have bM : (0 : Int) ≤ r4 73 ∧ r4 73 ≤ 4 := (hE4.2.2.2.1 _ kt_bd.2).2
  have i1 := kt_i32 hE4 (t := 382) (by omega)
  have i2 := kt_i32 hE4 (t := 383) (by omega)
  have fail : ∀ {cp : List (Nat × Int × Int)} {le : List (ai_X × ai_X)}, (gq_rd.all (fun q => Nat.blt q.2.1 393) && (cp.all (fun q => Nat.blt q.1 393) && le.all (fun q => Nat.blt q.1.1 393 && Nat.blt q.2.1 393))) = true → gq_frow 8 gq_rd cp le [] kt_Pf = true → pt_asm r4 [] cp le → W p l e R s m args below meth c H locs 0 0 Q (F0 m 40 ls st) := fun h2 h3 h4 => gq_fail F hl hRf hRl hsa hV hvk hk4 hE x4 hR4 hi h110 had kn kt_Pfok hrd h2 h3 h4
  by_cases a0 : r4 382 ≤ -1
  · exact fail (by decide +kernel) kt_f8_m0 ⟨pt_m0, pt_m1 ⟨i1.1, a0⟩, pt_m0⟩
  have a0 : 0 ≤ r4 382 := by omega
  by_cases a1 : r4 73 ≤ r4 382
  · exact fail (by decide +kernel) kt_f8_m1 ⟨pt_m0, pt_m1 ⟨a0, i1.2⟩, pt_m1 (by show r4 73 + 0 ≤ r4 382 + 0; omega)⟩
  have a3 : r4 382 ≤ 3 := by omega
  by_cases n0 : r4 383 ≤ -1
  · exact fail (by decide +kernel) kt_f8_n0 ⟨pt_m0, pt_m2 ⟨a0, a3⟩ ⟨i2.1, n0⟩, pt_m1 (by show r4 382 + 1 ≤ r4 73 + 0; omega)⟩
  have n0 : 0 ≤ r4 383 := by omega
  by_cases n1 : r4 75 + 1 ≤ r4 383
  · exact fail (by decide +kernel) kt_f8_n1 ⟨pt_m0, pt_m2 ⟨a0, a3⟩ ⟨n0, i2.2⟩, pt_m2 (by show r4 382 + 1 ≤ r4 73 + 0; omega) (by show r4 75 + 1 ≤ r4 383 + 0; omega)⟩
  obtain ⟨w, hw⟩ : ∃ w : Nat, r4 382 = (w : Int) := ⟨(r4 382).toNat, by omega⟩
  obtain ⟨N, hN⟩ : ∃ N : Nat, r4 383 = (N : Int) := ⟨(r4 383).toNat, by omega⟩
  have w4 : w < 4 := by omega
  have N200 : N ≤ 200 := by omega
  have bytes : ∀ {cc : Nat → Nat → Int}, gw_I cc → ps_A (kt_cut N (cc 86)) N := fun {cc} hI => ⟨N200, fun i hi => by
    rw [kt_cut_lt hi]
    exact (hI.2 i (by omega)).2⟩
  refine gq_two (p1 := kt_p1) (p2 := kt_p2) (X1 := kt_X1) (X2 := kt_X2) (AL1 := kt_A1) (AL2 := kt_A2) (P0 := kt_P8) (P1 := kt_p1) (P2 := kt_p2) (x1 := (0, 0)) (x2 := (392, 0)) (b1 := (1, 6)) (b2 := (0, 0)) (XF := [(392, 335, 0, 390)]) (XG1 := []) (XG2 := []) (hF := kt_hF) (sp3 := [(70, 0)]) (C := []) (Pf := kt_Pf) (Pre1 := fun r M => of_P w (kt_cut N (M 86)) N r M) (Post1 := fun r M => oh_Q w (kt_cut N (M 86)) N r M) (Pre2 := fun r M => go_P w (kt_cut N (M 285)) N r M) (Post2 := fun r M => go_Q w (kt_cut N (M 285)) N r M) F hl hRf hRl hsa hV hvk hk4 hE x4 hrd hR4 hi h110 had gcsys (fun l D tyc A sa hl ws r ad H As M a1 a2 a3 => oh_M (n := 61) (v := w) (N := N) (A := kt_cut N (M 86)) (by omega) w4 l D tyc A sa hl ws r ad H As M a1 a2 a3) ⟨by show 64 + 0 + 8 + 1 ≤ 111; omega, by show 64 * (64 + 0) + 400 + 64 ≤ 8000; omega⟩ kt_hp1 gbsys (fun l D tyc A sa hl ws r ad H As M a1 a2 a3 => go_M (n := 58) (v := w) (N := N) (A := kt_cut N (M 285)) (by omega) w4 l D tyc A sa hl ws r ad H As M a1 a2 a3) ⟨by show 59 + 0 + 8 + 1 ≤ 111; omega, by show 64 * (59 + 0) + 400 + 64 ≤ 8000; omega⟩ kt_hp2 kt_bud.2.1 kt_bud.2.2 rfl rfl rfl kt_hB8 kt_Pfok kt_c1 kt_82 kt_8v (gq_row_of kt_8row) (fun cc hct hI hK => ?_) (fun cc hct hI hK r2 M2 v1 po1 hE2 hv1 => ?_) kn
  · have e1 := kt_a1 (r4 := r4) (cc := cc) 0 (by omega)
    have e2 := kt_a1 (r4 := r4) (cc := cc) 1 (by omega)
    refine ⟨⟨⟨e1.trans hw, w4, ?_⟩, e2.trans hN, ?_⟩, bytes hI, fun j hj => (kt_cut_lt hj).symm⟩
    · rw [kt_r1 kt_pm.2.1.1]
      omega
    · rw [kt_r1 kt_pm.2.2.1.1]
      omega
  obtain ⟨rn, hrn⟩ : ∃ rn, rn = gq_rn r4 cc kt_p1 kt_X1 kt_A1 gcY.1 := ⟨_, rfl⟩
  rw [← hrn] at po1
  have nn : ∀ t, kt_p1 t = true → rn t = r4 t := fun t ht => by
    rw [hrn]
    exact kt_r1 ht
  obtain ⟨q1, ⟨q2, ⟨x1, x2, x3, x3'⟩, x4', x5, x6⟩, q3⟩ := po1
  have e86 : M2 86 = cc 86 := x6 86 (by omega) (by omega)
  refine ⟨kt_pw1 hI.1, 0, ?_, by decide, ?_, fun r3 M3 v2 po2 hE3 hv2 => ?_⟩
  · rw [q1]
    refine congrArg some ?_
    show (0 : Int) = pt_set r4 391 0 0 + 0
    rw [show pt_set r4 391 0 0 = r4 0 from if_neg (by omega), h40]
    rfl
  · have e1 := kt_a2 (r4 := r4) (cc := cc) (a := 0) 0 (by omega)
    have e2 := kt_a2 (r4 := r4) (cc := cc) (a := 0) 1 (by omega)
    have bb := bytes hI
    refine ⟨⟨⟨e1.trans hw, ?_⟩, e2.trans hN, ?_⟩, ⟨⟨bb.1, fun i hi => ?_⟩, fun j hj => (kt_cut_lt hj).symm⟩, hI.1⟩
    · rw [kt_r2 kt_pm.2.1.2]
      omega
    · show (N : Int) ≤ gq_rn (pt_set r4 391 0) cc kt_p2 kt_X2 kt_A2 gbY.1 75
      rw [kt_r2 kt_pm.2.2.1.2]
      omega
    · have bi := bb.2 i hi
      rw [kt_cut_lt hi] at bi
      rw [kt_cut_lt hi, ← (hI.2 i (by omega)).1]
      exact bi
  obtain ⟨rm, hrm⟩ : ∃ rm, rm = gq_rn (pt_set r4 391 0) cc kt_p2 kt_X2 kt_A2 gbY.1 := ⟨_, rfl⟩
  rw [← hrm] at po2
  have mm : ∀ t, kt_p2 t = true → rm t = r4 t := fun t ht => by
    rw [hrm]
    exact kt_r2 ht
  -- both read the same text
  have same : kt_cut N (cc 285) = kt_cut N (cc 86) := kt_cut_eq (fun i hi => ((hI.2 i (by omega)).1).symm)
  obtain ⟨u1, ⟨u2, u3, u4⟩, ⟨u5, u6⟩, u7, u8⟩ := po2
  rw [same] at u1 u4 u6 u7 u8
  have e285 : M3 285 = cc 285 := by
    by_cases c : (ps_read (kt_cut N (cc 86)) N).2.2.1 = 0
    · funext x
      exact (u8 c).2 285 x (by unfold gb_tmq; omega) (by unfold go_own; omega)
    · funext x
      exact u7 c 285 x (by unfold gb_tmq; omega)
  obtain ⟨rF, hrF⟩ : ∃ rF : Nat → Int, rF = fun t => if t = 391 then 0 else if t = 392 then (ps_read (kt_cut N (cc 86)) N).2.2.1 else if kt_p1 t = true then r2 t else if kt_p2 t = true then r3 t else r4 t := ⟨_, rfl⟩
  have fv : ∀ t, rF t = if t = 391 then 0 else if t = 392 then (ps_read (kt_cut N (cc 86)) N).2.2.1 else if kt_p1 t = true then r2 t else if kt_p2 t = true then r3 t else r4 t := fun t => by rw [hrF]
  have f1 : rF 391 = 0 := by rw [fv, if_pos rfl]
  have f2 : rF 392 = (ps_read (kt_cut N (cc 86)) N).2.2.1 := by rw [fv, if_neg (by omega), if_pos rfl]
  have fp1 : ∀ t, kt_p1 t = true → rF t = r2 t := fun t ht => by
    have := kt_bt_lt ht
    rw [fv, if_neg (by omega), if_neg (by omega), if_pos ht]
  have k2 : ∀ t, kt_p1 t = true → kt_c8 t = false → r2 t = r4 t := fun t ht hc => by
    have b := kt_bt_lt ht
    obtain ⟨⟨c1, c2⟩, c3⟩ := kt_c8_ok hc
    exact (q3 t (by omega) c1 (c3 w w4).1 (by omega)).trans (nn t ht)
  have k3 : ∀ t, kt_p2 t = true → kt_c8 t = false → r3 t = r4 t := fun t ht hc => by
    have b := kt_bt_lt ht
    obtain ⟨⟨c1, c2⟩, c3⟩ := kt_c8_ok hc
    exact (u6.1 t (by omega) c2 (c3 w w4).2).trans (mm t ht)
  have fp2 : ∀ t, kt_p2 t = true → rF t = r3 t := fun t ht => by
    have b := kt_bt_lt ht
    by_cases h1 : kt_p1 t = true
    · rw [fp1 t h1]
      rcases kt_both h1 ht with rfl | rfl | hc
      · rw [x1]
        exact u3.symm
      · rw [x2]
        exact u4.symm
      · rw [k2 _ h1 hc, k3 _ ht hc]
    · rw [fv, if_neg (by omega), if_neg (by omega), if_neg h1, if_pos ht]
  have ev2 : v2 = some (ps_read (kt_cut N (cc 86)) N).2.2.1 := u1
  refine ⟨rF, fp1, fp2, fun t ht => ?_, f1, ?_, pt_m1 (f2.trans q2.symm), pt_m0, pt_m0, by rw [f2]; exact hv2 _ ev2, pt_m1 ((fp2 _ kt_pm.2.2.2.2.1).trans u2), ⟨kt_pw3 u5, fun j hj => ?_⟩, ?_, ?_⟩
  · obtain ⟨b1, b2⟩ := kt_P8_ok ht
    by_cases h1 : kt_p1 t = true
    · rw [fp1 t h1, k2 t h1 b2]
    · by_cases h2 : kt_p2 t = true
      · rw [fp2 t h2, k3 t h2 b2]
      · rw [fv, if_neg (by omega), if_neg (by omega), if_neg h1, if_neg h2]
  · rw [ev2]
    refine congrArg some ?_
    show _ = rF 392 + 0
    rw [Int.add_zero, f2]
  · rw [kt_o86, kt_o3 (by omega), e86, e285]
    exact hI.2 j hj
  · -- the offers' relation
    have fK : ∀ t, t ∈ lx_Kt → kt_c8 t = false → rF t = r4 t := fun t ht hc => by
      obtain ⟨b1, -, -⟩ := kt_Kn t ht
      by_cases h1 : kt_p1 t = true
      · rw [fp1 t h1, k2 t h1 hc]
      · by_cases h2 : kt_p2 t = true
        · rw [fp2 t h2, k3 t h2 hc]
        · rw [fv, if_neg (by omega), if_neg (by omega), if_neg h1, if_neg h2]
    have pO : ∀ v, v < 4 → (kt_p1 (11 + 8 * v) = true ∧ kt_p2 (369 + v) = true) ∧ (v ≠ w → kt_c8x w (11 + 8 * v) = false ∧ kt_c8x w (369 + v) = false) := fun v hv => by
      have q : (List.range 4).all (fun w => (List.range 4).all (fun v => (kt_p1 (11 + 8 * v) && kt_p2 (369 + v)) && (Nat.beq v w || (!(kt_c8x w (11 + 8 * v)) && !(kt_c8x w (369 + v)))))) = true := by decide +kernel
      have g := List.all_eq_true.mp (List.all_eq_true.mp q w (List.mem_range.mpr w4)) v (List.mem_range.mpr hv)
      simp only [Bool.and_eq_true, Bool.or_eq_true, Bool.not_eq_true'] at g
      refine ⟨g.1, fun hne => ?_⟩
      rcases g.2 with g | g
      · exact absurd (Nat.eq_of_beq_eq_true g) hne
      · exact g
    have k2x : ∀ t, kt_p1 t = true → kt_c8x w t = false → r2 t = r4 t := fun t ht hc => by
      have b := kt_bt_lt ht
      obtain ⟨c1, c2, c3, c4⟩ := kt_c8x_ok hc
      exact (q3 t (by omega) c1 c3 (by omega)).trans (nn t ht)
    have k3x : ∀ t, kt_p2 t = true → kt_c8x w t = false → r3 t = r4 t := fun t ht hc => by
      have b := kt_bt_lt ht
      obtain ⟨c1, c2, c3, c4⟩ := kt_c8x_ok hc
      exact (u6.1 t (by omega) c2 c4).trans (mm t ht)
    have nO : ∀ v, v < 4 → v ≠ w → rF (11 + 8 * v) = r4 (11 + 8 * v) ∧ rF (369 + v) = r4 (369 + v) := fun v hv hne => by
      obtain ⟨⟨a1, a2⟩, a3⟩ := pO v hv
      exact ⟨(fp1 _ a1).trans (k2x _ a1 (a3 hne).1), (fp2 _ a2).trans (k3x _ a2 (a3 hne).2)⟩
    have nM : rF 73 = r4 73 := fK _ lx_KM (by decide +kernel)
    obtain ⟨l, hl⟩ := hK
    -- a mill whose offer stays
    have stay : ∀ v, v < 4 → (v ≠ w ∨ (ps_read (kt_cut N (cc 86)) N).2.2.1 ≠ 0) → gw_K1 v (l v) (gw_o gbY M3 (gw_o gcY M2 cc)) rF := fun v hv hs => by
      obtain ⟨g1, ⟨g2, g3⟩, g4, g5, g6⟩ := hl v hv
      have eo : rF (11 + 8 * v) = r4 (11 + 8 * v) ∧ rF (369 + v) = r4 (369 + v) := by
        by_cases e : v = w
        · subst e
          have hf : (ps_read (kt_cut N (cc 86)) N).2.2.1 ≠ 0 := by
            rcases hs with hs | hs
            · exact absurd rfl hs
            · exact hs
          obtain ⟨⟨a1, a2⟩, -⟩ := pO v hv
          refine ⟨(fp1 _ a1).trans (((x4' hf).1).trans (nn _ a1)), (fp2 _ a2).trans ?_⟩
          rw [u6.2, if_neg hf]
          exact mm _ a2
        · exact nO v hv e
      have ec : M2 (47 + 6 * v) = cc (47 + 6 * v) := by
        by_cases e : v = w
        · subst e
          have hf : (ps_read (kt_cut N (cc 86)) N).2.2.1 ≠ 0 := by
            rcases hs with hs | hs
            · exact absurd rfl hs
            · exact hs
          exact (x4' hf).2
        · exact x6 _ (by omega) (by omega)
      have e3 : ∀ z j, ¬ gb_tmq z j → (v ≠ w → ¬ go_own w z j) → M3 z j = cc z j := fun z j a b => by
        by_cases c : (ps_read (kt_cut N (cc 86)) N).2.2.1 = 0
        · have hne : v ≠ w := by
            rcases hs with hs | hs
            · exact hs
            · exact absurd c hs
          exact (u8 c).2 z j a (b hne)
        · exact u7 c z j a
      refine ⟨g1, ⟨eo.1.trans g2, fun j hj => by rw [kt_oc hv, ec]; exact g3 j hj⟩, go_K_c g4 ?_ (fun z hz k hk => ?_) (fun j hj => ?_) (gw_lc g1.2), eo.2.trans g5, fun q => g6 (by rw [← nM]; exact q)⟩
      · rw [kt_o3 (by omega)]
        exact e3 _ _ (by unfold gb_tmq; omega) (fun _ => by unfold go_own; omega)
      · rcases hz with rfl | rfl | rfl
        · rw [kt_o287]
          exact e3 _ _ (by unfold gb_tmq; omega) (fun _ => by unfold go_own; omega)
        · rw [kt_o3 (by omega)]
          exact e3 _ _ (by unfold gb_tmq; omega) (fun _ => by unfold go_own; omega)
        · rw [kt_o3 (by omega)]
          exact e3 _ _ (by unfold gb_tmq; omega) (fun _ => by unfold go_own; omega)
      · rw [kt_o3 (by omega)]
        exact e3 _ _ (by unfold gb_tmq; omega) (fun _ => by unfold go_own; omega)
    by_cases c : (ps_read (kt_cut N (cc 86)) N).2.2.1 = 0
    · obtain ⟨y1, y2, y3⟩ := x5 c
      obtain ⟨⟨y4, y5⟩, -⟩ := u8 c
      refine ⟨fun v => if v = w then (ps_read (kt_cut N (cc 86)) N).2.1 else l v, fun v hv => ?_⟩
      by_cases e : v = w
      · subst e
        show gw_K1 v (if v = v then _ else l v) _ _
        rw [if_pos rfl]
        obtain ⟨⟨a1, a2⟩, -⟩ := pO v hv
        refine ⟨⟨y5, y2⟩, ⟨(fp1 _ a1).trans y1, fun j hj => ?_⟩, go_K_c y4 (by rw [kt_o3 (by omega)]) (fun z hz k _ => ?_) (fun j _ => by rw [kt_o3 (by omega)]) (gw_lc y2), ?_, fun q => ?_⟩
        · rw [kt_oc hv, y3 j, if_pos hj]
        · rcases hz with rfl | rfl | rfl
          · rw [kt_o287]
          · rw [kt_o3 (by omega)]
          · rw [kt_o3 (by omega)]
        · refine (fp2 _ a2).trans ?_
          rw [u6.2, if_pos c, if_neg (ps_read_ne (bytes hI) c)]
        · exfalso
          have : rF 73 ≤ (v : Int) := q
          rw [nM] at this
          omega
      · show gw_K1 v (if v = w then _ else l v) _ _
        rw [if_neg e]
        exact stay v hv (Or.inl e)
    · exact ⟨l, fun v hv => stay v hv (Or.inr c)⟩
  · have jn : ∀ t ∈ lx_Jt, lx_Kt.elem t = false → t < 391 ∧ kt_c8 t = false := fun t ht hk => by
      have q : lx_Jt.all (fun t => lx_Kt.elem t || (Nat.blt t 391 && !(kt_c8 t))) = true := by decide +kernel
      have g := List.all_eq_true.mp q t ht
      rw [Bool.or_eq_true, hk, Bool.and_eq_true, Bool.not_eq_true'] at g
      rcases g with g | g
      · cases g
      · exact ⟨Nat.le_of_ble_eq_true g.1, g.2⟩
    refine lx_J_keep2 J4 (fun t ht hk => ?_)
    obtain ⟨b1, b2⟩ := jn t ht hk
    by_cases h1 : kt_p1 t = true
    · rw [fp1 t h1, k2 t h1 b2]
    · by_cases h2 : kt_p2 t = true
      · rw [fp2 t h2, k3 t h2 b2]
      · rw [fv, if_neg (by omega), if_neg (by omega), if_neg h1, if_neg h2]
end KTG
