/-! place -/
theorem lk_pc1 : gq_ck1 raY rbY lk_p1 lk_p2 lk_X1 lk_X2 [] [] = true := by decide +kernel
theorem lk_pc2 : gq_ck2 raY rbY lk_P0 lk_p1 lk_p2 [] [] [] lx_h = true := by decide +kernel
theorem lk_pcv : gq_cv lk_P0 = true := by decide +kernel
theorem lk_prow : gq_row 0 189 133 false raY [ra_16] [ra_16] [] (197, 0) (0, 0) 194 174 false rbY [rb_264] [rb_264] [] (0, 0) (198, 0) [] lx_h [] lk_Pf = true := by decide +kernel
theorem lk_pf : gq_frow 0 gq_rd [(122, (4, 4))] [] [] lk_Pf = true := by decide +kernel
theorem lk_bud : ct_bud 133 = (0, 0) ∧ ct_bud 174 = (0, 0) ∧ ct_bud 258 = (1, 6) ∧ ct_bud 175 = (0, 0) ∧ ct_bud 265 = (1, 6) ∧ ct_bud 215 = (0, 0) := by decide +kernel
theorem lk_rdl : gq_rd.all (fun q => Nat.blt q.2.1 199) = true := by decide +kernel
section LKP
variable {p : Program} {l : Launch} {e : Env} {R : Room} {s : State} {m : MethodId} {args : Array Value} {below : List Frame} {meth : Method} {c : Code} {Q : State → Prop}
variable {D : va_G} {tyc : Nat → ClassId} {A : Nat → Prop} {sa : ai_B} {ws : va_W} {b Ln z0 v k : Nat} {xs : Nat → Int32}
variable {r : Nat → Int} {ad : Nat → Nat} {H : Heap} {locs : List Loc} {ls : Array Slot} {st : List Value}
set_option maxHeartbeats 4000000 in
theorem lx_placeL (F : lx_Fr p R s m args meth c D tyc A sa) (hl : l.stackTraces = false) (hRf : 111 ≤ R.frames) (hRl : 8000 ≤ R.locals) (hsa : (z0, b, Ln, xs) ∈ sa.2) (hV : lx_V tyc ws r) (hvk : v ≤ k) (hk4 : k ≤ 4) (hR : ai_Rel D tyc A s sa ws 7 r ad lx_L [.inl (0, .ofNat 0)] (lx_G v 1) H locs ls st) (hi : 0 ≤ r 1 ∧ r 1 + 10 ≤ (Ln : Int)) (h5 : r 1 ≤ 5110) (h110 : r 124 = (k : Int)) (had : ad 0 = b)
    (kn : lx_Kn p l e R s m args below meth c Q D tyc A sa b (r 1)) : W p l e R s m args below meth c H locs 0 0 Q (F0 m 40 ls st) := by
  have hE : ai_gE r (lx_El v 1) := hR.env
  obtain ⟨x4, hrd, hR4⟩ := gq_start (xs := xs) hE ⟨hi.1, h5⟩ hR
  generalize gq_r4 r xs = r4 at x4 hrd hR4
  have hE4 : ai_gE r4 gq_E := hR4.env
  obtain ⟨b1, b2, b3⟩ := lk_bd hE4
  have J4 : lx_J r4 := lx_J_keep hV.2 (fun t ht => x4 t (by
    have w : lx_Jt.all (fun t => Nat.blt t 188) = true := by decide +kernel
    exact Nat.le_of_ble_eq_true (List.all_eq_true.mp w t ht)))
  by_cases hp : r4 122 = 4
  · exact gq_fail F hl hRf hRl hsa hV hvk hk4 hE x4 hR4 hi h110 had kn lk_Pfok hrd (by rw [lk_rdl]; rfl) lk_pf ⟨pt_m0, pt_m1 ⟨by show (4 : Int) ≤ r4 122; omega, by show r4 122 ≤ (4 : Int); omega⟩, pt_m0⟩
  have hp3 : r4 122 ≤ 3 := by omega
  refine gq_two (p1 := lk_p1) (p2 := lk_p2) (X1 := lk_X1) (X2 := lk_X2) (AL1 := []) (AL2 := []) (P0 := lk_P0) (P1 := lk_p1) (P2 := lk_p2) (x1 := (197, 0)) (x2 := (198, 0)) (b1 := (0, 0)) (b2 := (0, 0)) (XF := []) (XG1 := []) (XG2 := []) (hF := lx_h) (sp3 := []) (C := []) (Pf := lk_Pf) F hl hRf hRl hsa hV hvk hk4 hE x4 hrd hR4 hi h110 had rasys (ra_place (n := 7) (by omega)) ⟨by show 8 + 0 + 8 + 1 ≤ 111; omega, by show 64 * (8 + 0) + 400 + 64 ≤ 8000; omega⟩ lk_hp1 rbsys (rb_place (n := 7) (by omega)) ⟨by show 8 + 0 + 8 + 1 ≤ 111; omega, by show 64 * (8 + 0) + 400 + 64 ≤ 8000; omega⟩ lk_hp2 lk_bud.1 lk_bud.2.1 rfl rfl rfl lk_hB lk_Pfok lk_pc1 lk_pc2 lk_pcv (gq_row_of lk_prow) (fun cc _ => ?_) (fun cc _ r2 M2 v1 po1 hE2 hv1 => ?_) kn
  · refine ⟨fun l hl hn => ?_, ?_⟩
    · rw [lk_r1 (lk_in1 (by omega))] at hn
      rw [lk_r1 (lk_in1 (by omega)), lk_r1 (lk_in1 (by omega))]
      exact (J4.1 l hl hn).1
    · show gq_rn r4 cc lk_p1 lk_X1 [] raY.1 122 ≤ 3
      rw [lk_r1 (lk_in1 (by omega))]
      exact hp3
  obtain ⟨rn, hrn⟩ : ∃ rn, rn = gq_rn r4 cc lk_p1 lk_X1 [] raY.1 := ⟨_, rfl⟩
  rw [← hrn] at po1
  have n1 : ∀ t, lk_p1 t = true → rn t = r4 t := fun t ht => by
    rw [hrn]
    exact lk_r1 ht
  obtain ⟨q1, -, -, view, keep⟩ := po1
  have n122 : rn 122 = r4 122 := n1 122 (lk_in1 (by omega))
  have k2 : ∀ t, lk_p1 t = true → t ≠ 122 → ¬ (8 ≤ t ∧ t < 29) → r2 t = r4 t := fun t ht h1 h2 => by
    rw [keep t (lk_keep (lk_bt_lt ht) h2)]
    exact (if_neg h1).trans (n1 t ht)
  have k122 : r2 122 = r4 122 + 1 := by
    rw [keep 122 (lk_keep (by omega) (by omega))]
    show rn 122 + 1 = _
    rw [n122]
  refine ⟨r4 122, ?_, hv1 _ (by rw [q1, n122]), ?_, fun r3 M3 v2 po2 hE3 hv2 => ?_⟩
  · rw [q1, n122]
    refine congrArg some ?_
    show r4 122 = pt_set r4 197 (r4 122) 197 + 0
    rw [Int.add_zero]
    exact (if_pos rfl).symm
  · show gq_rn (pt_set r4 197 (r4 122)) cc lk_p2 lk_X2 [] rbY.1 122 ≤ 3
    rw [lk_r2 (lk_in2 (by omega))]
    exact hp3
  obtain ⟨u1, -, u2, u3, u4⟩ := po2
  rw [lk_r2 (lk_in2 (by omega))] at u1 u3
  have k3 : ∀ t, lk_p2 t = true → t ≠ 121 → t ≠ 122 → r3 t = r4 t := fun t ht h1 h2 => (u4 t (by have := lk_bt_lt ht; omega) h1 h2).trans (lk_r2 ht)
  obtain ⟨rF, hrF⟩ : ∃ rF : Nat → Int, rF = fun t => if t = 197 then r4 122 else if t = 198 then r4 122 else if t = 121 then 0 else if lk_p1 t = true then r2 t else r4 t := ⟨_, rfl⟩
  have f1 : ∀ t, lk_p1 t = true → rF t = r2 t := fun t ht => by
    have h187 := lk_bt_lt ht
    have h121 : t ≠ 121 := fun q => by
      rw [q, lk_p1n] at ht
      cases ht
    rw [hrF]
    show (if t = 197 then r4 122 else if t = 198 then r4 122 else if t = 121 then 0 else if lk_p1 t = true then r2 t else r4 t) = _
    rw [if_neg (by omega), if_neg (by omega), if_neg h121, if_pos ht]
  have f0 : ∀ t, t < 197 → t ≠ 121 → t ≠ 122 → ¬ (8 ≤ t ∧ t < 29) → rF t = r4 t := fun t h1 h2 h3 h4 => by
    by_cases ht : lk_p1 t = true
    · rw [f1 t ht]
      exact k2 t ht h3 h4
    · rw [hrF]
      show (if t = 197 then r4 122 else if t = 198 then r4 122 else if t = 121 then 0 else if lk_p1 t = true then r2 t else r4 t) = _
      rw [if_neg (by omega), if_neg (by omega), if_neg h2, if_neg ht]
  have f121 : rF 121 = 0 := by
    rw [hrF]
    rfl
  have f197 : rF 197 = r4 122 := by
    rw [hrF]
    rfl
  have f198 : rF 198 = r4 122 := by
    rw [hrF]
    rfl
  have f122 : rF 122 = r4 122 + 1 := (f1 122 (lk_in1 (by omega))).trans k122
  have fl : ∀ t, lk_ld t → rF t = ra_1 rn t := fun t ht => by
    rw [f1 t (lk_l1 ht)]
    exact keep t (lk_keep (by unfold lk_ld at ht; omega) (by unfold lk_ld at ht; omega))
  refine ⟨rF, f1, fun t ht => ?_, fun t ht => ?_, f197, ?_, pt_m0, pt_m0, pt_m0, by rw [f198]; exact hv2 _ u1, pt_m0, ?_⟩
  · by_cases h1 : t = 121
    · rw [h1, f121, u2]
    · by_cases h2 : t = 122
      · rw [h2, f122, u3]
      · rw [f0 t (by have := lk_bt_lt ht; omega) h1 h2 (lk_out2 ht), k3 t ht h1 h2]
  · obtain ⟨h1, h2, h3, h4, h5, h6⟩ := lk_P0_ok ht
    exact f0 t h1 h2 h3 h5
  · rw [u1]
    refine congrArg some ?_
    show r4 122 = rF 198 + 0
    rw [Int.add_zero, f198]
  · refine lk_Jof ?_ (view 0 (by omega) (by show ((0 : Nat) : Int) ≤ (if (123 : Nat) = 122 then rn 122 + 1 else rn 123); rw [if_neg (by omega), n1 123 (lk_in1 (by omega))]; omega)) fl (fun t ht => f1 t (lk_in1 (by omega)))
    intro l hl hn
    have e1 := f0 123 (by omega) (by omega) (by omega) (by omega)
    rw [f0 (164 + l) (by omega) (by omega) (by omega) (by omega), f0 (169 + l) (by omega) (by omega) (by omega) (by omega), f122]
    rw [e1] at hn
    obtain ⟨a1, a2, a3⟩ := J4.1 l hl hn
    exact ⟨a1, by omega, by omega⟩
end LKP
