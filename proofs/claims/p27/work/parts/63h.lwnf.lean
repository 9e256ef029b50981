noncomputable def mf_Lo (x y : ai_V) : List ai_V := [.inr (.inr (some (some 264))), x, y]
noncomputable def mf_u : ai_V := .inr (.inr none)
noncomputable def nf_Gr : ai_G := (nf_E, nf_hr, 0, 0)
noncomputable def mf_Gd (d : Nat) : ai_G := lx_sp 102 (.ofNat d) (hg_cap nf_Gr 105 (0, 999))
noncomputable def mf_c1 (f : ai_F) : Bool := (Nat.beq f.1 106 && cy_z f) && (nf_ck nf_hr [322] mf_P1 (mf_Lo mf_u mf_u) f && ((List.range 4).all (fun j => mf_d1 f.2.2.2.1 j (cx_im (lx_jW [322] mf_P1 f) (370 + j, 0))) && cx_q (cx_im (lx_jW [322] mf_P1 f) (102, 0)) (0, 0)))
noncomputable def mf_c2 (f : ai_F) : Bool := (Nat.beq f.1 17 && cy_z f) && (nf_ck nf_hr [] mf_P2 (mf_Lo mf_u mf_u) f && (cx_q (cx_im (lx_jW [] mf_P2 f) (105, 0)) (105, 1) && cx_q (cx_im (lx_jW [] mf_P2 f) (102, 0)) (0, 1)))
noncomputable def mf_c3 (f : ai_F) : Bool := (Nat.beq f.1 173 && cy_z f) && (nf_ck nf_hr [] mf_P3 (mf_Lo mf_u mf_u) f && mf_d3 f.2.2.2.1 (cx_im (lx_jW [] mf_P3 f) (106, 0)))
noncomputable def mf_c4 (k : Nat) (f : ai_F) : Bool := (Nat.beq f.1 253 && cy_z f) && (nf_ck nf_hr [] mf_P4 (mf_Lo mf_u mf_u) f && (nf_d4 f.2.2.2.1 378 k (cx_im (lx_jW [] mf_P4 f) (107, 0)) (cx_im (lx_jW [] mf_P4 f) (108, 0)) (cx_im (lx_jW [] mf_P4 f) (102, 0)) && cx_q (cx_im (lx_jW [] mf_P4 f) (105, 0)) (105, 1)))
theorem mf_plo : lh_plain 245 = true := by decide +kernel
theorem mf_k1 : lz_chk [] 245 [17, 106] false 0 (mf_Lo mf_u mf_u) [] (mf_Gd 0) mf_c1 = true := by decide +kernel
theorem mf_k2 : lz_chk [] 245 [17, 106] false 0 (mf_Lo mf_u mf_u) [] (mf_Gd 1) mf_c2 = true := by decide +kernel
theorem mf_k3 : lz_chk [] 245 [173] false 106 (mf_Lo mf_u mf_u) [] nf_Gr mf_c3 = true := by decide +kernel
theorem mf_k4 : (List.range 5).all (fun k => lz_chk [] 245 [253] false 173 (mf_Lo mf_u mf_u) [] (lx_sp 108 (.ofNat k) (hg_cap nf_Gr 105 (0, 999))) (mf_c4 k)) = true := by decide +kernel
theorem mf_wfo : nf_wf nf_hr (mf_Lo mf_u mf_u) = true := by decide +kernel
theorem mf_whc : sm_wh 401 nf_hr = true := by decide +kernel
theorem mf_h16 : (List.range 16).all (fun q => (ai_cell nf_hr q).isNone) = true := by decide +kernel
theorem mf_no16 : ∀ q, q < 16 → ai_cell nf_Gr.2.1 q = none := fun q hq => Option.isNone_iff_eq_none.mp (List.all_eq_true.mp mf_h16 q (List.mem_range.mpr hq))
theorem mf_vro : nf_vr 245 253 = true ∧ nf_vr 245 17 = true := by decide +kernel
section MFC
variable {p : Program} {l : Launch} {e : Env} {s : State} {m : MethodId} {args : Array Value} {below : List Frame} {meth : Method} {c : Code}
variable {D : va_G} {tyc : Nat → ClassId} {A : Nat → Prop} {sa : ai_B} {ws : va_W} {n : Nat}
variable {r r' : Nat → Int} {ad ad' : Nat → Nat} {H : Heap} {locs : List Loc} {ls : Array Slot} {st : List Value}
set_option maxHeartbeats 4000000 in
theorem mf_passMinute {H0 : Heap} {As : List Value} (hn : 4 ≤ n) (hl : l.stackTraces = false) (hPw : ai_Pw tyc ws) (hg : 0 ≤ r 105 ∧ r 105 ≤ 999) (hWd : ai_Wd D tyc A sa ws r ad nf_Gr H0) (hA : ai_gF r ad nf_Gr.1.1 nf_Gr.2.1.1 [.inr (.inr (some (some 264)))] As) :
    vx_Met l (ct_mt 245).1 (ai_cw (ct_mt 245) :: ft_W) (lt_rm (n + 1) 245) (fun a U => a = As.toArray ∧ U.heap = H0 ∧ ai_St D tyc A sa ct_strs ft_N U ∧ ∀ q, H0.size ≤ q → A q) (nf_Q D tyc A sa ws (mf_step r) ad nf_hr) (fun _ _ _ => False) (lt_rm (n + 1) 245).cells (lt_rm (n + 1) 245).slots A := by
  refine lh_met mf_plo (mf_Lo mf_u mf_u) (by
    have e : (ct_mt 245).2.2.1 = 3 := by decide +kernel
    rw [e]
    rfl) hWd hA (fun p e s m below meth c ls F hret hH hR => ?_)
  have hN := nf_EN.1
  have hE : ai_gE r nf_E := hR.env
  obtain ⟨bD, -⟩ := nf_dkb
  have bDK : 0 ≤ r 102 ∧ r 102 ≤ 1 := (hE.2.2.2.1 _ bD).2
  have hR := hg_cap_ok hR (t := 105) (b := (0, 999)) (by show 105 < nf_E.1; rw [hN]; omega) hg
  have no16 : ∀ q, q < 16 → ai_cell (hg_cap nf_Gr 105 (0, 999)).2.1 q = none := fun q hq => mf_no16 q hq
  have vr := mf_vro
  rcases (by omega : r 102 = 0 ∨ r 102 = 1) with hd | hd
  · have hR0 := lx_sp_ok (t := 102) (k := .ofNat 0) hR hd no16
    refine lh_ok (G := mf_Gd 0) (k0 := 0) (T := []) mf_plo F hl trivial (by omega) hPw mf_k1 hR0 (fun f hf r1 ad1 x1 x2 x3 x4 H1 locs1 ls1 st1 hR1 => ?_)
    have x1 : ai_ext nf_E.1 r r1 := x1
    have x2 : ai_ext 336 ad ad1 := by
      have : (mf_Gd 0).2.1.1 = 336 := lx_spn
      rw [this] at x2
      exact x2
    rw [hN] at x1
    unfold mf_c1 at hf
    simp only [Bool.and_eq_true] at hf
    obtain ⟨⟨e1, e2⟩, e3, e4, e5⟩ := hf
    obtain ⟨z1, z2⟩ := cy_z_ok e2
    have R1 := nf_re (fin := mf_p1 r) mf_wfo hE x1 hR1 e3 (fun t ht hp => by
      show (if 370 ≤ t ∧ t < 374 then _ else r t) = r t
      have h0 := hp (370, 322, 0) (by unfold mf_P1; simp)
      have h1 := hp (370 + 1, 322, 1) (by unfold mf_P1; simp)
      have h2 := hp (370 + 2, 322, 2) (by unfold mf_P1; simp)
      have h3 := hp (370 + 3, 322, 3) (by unfold mf_P1; simp)
      simp only at h0 h1 h2 h3
      rw [if_neg (by omega)]) (fun q hq => by
      have hj : (∃ j, j < 4 ∧ q.1 = 370 + j) ∨ q.1 = 102 := by
        unfold mf_P1 at hq
        simp only [List.mem_cons, List.not_mem_nil, or_false] at hq
        rcases hq with rfl | rfl | rfl | rfl | rfl
        · exact Or.inl ⟨0, by omega, rfl⟩
        · exact Or.inl ⟨1, by omega, rfl⟩
        · exact Or.inl ⟨2, by omega, rfl⟩
        · exact Or.inl ⟨3, by omega, rfl⟩
        · exact Or.inr rfl
      rcases hj with ⟨j, hj, ej⟩ | ej
      · rw [ej, mf_d1_ok hR1.env (nf_im (fun j X => mf_d1 f.2.2.2.1 j X) e4 hj), x1 _ (by omega), x1 _ (by omega), x1 _ (by omega), x1 _ (by omega), x1 _ (by omega), x1 _ (by omega)]
        show (if 370 ≤ 370 + j ∧ 370 + j < 374 then (if r (374 + (370 + j - 370)) = r 105 then 0 else if r 106 < 49900 ∧ 0 < r (370 + j) then ai_op 12 (r (386 + (370 + j - 370))) (ai_op 0 (r (370 + j)) (r 104)) else r (370 + j)) else r (370 + j)) = _
        rw [if_pos ⟨by omega, by omega⟩, show 370 + j - 370 = j by omega]
      · rw [ej, cx_q_ok e5]
        show (if 370 ≤ 102 ∧ 102 < 374 then _ else r 102) = r1 0 + 0
        rw [if_neg (by decide), hd, hR1.env.1]
        rfl)
    rw [Nat.eq_of_beq_eq_true e1, z1, z2]
    generalize hr1 : mf_p1 r = q1 at R1
    have R1 : ai_Rel D tyc A s sa ws (ct_mt 245).2.2.1 q1 ad1 (mf_Lo mf_u mf_u) [] nf_Gr H1 locs1 ls1 st1 := R1
    have hE1 : ai_gE q1 nf_E := R1.env
    have g1 : q1 105 = r 105 := by
      rw [← hr1]
      show (if 370 ≤ 105 ∧ 105 < 374 then _ else r 105) = r 105
      rw [if_neg (by decide)]
    refine lh_ok (G := nf_Gr) (k0 := 0) (T := []) mf_plo F hl trivial (by omega) hPw mf_k3 R1 (fun f3 hf3 r3 ad3 x9 x10 x11 x12 H3 locs3 ls3 st3 hR3 => ?_)
    have x9 : ai_ext nf_E.1 q1 r3 := x9
    have x10 : ai_ext 336 ad1 ad3 := x10
    rw [hN] at x9
    unfold mf_c3 at hf3
    simp only [Bool.and_eq_true] at hf3
    obtain ⟨⟨e1, e2⟩, e3, e4⟩ := hf3
    obtain ⟨z1, z2⟩ := cy_z_ok e2
    have R3 := nf_re (fin := mf_p3 q1) mf_wfo hE1 x9 hR3 e3 (fun t ht hp => by
      have := hp (106, 264, 92) List.mem_cons_self
      show (if t = 106 then _ else q1 t) = q1 t
      rw [if_neg (fun q => this q.symm)]) (fun q hq => by
      rcases List.mem_cons.mp hq with rfl | hq
      · rw [mf_d3_ok hR3.env e4]
        show (if 106 = 106 then _ else _) = _
        rw [if_pos rfl]
        unfold nf_mk mf_ld
        rw [x9 _ (by omega), x9 _ (by omega), x9 _ (by omega), x9 _ (by omega), x9 _ (by omega), x9 _ (by omega), x9 _ (by omega), x9 _ (by omega), x9 _ (by omega), x9 _ (by omega), x9 _ (by omega)]
      · cases hq)
    rw [Nat.eq_of_beq_eq_true e1, z1, z2]
    generalize hr3 : mf_p3 q1 = q3 at R3
    have R3 : ai_Rel D tyc A s sa ws (ct_mt 245).2.2.1 q3 ad3 (mf_Lo mf_u mf_u) [] nf_Gr H3 locs3 ls3 st3 := R3
    have hE3 : ai_gE q3 nf_E := R3.env
    have g3 : q3 105 = r 105 := by
      rw [← hr3, ← g1]
      show (if 105 = 106 then _ else q1 105) = q1 105
      rw [if_neg (by decide)]
    have bC : 0 ≤ q3 108 ∧ q3 108 ≤ 4 := (hE3.2.2.2.1 _ nf_cmb).2
    obtain ⟨k, hk⟩ : ∃ k : Nat, q3 108 = (k : Int) := ⟨(q3 108).toNat, by omega⟩
    have hk4 := List.all_eq_true.mp mf_k4 k (List.mem_range.mpr (by omega))
    have R3a := hg_cap_ok R3 (t := 105) (b := (0, 999)) (by show 105 < nf_E.1; rw [hN]; omega) (by rw [g3]; exact hg)
    have R3' := lx_sp_ok (t := 108) (k := .ofNat k) R3a hk no16
    refine lh_ok (G := lx_sp 108 (.ofNat k) (hg_cap nf_Gr 105 (0, 999))) (k0 := 0) (T := []) mf_plo F hl trivial (by omega) hPw hk4 R3' (fun f4 hf4 r4 ad4 y1 y2 y3 y4 H4 locs4 ls4 st4 hR4 => ?_)
    have y1 : ai_ext nf_E.1 q3 r4 := y1
    have y2 : ai_ext 336 ad3 ad4 := by
      have : (lx_sp 108 (.ofNat k) (hg_cap nf_Gr 105 (0, 999))).2.1.1 = 336 := lx_spn
      rw [this] at y2
      exact y2
    rw [hN] at y1
    unfold mf_c4 at hf4
    simp only [Bool.and_eq_true] at hf4
    obtain ⟨⟨e1, e2⟩, e3, e4, e5⟩ := hf4
    obtain ⟨z1, z2⟩ := cy_z_ok e2
    obtain ⟨d1, d2, d3⟩ := nf_d4_ok hR4.env e4
    have R4 := nf_re (fin := mf_p4 q3) mf_wfo hE3 y1 hR4 e3 (fun t ht hp => by
      have h1 := hp (107, 264, 93) (by unfold mf_P4; simp)
      have h2 := hp (108, 264, 94) (by unfold mf_P4; simp)
      have h3 := hp (102, 264, 88) (by unfold mf_P4; simp)
      have h4 := hp (105, 264, 91) (by unfold mf_P4; simp)
      show (if t = 107 then _ else if t = 108 then _ else if t = 102 then _ else if t = 105 then _ else q3 t) = q3 t
      rw [if_neg (fun q => h1 q.symm), if_neg (fun q => h2 q.symm), if_neg (fun q => h3 q.symm), if_neg (fun q => h4 q.symm)]) (fun q hq => by
      unfold mf_P4 at hq
      simp only [List.mem_cons, List.not_mem_nil, or_false] at hq
      rcases hq with rfl | rfl | rfl | rfl
      · show mf_p4 q3 107 = ai_vx r4 _
        rw [d1, y1 _ (by omega), y1 _ (by omega), y1 _ (by omega), y1 _ (by omega)]
        show (if 107 = 107 then _ else _) = _
        rw [if_pos rfl, hk]
        rfl
      · show mf_p4 q3 108 = ai_vx r4 _
        rw [d2, y1 _ (by omega), y1 _ (by omega)]
        show (if 108 = 107 then _ else if 108 = 108 then _ else _) = _
        rw [if_neg (by decide), if_pos rfl, hk]
      · show mf_p4 q3 102 = ai_vx r4 _
        rw [d3, y1 _ (by omega)]
        show (if 102 = 107 then _ else if 102 = 108 then _ else if 102 = 102 then _ else _) = _
        rw [if_neg (by decide), if_neg (by decide), if_pos rfl]
      · show mf_p4 q3 105 = ai_vx r4 _
        rw [cx_q_ok e5]
        show (if 105 = 107 then _ else if 105 = 108 then _ else if 105 = 102 then _ else if 105 = 105 then _ else _) = r4 105 + 1
        rw [if_neg (by decide), if_neg (by decide), if_neg (by decide), if_pos rfl, y1 _ (by omega)])
    have hst4 := nf_nil R4.stk
    subst hst4
    rw [Nat.eq_of_beq_eq_true e1, z1, z2]
    obtain ⟨hWd4, hS4, -, -⟩ := R4.wd
    refine nf_vret F mf_plo hret vr.1 hS4 ⟨Nat.zero_le _, Nat.zero_le _⟩ (fun T hT hF => ⟨rfl, ?_, hF⟩)
    rw [hT]
    have ax : ai_ext 336 ad ad4 := fun u hu => (y2 u hu).trans ((x10 u hu).trans (x2 u hu))
    refine nf_bk mf_whc rfl ax ?_
    have es : mf_step r = mf_p4 q3 := by
      unfold mf_step mf_one
      rw [if_pos hd, hr1, hr3]
    rw [es]
    exact hWd4
  · have hR0 := lx_sp_ok (t := 102) (k := .ofNat 1) hR hd no16
    refine lh_ok (G := mf_Gd 1) (k0 := 0) (T := []) mf_plo F hl trivial (by omega) hPw mf_k2 hR0 (fun f hf r1 ad1 x1 x2 x3 x4 H1 locs1 ls1 st1 hR1 => ?_)
    have x1 : ai_ext nf_E.1 r r1 := x1
    have x2 : ai_ext 336 ad ad1 := by
      have : (mf_Gd 1).2.1.1 = 336 := lx_spn
      rw [this] at x2
      exact x2
    rw [hN] at x1
    unfold mf_c2 at hf
    simp only [Bool.and_eq_true] at hf
    obtain ⟨⟨e1, e2⟩, e3, e4, e5⟩ := hf
    obtain ⟨z1, z2⟩ := cy_z_ok e2
    have R1 := nf_re (fin := nf_gn r) mf_wfo hE x1 hR1 e3 (fun t ht hp => by
      have h1 := hp (105, 264, 91) List.mem_cons_self
      show (if t = 105 then _ else r t) = r t
      rw [if_neg (fun q => h1 q.symm)]) (fun q hq => by
      rcases List.mem_cons.mp hq with rfl | hq
      · rw [cx_q_ok e4]
        show (if 105 = 105 then _ else _) = r1 105 + 1
        rw [if_pos rfl, x1 _ (by omega)]
      · rcases List.mem_cons.mp hq with rfl | hq
        · rw [cx_q_ok e5]
          show (if 102 = 105 then _ else r 102) = r1 0 + 1
          rw [if_neg (by decide), hd, hR1.env.1]
          rfl
        · cases hq)
    have hst1 := nf_nil R1.stk
    subst hst1
    rw [Nat.eq_of_beq_eq_true e1, z1, z2]
    obtain ⟨hWd1, hS1, -, -⟩ := R1.wd
    refine nf_vret F mf_plo hret vr.2 hS1 ⟨Nat.zero_le _, Nat.zero_le _⟩ (fun T hT hF => ⟨rfl, ?_, hF⟩)
    rw [hT]
    refine nf_bk mf_whc rfl x2 ?_
    have es : mf_step r = nf_gn r := by
      unfold mf_step
      rw [if_neg (by omega)]
    rw [es]
    exact hWd1
end MFC
