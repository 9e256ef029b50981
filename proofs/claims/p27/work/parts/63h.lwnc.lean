/-! the class's minute -/
noncomputable def nf_Lo : List ai_V := [.inr (.inr (some (some 193))), .inr (.inr none)]
noncomputable def nf_Gc : ai_G := (nf_E, nf_hc, 0, 0)
noncomputable def nf_c1 (f : ai_F) : Bool := (Nat.beq f.1 33 && cy_z f) && (nf_ck nf_hc [196] nf_P1 nf_Lo f && (List.range 4).all (fun j => nf_d1 f.2.2.2.1 j (cx_im (lx_jW [196] nf_P1 f) (370 + j, 0))))
noncomputable def nf_c2 (f : ai_F) : Bool := (Nat.beq f.1 46 && cy_z f) && (nf_ck nf_hc [196] nf_P1 nf_Lo f && (List.range 4).all (fun j => nf_d2 f.2.2.2.1 j (cx_im (lx_jW [196] nf_P1 f) (370 + j, 0))))
noncomputable def nf_c3 (f : ai_F) : Bool := (Nat.beq f.1 72 && cy_z f) && (nf_ck nf_hc [] nf_P3 nf_Lo f && nf_d3 f.2.2.2.1 (cx_im (lx_jW [] nf_P3 f) (106, 0)))
noncomputable def nf_c4 (k : Nat) (f : ai_F) : Bool := (Nat.beq f.1 103 && cy_z f) && (nf_ck nf_hc [] nf_P4 nf_Lo f && nf_d4 f.2.2.2.1 64 k (cx_im (lx_jW [] nf_P4 f) (107, 0)) (cx_im (lx_jW [] nf_P4 f) (108, 0)) (cx_im (lx_jW [] nf_P4 f) (102, 0)))
theorem nf_plo : lh_plain 57 = true := by decide +kernel
theorem nf_k1 : lz_chk [] 57 [33] false 0 nf_Lo [] nf_Gc nf_c1 = true := by decide +kernel
theorem nf_k2 : lz_chk [] 57 [46] false 33 nf_Lo [] nf_Gc nf_c2 = true := by decide +kernel
theorem nf_k3 : lz_chk [] 57 [72] false 46 nf_Lo [] nf_Gc nf_c3 = true := by decide +kernel
theorem nf_k4 : (List.range 5).all (fun k => lz_chk [] 57 [103] false 72 nf_Lo [] (lx_sp 108 (.ofNat k) nf_Gc) (nf_c4 k)) = true := by decide +kernel
theorem nf_wfo : nf_wf nf_hc nf_Lo = true := by decide +kernel
theorem nf_whc : sm_wh 401 nf_hc = true := by decide +kernel
theorem nf_h16 : (List.range 16).all (fun q => (ai_cell nf_hc q).isNone) = true := by decide +kernel
theorem nf_no16 : ∀ q, q < 16 → ai_cell nf_Gc.2.1 q = none := fun q hq => Option.isNone_iff_eq_none.mp (List.all_eq_true.mp nf_h16 q (List.mem_range.mpr hq))
theorem nf_cmb : (108, ((0 : Int), (4 : Int))) ∈ nf_E.2.1 := by decide +kernel
noncomputable def nf_vr (mi pc : Nat) : Bool := match ls_code mi pc with
  | some (i, _, _, _) => (match i with
    | .return_ => true
    | _ => false)
  | none => false
theorem nf_vr_ok {mi pc : Nat} (h : nf_vr mi pc = true) : ∃ len a b, ls_code mi pc = some (.return_, len, a, b) := by
  unfold nf_vr at h
  split at h
  · rename_i i len a b ec
    split at h
    · exact ⟨len, a, b, ec⟩
    · cases h
  · cases h
theorem nf_vro : nf_vr 57 103 = true := by decide +kernel
noncomputable def nf_one (r : Nat → Int) : Nat → Int := nf_p4 (nf_p3 (nf_p2 (nf_p1 r)))
noncomputable def nf_Q (D : va_G) (tyc : Nat → ClassId) (A : Nat → Prop) (sa : ai_B) (ws : va_W) (r2 : Nat → Int) (ad : Nat → Nat) (h0 : ai_H) : Array Value → State → Outcome → State → Prop :=
  fun _ s u T => u = .returned none ∧ ai_Wd D tyc A sa ws r2 ad (nf_E, h0, 0, 0) T.heap ∧ va_F A s T
noncomputable def nf_Qi (D : va_G) (tyc : Nat → ClassId) (A : Nat → Prop) (sa : ai_B) (ws : va_W) (r2 : Nat → Int) (ad : Nat → Nat) (h0 : ai_H) (x : Int) : Array Value → State → Outcome → State → Prop :=
  fun _ s u T => ∃ i : Int32, u = .returned (some (.int i)) ∧ i.toInt = x ∧ ai_Wd D tyc A sa ws r2 ad (nf_E, h0, 0, 0) T.heap ∧ va_F A s T
section NFC
variable {p : Program} {l : Launch} {e : Env} {s : State} {m : MethodId} {args : Array Value} {below : List Frame} {meth : Method} {c : Code}
variable {D : va_G} {tyc : Nat → ClassId} {A : Nat → Prop} {sa : ai_B} {ws : va_W} {mi n pc nL : Nat}
variable {L L0 : List ai_V} {G : ai_G} {r r' : Nat → Int} {ad ad' : Nat → Nat} {H : Heap} {locs : List Loc} {ls : Array Slot} {st : List Value}
/-- a return without a value -/
theorem nf_vret {cs sl : Nat} {Qc : Array Value → State → Outcome → State → Prop} {XC : String → State → State → Prop} (F : ls_Fr p (lt_rm (n + 1) mi) s m args meth c D tyc A sa mi) (hpl : lh_plain mi = true) (hret : meth.sig.returnType = (ct_mt mi).2.2.2.1) (hir : nf_vr mi pc = true) (hS : va_S A s.heap H locs) (hcs : cs ≤ (lt_rm (n + 1) mi).cells ∧ sl ≤ (lt_rm (n + 1) mi).slots)
    (hQ : ∀ t : State, t.heap = H → va_F A s t → Qc args s (.returned none) t) :
    W p l e (lt_rm (n + 1) mi) s m args below meth c H locs cs sl (vx_MQ below Qc XC args s (lt_rm (n + 1) mi).cells (lt_rm (n + 1) mi).slots A) (F0 m pc ls []) := by
  unfold lh_plain at hpl
  simp only [Bool.and_eq_true, Bool.not_eq_true'] at hpl
  obtain ⟨p1, p3⟩ := hpl
  obtain ⟨mok, htab⟩ := ls_known p1
  rw [p3] at htab
  obtain ⟨len, a, b, ec⟩ := nf_vr_ok hir
  obtain ⟨d1, -, -, d4, -⟩ := htab _ _ _ _ _ ec
  obtain ⟨rfl, w1⟩ := d4
  obtain ⟨hx, hb, hml, hts, hown, hSt0, hA, hbud, hcls, hroom, hlocks⟩ := F
  exact W.widen hcs.1 hcs.2 (vx_ret (W.vret hx hb (hret.trans w1) (fun t ht _ => hQ t ht (hS.F ht)) hS.2.2 d1 hlocks))
/-- the few cells under other addresses that are the same -/
theorem nf_bk {h0 : ai_H} (hw : sm_wh 401 h0 = true) (h336 : h0.1 = 336) (hx : ai_ext 336 ad ad') (q : ai_Wd D tyc A sa ws r ad' (nf_E, h0, 0, 0) H) : ai_Wd D tyc A sa ws r ad (nf_E, h0, 0, 0) H := by
  have hw' : sm_wh nf_E.1 h0 = true := by rw [nf_EN.1]; exact hw
  exact fn_trW hw' ai_ext.rfl' (fn_rev (by rw [h336]; exact hx)) (Nat.le_refl _) q.env q
theorem nf_im {C : List Nat} {P : List (Nat × Nat × Nat)} {f : ai_F} {j : Nat} (chk : Nat → ai_X → Bool) (h : (List.range 4).all (fun j => chk j (cx_im (lx_jW C P f) (370 + j, 0))) = true) (hj : j < 4) : chk j (cx_im (lx_jW C P f) (370 + j, 0)) = true := List.all_eq_true.mp h j (List.mem_range.mpr hj)
theorem nf_P1t {t : Nat} (h : ∀ p ∈ nf_P1, p.1 ≠ t) : ¬ (370 ≤ t ∧ t < 374) := fun q => by
  have h0 := h (370, 196, 0) (by unfold nf_P1; simp)
  have h1 := h (370 + 1, 196, 1) (by unfold nf_P1; simp)
  have h2 := h (370 + 2, 196, 2) (by unfold nf_P1; simp)
  have h3 := h (370 + 3, 196, 3) (by unfold nf_P1; simp)
  simp only at h0 h1 h2 h3
  omega
theorem nf_P1j {q : Nat × Nat × Nat} (h : q ∈ nf_P1) : ∃ j, j < 4 ∧ q.1 = 370 + j := by
  unfold nf_P1 at h
  simp only [List.mem_cons, List.not_mem_nil, or_false] at h
  rcases h with rfl | rfl | rfl | rfl
  · exact ⟨0, by omega, rfl⟩
  · exact ⟨1, by omega, rfl⟩
  · exact ⟨2, by omega, rfl⟩
  · exact ⟨3, by omega, rfl⟩
set_option maxHeartbeats 4000000 in
theorem nf_passOne {H0 : Heap} {As : List Value} (hn : 4 ≤ n) (hl : l.stackTraces = false) (hPw : ai_Pw tyc ws) (hWd : ai_Wd D tyc A sa ws r ad nf_Gc H0) (hA : ai_gF r ad nf_Gc.1.1 nf_Gc.2.1.1 [.inr (.inr (some (some 193)))] As) :
    vx_Met l (ct_mt 57).1 (ai_cw (ct_mt 57) :: ft_W) (lt_rm (n + 1) 57) (fun a U => a = As.toArray ∧ U.heap = H0 ∧ ai_St D tyc A sa ct_strs ft_N U ∧ ∀ q, H0.size ≤ q → A q) (nf_Q D tyc A sa ws (nf_one r) ad nf_hc) (fun _ _ _ => False) (lt_rm (n + 1) 57).cells (lt_rm (n + 1) 57).slots A := by
  refine lh_met nf_plo nf_Lo (by
    have e : (ct_mt 57).2.2.1 = 2 := by decide +kernel
    rw [e]
    rfl) hWd hA (fun p e s m below meth c ls F hret hH hR => ?_)
  have hN := nf_EN.1
  have hE : ai_gE r nf_E := hR.env
  refine lh_ok (G := nf_Gc) (k0 := 0) (T := []) nf_plo F hl trivial (by omega) hPw nf_k1 hR (fun f hf r1 ad1 x1 x2 x3 x4 H1 locs1 ls1 st1 hR1 => ?_)
  have x1 : ai_ext nf_E.1 r r1 := x1
  have x2 : ai_ext 336 ad ad1 := x2
  rw [hN] at x1
  unfold nf_c1 at hf
  simp only [Bool.and_eq_true] at hf
  obtain ⟨⟨e1, e2⟩, e3, e4⟩ := hf
  obtain ⟨z1, z2⟩ := cy_z_ok e2
  have s1 : f.2.2.1 = [] := by
    unfold nf_ck at e3
    split at e3
    · rw [Bool.and_eq_true] at e3
      exact List.isEmpty_iff.mp e3.2
    · cases e3
  have R1 := nf_re (fin := nf_p1 r) nf_wfo hE x1 hR1 e3 (fun t ht hp => by
    show (if 370 ≤ t ∧ t < 374 then _ else r t) = r t
    rw [if_neg (nf_P1t hp)]) (fun q hq => by
    obtain ⟨j, hj, ej⟩ := nf_P1j hq
    rw [ej, nf_d1_ok hR1.env (nf_im (fun j X => nf_d1 f.2.2.2.1 j X) e4 hj), x1 _ (by omega), x1 _ (by omega), x1 _ (by omega)]
    show (if 370 ≤ 370 + j ∧ 370 + j < 374 then (if r (374 + (370 + j - 370)) = r 105 then 0 else r (370 + j)) else r (370 + j)) = _
    rw [if_pos ⟨by omega, by omega⟩, show 370 + j - 370 = j by omega])
  rw [Nat.eq_of_beq_eq_true e1, z1, z2]
  generalize hr1 : nf_p1 r = q1 at R1
  have R1 : ai_Rel D tyc A s sa ws (ct_mt 57).2.2.1 q1 ad1 nf_Lo [] nf_Gc H1 locs1 ls1 st1 := R1
  have hE1 : ai_gE q1 nf_E := R1.env
  refine lh_ok (G := nf_Gc) (k0 := 0) (T := []) nf_plo F hl trivial (by omega) hPw nf_k2 R1 (fun f2 hf2 r2 ad2 x5 x6 x7 x8 H2 locs2 ls2 st2 hR2 => ?_)
  have x5 : ai_ext nf_E.1 q1 r2 := x5
  have x6 : ai_ext 336 ad1 ad2 := x6
  rw [hN] at x5
  unfold nf_c2 at hf2
  simp only [Bool.and_eq_true] at hf2
  obtain ⟨⟨e1, e2⟩, e3, e4⟩ := hf2
  obtain ⟨z1, z2⟩ := cy_z_ok e2
  have R2 := nf_re (fin := nf_p2 q1) nf_wfo hE1 x5 hR2 e3 (fun t ht hp => by
    show (if 370 ≤ t ∧ t < 374 then _ else q1 t) = q1 t
    rw [if_neg (nf_P1t hp)]) (fun q hq => by
    obtain ⟨j, hj, ej⟩ := nf_P1j hq
    rw [ej, nf_d2_ok hR2.env (nf_im (fun j X => nf_d2 f2.2.2.2.1 j X) e4 hj), x5 _ (by omega), x5 _ (by omega), x5 _ (by omega), x5 _ (by omega), x5 _ (by omega)]
    show (if 370 ≤ 370 + j ∧ 370 + j < 374 then (if q1 106 < 49900 ∧ (((370 + j - 370 : Nat) : Int) + 1 ≤ q1 110 ∧ 0 < q1 (370 + j)) then ai_op 12 (q1 (146 + (370 + j - 370))) (ai_op 0 (q1 (370 + j)) (q1 104)) else q1 (370 + j)) else q1 (370 + j)) = _
    rw [if_pos ⟨by omega, by omega⟩, show 370 + j - 370 = j by omega])
  rw [Nat.eq_of_beq_eq_true e1, z1, z2]
  generalize hr2 : nf_p2 q1 = q2 at R2
  have R2 : ai_Rel D tyc A s sa ws (ct_mt 57).2.2.1 q2 ad2 nf_Lo [] nf_Gc H2 locs2 ls2 st2 := R2
  have hE2 : ai_gE q2 nf_E := R2.env
  refine lh_ok (G := nf_Gc) (k0 := 0) (T := []) nf_plo F hl trivial (by omega) hPw nf_k3 R2 (fun f3 hf3 r3 ad3 x9 x10 x11 x12 H3 locs3 ls3 st3 hR3 => ?_)
  have x9 : ai_ext nf_E.1 q2 r3 := x9
  have x10 : ai_ext 336 ad2 ad3 := x10
  rw [hN] at x9
  unfold nf_c3 at hf3
  simp only [Bool.and_eq_true] at hf3
  obtain ⟨⟨e1, e2⟩, e3, e4⟩ := hf3
  obtain ⟨z1, z2⟩ := cy_z_ok e2
  have R3 := nf_re (fin := nf_p3 q2) nf_wfo hE2 x9 hR3 e3 (fun t ht hp => by
    have := hp (106, 193, 2) List.mem_cons_self
    show (if t = 106 then _ else q2 t) = q2 t
    rw [if_neg (fun q => this q.symm)]) (fun q hq => by
    rcases List.mem_cons.mp hq with rfl | hq
    · rw [nf_d3_ok hR3.env e4]
      show (if 106 = 106 then _ else _) = _
      rw [if_pos rfl]
      unfold nf_mk nf_ld
      rw [x9 _ (by omega), x9 _ (by omega), x9 _ (by omega), x9 _ (by omega), x9 _ (by omega), x9 _ (by omega), x9 _ (by omega), x9 _ (by omega), x9 _ (by omega), x9 _ (by omega)]
    · cases hq)
  rw [Nat.eq_of_beq_eq_true e1, z1, z2]
  generalize hr3 : nf_p3 q2 = q3 at R3
  have R3 : ai_Rel D tyc A s sa ws (ct_mt 57).2.2.1 q3 ad3 nf_Lo [] nf_Gc H3 locs3 ls3 st3 := R3
  have hE3 : ai_gE q3 nf_E := R3.env
  have bC : 0 ≤ q3 108 ∧ q3 108 ≤ 4 := (hE3.2.2.2.1 _ nf_cmb).2
  obtain ⟨k, hk⟩ : ∃ k : Nat, q3 108 = (k : Int) := ⟨(q3 108).toNat, by omega⟩
  have hk4 := List.all_eq_true.mp nf_k4 k (List.mem_range.mpr (by omega))
  have R3' := lx_sp_ok (t := 108) (k := .ofNat k) R3 hk nf_no16
  refine lh_ok (G := lx_sp 108 (.ofNat k) nf_Gc) (k0 := 0) (T := []) nf_plo F hl trivial (by omega) hPw hk4 R3' (fun f4 hf4 r4 ad4 y1 y2 y3 y4 H4 locs4 ls4 st4 hR4 => ?_)
  have y1 : ai_ext nf_E.1 q3 r4 := y1
  have y2 : ai_ext 336 ad3 ad4 := by
    have : (lx_sp 108 (.ofNat k) nf_Gc).2.1.1 = 336 := lx_spn
    rw [this] at y2
    exact y2
  rw [hN] at y1
  unfold nf_c4 at hf4
  simp only [Bool.and_eq_true] at hf4
  obtain ⟨⟨e1, e2⟩, e3, e4⟩ := hf4
  obtain ⟨z1, z2⟩ := cy_z_ok e2
  obtain ⟨d1, d2, d3⟩ := nf_d4_ok hR4.env e4
  have R4 := nf_re (fin := nf_p4 q3) nf_wfo hE3 y1 hR4 e3 (fun t ht hp => by
    have h1 := hp (107, 193, 4) (by unfold nf_P4; simp)
    have h2 := hp (108, 193, 9) (by unfold nf_P4; simp)
    have h3 := hp (102, 193, 1) (by unfold nf_P4; simp)
    show (if t = 107 then _ else if t = 108 then _ else if t = 102 then _ else q3 t) = q3 t
    rw [if_neg (fun q => h1 q.symm), if_neg (fun q => h2 q.symm), if_neg (fun q => h3 q.symm)]) (fun q hq => by
    unfold nf_P4 at hq
    simp only [List.mem_cons, List.not_mem_nil, or_false] at hq
    rcases hq with rfl | rfl | rfl
    · show nf_p4 q3 107 = ai_vx r4 _
      rw [d1, y1 _ (by omega), y1 _ (by omega), y1 _ (by omega), y1 _ (by omega)]
      show (if 107 = 107 then _ else _) = _
      rw [if_pos rfl, hk]
      rfl
    · show nf_p4 q3 108 = ai_vx r4 _
      rw [d2, y1 _ (by omega), y1 _ (by omega)]
      show (if 108 = 107 then _ else if 108 = 108 then _ else _) = _
      rw [if_neg (by decide), if_pos rfl, hk]
    · show nf_p4 q3 102 = ai_vx r4 _
      rw [d3, y1 _ (by omega)]
      show (if 102 = 107 then _ else if 102 = 108 then _ else if 102 = 102 then _ else _) = _
      rw [if_neg (by decide), if_neg (by decide), if_pos rfl])
  have hst4 : st4 = [] := by
    have := R4.stk
    cases st4 with
    | nil => rfl
    | cons a b => exact this.elim
  subst hst4
  rw [Nat.eq_of_beq_eq_true e1, z1, z2]
  obtain ⟨hWd4, hS4, -, -⟩ := R4.wd
  refine nf_vret F nf_plo hret nf_vro hS4 ⟨Nat.zero_le _, Nat.zero_le _⟩ (fun T hT hF => ⟨rfl, ?_, hF⟩)
  rw [hT]
  have ax : ai_ext 336 ad ad4 := fun u hu => (y2 u hu).trans ((x10 u hu).trans ((x6 u hu).trans (x2 u hu)))
  refine nf_bk nf_whc rfl ax ?_
  show ai_Wd D tyc A sa ws (nf_p4 (nf_p3 (nf_p2 (nf_p1 r)))) ad4 (nf_E, nf_hc, 0, 0) H4
  rw [hr1, hr2, hr3]
  exact hWd4
end NFC
