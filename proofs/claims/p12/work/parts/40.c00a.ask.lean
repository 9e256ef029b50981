/-! CONTRACTS BY HAND: ask; its codes are left alone -/
/-- the length of an array that the domain leaves alone -/
theorem aka_len {p : Program} {l : Launch} {e : Env} {R : Room} {s : State} {m : MethodId} {args : Array Value} {below : List Frame} {meth : Method} {c : Code} {Q : State → Prop} {D : va_G} {tyc : Nat → ClassId} {A : Nat → Prop} {sa : ai_B} {ws0 : va_W} {nL : Nat} {cc : ByteArray} {own : String} {Ts : List Cond} {strs : List ai_Z} {nws : List Cond} {bud : Nat × Nat} {dflt : Nat → List ai_V} {kind : Nat → Nat → Nat}
    {r : Nat → Int} {ad : Nat → Nat} {L S : List ai_V} {G : ai_G} {H : Heap} {locs : List Loc} {ls : Array Slot} {st : List Value} {pc : Nat}
    (F : ai_Fr p R s m args meth c D tyc A sa nL cc own Ts strs nws bud dflt kind) (hdg : decode cc pc = .ok (.arraylength, 1)) {q n : Nat} {f : Nat → Int32} (hR : ai_Rel D tyc A s sa ws0 nL r ad L (.inr (.inr (some (some q))) :: S) G H locs ls st)
    (hq : 16 ≤ q) (hc : ai_cell G.2.1 q = none) (hf : hg_ia tyc ws0 q n f) (hn : n < 1000000)
    (k : ∀ (st' : List Value), ai_Rel D tyc A s sa ws0 nL r ad L (.inl (0, .ofNat n) :: S) G H locs ls st' → W p l e R s m args below meth c H locs G.2.2.1 G.2.2.2 Q (F0 m (pc + 1) ls st')) :
    W p l e R s m args below meth c H locs G.2.2.1 G.2.2.2 Q (F0 m pc ls st) := by
  obtain ⟨hx', hbb, -, -, -, hSt0, -⟩ := F
  have hE : ai_gE r G.1 := hR.env
  obtain ⟨hWd, hS, hLL, hSt⟩ := hR.wd
  obtain ⟨t, rfl, hqn, h2⟩ := ai_gF.ref hSt
  obtain ⟨a, hw⟩ := hf
  obtain ⟨ws1, hP, hD, -, hH, -, -⟩ := hWd
  have hw2 : ws1[q - 16]? = some (a, .inl (tyc 0, n, .inl f)) := by
    rw [hH.2.2.2 (q - 16) (by omega) (by rw [show q - 16 + 16 = q by omega]; exact hc)]
    exact hw
  have ha : a = ad q := by
    have := hH.2.1 _ _ hw2
    rw [show q - 16 + 16 = q by omega] at this
    exact this
  subst ha
  have hv : (Int32.ofNat n).toInt = ai_vx r (0, Int.ofNat n) := by
    show (nI n).toInt = r 0 + (n : Int)
    rw [nI_toInt (by omega), hE.1]
    omega
  refine va_alen hx' hbb hSt0.1 hP (q - 16) 0 hw2 rfl rfl hdg ?_
  exact k (.int (Int32.ofNat n) :: t) (hR.wd.1.rel hS hLL ⟨⟨hE.2.1, Int32.ofNat n, rfl, hv⟩, h2⟩)
noncomputable def aka_C (v : Nat) : us_C := match v with
  | 0 => cn_ask0
  | 1 => cn_ask1
  | 2 => cn_ask2
  | _ => cn_ask3
noncomputable def aka_T (v : Nat) : List (Nat × us_C) := match v with
  | 0 => [(69, cn_pull0), (66, cn_step0)]
  | 1 => [(69, cn_pull1), (66, cn_step1)]
  | 2 => [(69, cn_pull2), (66, cn_step2)]
  | _ => [(69, cn_pull3), (66, cn_step3)]
theorem aka_Tok (v : Nat) : lt_all 5 (aka_T v) := match v with
  | 0 => ⟨cp_pull0.mono (by decide), cp_step0.mono (by decide), trivial⟩
  | 1 => ⟨cp_pull1.mono (by decide), cp_step1.mono (by decide), trivial⟩
  | 2 => ⟨cp_pull2.mono (by decide), cp_step2.mono (by decide), trivial⟩
  | _ + 3 => ⟨cp_pull3.mono (by decide), cp_step3.mono (by decide), trivial⟩
noncomputable def aka_E : ai_E := sm_E (1, [], []) cn_ask0.1
noncomputable def aka_h (v : Nat) : ai_H := (aka_C v).2.2.1
noncomputable def aka_W (v : Nat) : List sm_W := (aka_C v).2.2.2
noncomputable def aka_hH (v : Nat) : ai_H := match aka_W v with
  | w :: _ => w.2.2
  | [] => aka_h v
abbrev aka_u : ai_V := .inr (.inr none)
abbrev aka_r (q : Nat) : ai_V := .inr (.inr (some (some q)))
noncomputable def aka_L (v : Nat) (x y z : ai_V) : List ai_V := [aka_r (46 + 6 * v), .inl (1, 0), x, y, z]
noncomputable def aka_nb : List (Int × Int) := [(0, 48), cb_i, (0, 200)]
noncomputable def aka_LH (v : Nat) : List ai_V := aka_L v (.inl (5, 0)) (.inl (6, 0)) aka_u
noncomputable def aka_G0 (v : Nat) : ai_G := (aka_E, aka_h v, 0, 0)
noncomputable def aka_G (v : Nat) : ai_G := (sm_E aka_E aka_nb, aka_hH v, 0, 0)
noncomputable def aka_chk (v : Nat) (stop : List Nat) (pc : Nat) (L S : List ai_V) (G : ai_G) (P : ai_F → Bool) : Bool := match ls_sg (aka_T v) 65 stop false pc L S G with
  | some fs => fs.all P
  | none => false
noncomputable def aka_in (pc v : Nat) (f : ai_F) : Bool := Nat.beq f.1 pc && (Nat.ble 4 f.2.2.2.1.1 && (Nat.beq f.2.2.2.2.1.1 336 && (Nat.beq f.2.2.2.2.2.1 0 && (Nat.beq f.2.2.2.2.2.2 0 && (ai_cell f.2.2.2.2.1 (47 + 6 * v)).isNone))))
theorem aka_inok {pc v : Nat} {f : ai_F} (h : aka_in pc v f = true) : f.1 = pc ∧ 4 ≤ f.2.2.2.1.1 ∧ f.2.2.2.2.1.1 = 336 ∧ f.2.2.2.2.2.1 = 0 ∧ f.2.2.2.2.2.2 = 0 ∧ ai_cell f.2.2.2.2.1 (47 + 6 * v) = none := by
  unfold aka_in at h
  simp only [Bool.and_eq_true, Option.isNone_iff_eq_none] at h
  obtain ⟨h1, h2, h3, h4, h5, h6⟩ := h
  exact ⟨Nat.eq_of_beq_eq_true h1, Nat.le_of_ble_eq_true h2, Nat.eq_of_beq_eq_true h3, Nat.eq_of_beq_eq_true h4, Nat.eq_of_beq_eq_true h5, h6⟩
noncomputable def aka_fin (v pc : Nat) (f : ai_F) : Bool := aka_in pc v f && ls_fin (aka_T v) 65 [] aka_E (aka_W v) pc f.2.1 f.2.2.1 f.2.2.2
noncomputable def aka_hd (v : Nat) (x : ai_X) (g : ai_F) : Bool := (aka_in 30 v g && decide (g.2.2.1 = [])) && (hw_sub aka_E aka_nb (aka_hH v) (aka_LH v) [] g.2.1 [] g.2.2.2 && decide (ai_lget g.2.1 3 = .inl x))
noncomputable def aka_a (v : Nat) (f : ai_F) : Bool := aka_fin v 13 f || aka_hd v (0, 0) f
noncomputable def aka_d (v : Nat) (i : ai_F) : Bool := aka_fin v 70 i || aka_hd v (6, 1) i
noncomputable def aka_c (v : Nat) (g : ai_F) : Bool := aka_fin v 100 g || ((aka_in 52 v g && decide (g.2.2.1 = [.inl (6, 0), aka_r (47 + 6 * v)])) && ((Nat.blt 6 g.2.2.2.1.1 && decide ((6, ((0 : Int), (199 : Int))) ∈ g.2.2.2.1.2.1)) && aka_chk v [30, 70] 53 g.2.1 [.inl (g.2.2.2.1.1, 0)] (hg_new g.2.2.2 (ai_lo32, ai_hi32)) (aka_d v)))
noncomputable def aka_b (v : Nat) (f : ai_F) : Bool := aka_fin v 100 f || ((aka_in 43 v f && decide (f.2.2.1 = [aka_r (47 + 6 * v), .inl (6, 0)])) && (Nat.blt 6 f.2.2.2.1.1 && aka_chk v [52, 100] 44 f.2.1 [.inl (0, .ofNat 200), .inl (6, 0)] f.2.2.2 (aka_c v)))
theorem aka_pl : ls_plain 65 = true := by decide +kernel
theorem aka_k1 : ∀ v, v < 4 → aka_chk v [13, 30] 0 (aka_L v aka_u aka_u aka_u) [] (aka_G0 v) (aka_a v) = true := by decide +kernel
theorem aka_k2 : ∀ v, v < 4 → aka_chk v [43, 100] 30 (aka_LH v) [] (aka_G v) (aka_b v) = true := by decide +kernel
theorem aka_N : aka_E.1 = 4 ∧ aka_E.2.2 = [] ∧ (∀ v, v < 4 → (aka_h v).1 = 336 ∧ (aka_hH v).1 = 336) ∧ (sm_E aka_E aka_nb).1 = 7 := ⟨by decide +kernel, by decide +kernel, by decide +kernel, by decide +kernel⟩
theorem aka_dc : decode (ct_mt 65).2.1 43 = .ok (.arraylength, 1) ∧ decode (ct_mt 65).2.1 52 = .ok (.iaload, 1) := by decide +kernel
theorem aka_x : ∀ v, v < 4 → (31 + 6 * v, 200) ∈ ai_xs := by decide
theorem aka_no : ∀ v, v < 4 → (ai_cell (aka_h v) (47 + 6 * v)).isNone = true := by decide +kernel
section AKA
variable {p : Program} {l : Launch} {e : Env} {s : State} {m : MethodId} {args : Array Value} {below : List Frame} {meth : Method} {c : Code} {Q : State → Prop}
variable {D : va_G} {tyc : Nat → ClassId} {A : Nat → Prop} {sa : ai_B} {ws0 : va_W} {v : Nat} {r : Nat → Int} {ad : Nat → Nat}
theorem aka_chk_ok {stop : List Nat} {pc : Nat} {L S : List ai_V} {G : ai_G} {P : ai_F → Bool} {H : Heap} {locs : List Loc} {ls : Array Slot} {st : List Value} (F : ls_Fr p (lt_rm (5 + 1) 65) s m args meth c D tyc A sa 65) (hl : l.stackTraces = false) (hPw : ai_Pw tyc ws0)
    (h : aka_chk v stop pc L S G P = true) (h0 : G.2.2 = (0, 0)) (hR : ai_Rel D tyc A s sa ws0 (ct_mt 65).2.2.1 r ad L S G H locs ls st)
    (k : ∀ f, P f = true → ls_K p l e (lt_rm (5 + 1) 65) s m args below meth c Q D tyc A sa ws0 (ct_mt 65).2.2.1 r ad G f) :
    W p l e (lt_rm (5 + 1) 65) s m args below meth c H locs 0 0 Q (F0 m pc ls st) := by
  unfold aka_chk at h
  split at h
  · rename_i fs ef
    have := ls_ok (n := 5) (T := aka_T v) (Q := Q) (below := below) (e := e) aka_pl F hl (aka_Tok v) hPw ef hR (fun f hf => k f (List.all_eq_true.mp h f hf))
    rw [h0] at this
    exact this
  · cases h
abbrev aka_Q (v : Nat) (below : List Frame) (D : va_G) (tyc : Nat → ClassId) (A : Nat → Prop) (sa : ai_B) (ws0 : va_W) (r : Nat → Int) (ad : Nat → Nat) (args : Array Value) (s : State) : State → Prop := vx_MQ below (ai_Qc D tyc A sa ws0 r ad aka_E.1 336 ((aka_W v).map (sm_out aka_E))) (ai_XC D tyc A sa ws0 r ad aka_E.1 336 ((aka_W v).map (sm_out aka_E))) args s (lt_rm (5 + 1) 65).cells (lt_rm (5 + 1) 65).slots A
theorem aka_fin_ok {pc : Nat} {f : ai_F} {r' : Nat → Int} {ad' : Nat → Nat} {H : Heap} {locs : List Loc} {ls : Array Slot} {st : List Value} (F : ls_Fr p (lt_rm (5 + 1) 65) s m args meth c D tyc A sa 65) (hl : l.stackTraces = false) (hret : meth.sig.returnType = (ct_mt 65).2.2.2.1) (htb : ∀ x ∈ c.exceptionTable.toList, False) (hPw : ai_Pw tyc ws0) (hE : ai_gE r aka_E)
    (h : aka_fin v pc f = true) (hR : ai_Rel D tyc A s sa ws0 (ct_mt 65).2.2.1 r' ad' f.2.1 f.2.2.1 f.2.2.2 H locs ls st) (hx : ai_ext 4 r r') (hax : ai_ext 336 ad ad') :
    W p l e (lt_rm (5 + 1) 65) s m args below meth c H locs f.2.2.2.2.2.1 f.2.2.2.2.2.2 (aka_Q v below D tyc A sa ws0 r ad args s) (F0 m f.1 ls st) := by
  unfold aka_fin at h
  rw [Bool.and_eq_true] at h
  obtain ⟨d1, d2, d3, d4, d5, d6⟩ := aka_inok h.1
  obtain ⟨N1, N2, N3, N4⟩ := aka_N
  rw [d1]
  exact ls_fin_ok (T := aka_T v) (n := 5) (r0 := r) (ad0 := ad) (n0 := 336) aka_pl F hl hret htb (aka_Tok v) hPw hE N2 h.2 hR (by rw [N1]; exact hx) hax (by rw [N1]; exact d2) (by rw [d3]; exact Nat.le_refl _)
theorem aka_loop (hv : v < 4) (F : ls_Fr p (lt_rm (5 + 1) 65) s m args meth c D tyc A sa 65) (hl : l.stackTraces = false) (hret : meth.sig.returnType = (ct_mt 65).2.2.2.1) (htb : ∀ x ∈ c.exceptionTable.toList, False) (hPw : ai_Pw tyc ws0) (hE : ai_gE r aka_E) {f0 : Nat → Int32} (hf0 : hg_ia tyc ws0 (47 + 6 * v) 200 f0) :
    ∀ (d : Nat) (r' : Nat → Int) (ad' : Nat → Nat) (H : Heap) (locs : List Loc) (ls : Array Slot) (st : List Value), (200 - r' 6).toNat = d → ai_Rel D tyc A s sa ws0 (ct_mt 65).2.2.1 r' ad' (aka_LH v) [] (aka_G v) H locs ls st → ai_ext 4 r r' → ai_ext 336 ad ad' →
      W p l e (lt_rm (5 + 1) 65) s m args below meth c H locs 0 0 (aka_Q v below D tyc A sa ws0 r ad args s) (F0 m 30 ls st) := by
  intro d
  induction d using Nat.strongRecOn with
  | _ d ih =>
    intro r' ad' H locs ls st hd hR hx hax
    obtain ⟨N1, N2, N3, N4⟩ := aka_N
    obtain ⟨n3, n4⟩ := N3 v hv
    obtain ⟨D1, D2⟩ := aka_dc
    refine aka_chk_ok F hl hPw (aka_k2 v hv) rfl hR (fun f hf => ?_)
    intro r1 ad1 x1 x2 x3 x4 H1 locs1 ls1 st1 hR1
    have x1 : ai_ext 7 r' r1 := by
      have e : (aka_G v).1.1 = 7 := N4
      rw [e] at x1
      exact x1
    have x2 : ai_ext 336 ad' ad1 := by
      have e : (aka_G v).2.1.1 = 336 := n4
      rw [e] at x2
      exact x2
    unfold aka_b at hf
    rw [Bool.or_eq_true] at hf
    rcases hf with hf | hf
    · exact aka_fin_ok F hl hret htb hPw hE hf hR1 (fun u hu => (x1 u (by omega)).trans (hx u hu)) (fun u hu => (x2 u hu).trans (hax u hu))
    simp only [Bool.and_eq_true, decide_eq_true_eq] at hf
    obtain ⟨⟨c1, c2⟩, c3, c4⟩ := hf
    have c3 := Nat.le_of_ble_eq_true c3
    obtain ⟨d1, d2, d3, d4, d5, d6⟩ := aka_inok c1
    rw [c2] at hR1
    have g0 : f.2.2.2.2.2 = (0, 0) := Prod.ext d4 d5
    rw [d1]
    refine aka_len F D1 hR1 (by omega) d6 hf0 (by omega) (fun st2 hR2 => ?_)
    rw [d4, d5]
    refine aka_chk_ok F hl hPw c4 g0 hR2 (fun g hg => ?_)
    intro r3 ad3 z1 z2 z3 z4 H3 locs3 ls3 st3 hR3
    have z1 : ai_ext 7 r1 r3 := z1.mono c3
    have z2 : ai_ext 336 ad1 ad3 := z2.mono (by rw [d3]; exact Nat.le_refl _)
    have hx3 : ai_ext 7 r' r3 := fun u hu => (z1 u hu).trans (x1 u hu)
    have hx30 : ai_ext 4 r r3 := fun u hu => (hx3 u (by omega)).trans (hx u hu)
    have hax3 : ai_ext 336 ad ad3 := fun u hu => (z2 u hu).trans ((x2 u hu).trans (hax u hu))
    unfold aka_c at hg
    rw [Bool.or_eq_true] at hg
    rcases hg with hg | hg
    · exact aka_fin_ok F hl hret htb hPw hE hg hR3 hx30 hax3
    simp only [Bool.and_eq_true, decide_eq_true_eq] at hg
    obtain ⟨⟨e1, e2⟩, ⟨e3, e4⟩, e5⟩ := hg
    have e3 := Nat.le_of_ble_eq_true e3
    obtain ⟨i1, i2, i3, i4, i5, i6⟩ := aka_inok e1
    have g1 : g.2.2.2.2.2 = (0, 0) := Prod.ext i4 i5
    rw [e2] at hR3
    have hb := (hR3.env.2.2.2.1 _ e4).2
    have hb1 : (0 : Int) ≤ r3 6 := hb.1
    have hb2 : r3 6 ≤ 199 := hb.2
    rw [i1]
    refine hg_iald F D2 (j := (r3 6).toNat) (b := (ai_lo32, ai_hi32)) hR3 (by omega) i6 hf0 (by omega) (by show r3 6 + 0 = ((r3 6).toNat : Int); omega) (ai_i32 _) (fun r4 st4 w1 w2 hR4 => ?_)
    rw [i4, i5]
    have w1 : ai_ext 7 r3 r4 := w1.mono e3
    refine aka_chk_ok F hl hPw e5 g1 hR4 (fun i hi => ?_)
    intro r5 ad5 u1 u2 u3 u4 H5 locs5 ls5 st5 hR5
    have u1 : ai_ext 7 r4 r5 := u1.mono (by show 7 ≤ g.2.2.2.1.1 + 1; omega)
    have u2 : ai_ext 336 ad3 ad5 := u2.mono (by show 336 ≤ g.2.2.2.2.1.1; omega)
    have hx5 : ai_ext 7 r3 r5 := fun u hu => (u1 u hu).trans (w1 u hu)
    have hx50 : ai_ext 4 r r5 := fun u hu => (hx5 u (by omega)).trans (hx30 u hu)
    have hax5 : ai_ext 336 ad ad5 := fun u hu => (u2 u hu).trans (hax3 u hu)
    unfold aka_d at hi
    rw [Bool.or_eq_true] at hi
    rcases hi with hi | hi
    · exact aka_fin_ok F hl hret htb hPw hE hi hR5 hx50 hax5
    unfold aka_hd at hi
    simp only [Bool.and_eq_true, decide_eq_true_eq] at hi
    obtain ⟨⟨j1, j2⟩, j3, j4⟩ := hi
    obtain ⟨k1, k2, k3, k4, k5, k6⟩ := aka_inok j1
    rw [k1, k4, k5]
    rw [j2] at hR5
    obtain ⟨r6, t1, hR6⟩ := hw_ok (L' := aka_LH v) (S' := []) hE N2 (by rw [N1]; exact hx50) (by rw [N1]; exact k2) hR5 j3
    rw [N1] at t1
    have gi : i.2.2.2.2.2 = (0, 0) := Prod.ext k4 k5
    rw [gi] at hR6
    have v3 := hg_same (i := 3) (x' := (6, 0)) hR5 hR6 j4 rfl
    have v3 : r6 6 + 0 = r5 6 + 1 := v3
    have v5 : r5 6 = r3 6 := hx5 6 (by omega)
    have v6 : r3 6 = r' 6 := hx3 6 (by omega)
    exact ih (200 - r6 6).toNat (by omega) r6 ad5 H5 locs5 ls5 st5 rfl hR6 t1 hax5
theorem aka_ok (hv : v < 4) : lt_ok 6 65 (aka_C v) := by
  obtain ⟨N1, N2, N3, N4⟩ := aka_N
  obtain ⟨n3, n4⟩ := N3 v hv
  have cE : sm_E (1, [], []) (aka_C v).1 = aka_E := by
    rcases (by omega : v = 0 ∨ v = 1 ∨ v = 2 ∨ v = 3) with rfl | rfl | rfl | rfl <;> rfl
  refine lt_hand (n := 5) aka_pl ((by decide +kernel : ∀ v, v < 4 → us_ck (aka_C v) = true) v hv) (aka_L v aka_u aka_u aka_u) (by
    have e : (ct_mt 65).2.2.1 = 5 := by decide +kernel
    rw [e]
    rcases (by omega : v = 0 ∨ v = 1 ∨ v = 2 ∨ v = 3) with rfl | rfl | rfl | rfl <;> rfl) (fun l D tyc A sa hl ws0 r ad hPw hE p e s m args below meth c ls F hret htb hR => ?_)
  rw [cE] at hE hR ⊢
  have hR : ai_Rel D tyc A s sa ws0 (ct_mt 65).2.2.1 r ad (aka_L v aka_u aka_u aka_u) [] (aka_G0 v) s.heap [] ls [] := hR
  have e336 : (aka_C v).2.2.1.1 = 336 := n3
  rw [e336]
  show W p l e (lt_rm (5 + 1) 65) s m args below meth c s.heap [] 0 0 (aka_Q v below D tyc A sa ws0 r ad args s) (F0 m 0 ls [])
  obtain ⟨f0, hf0⟩ : ∃ f0, hg_ia tyc ws0 (47 + 6 * v) 200 f0 := by
    have hne : ws0[31 + 6 * v]? ≠ none := by
      obtain ⟨ws, hP, hD, hS, hEE, hH, hO, hsa, hL, hSt⟩ := hR
      have e1 : ws[31 + 6 * v]? = ws0[31 + 6 * v]? := hH.2.2.2 (31 + 6 * v) (by
        have : (aka_G0 v).2.1.1 = 336 := n3
        rw [this]; omega) (by
        have h := Option.isNone_iff_eq_none.mp (aka_no v hv)
        rw [show 31 + 6 * v + 16 = 47 + 6 * v by omega]
        exact h)
      have e2 : ws.length = 320 := by
        have h1 := hH.1.2.2
        have : (aka_G0 v).2.1.1 = 336 := n3
        omega
      rw [← e1]
      intro q
      have := List.getElem?_eq_none_iff.mp q
      omega
    obtain ⟨f, a, ha⟩ := hPw.2 _ (aka_x v hv) hne
    refine ⟨f, a, ?_⟩
    rw [show 47 + 6 * v - 16 = 31 + 6 * v by omega]
    exact ha
  refine aka_chk_ok F hl hPw (aka_k1 v hv) rfl hR (fun f hf => ?_)
  intro r1 ad1 x1 x2 x3 x4 H1 locs1 ls1 st1 hR1
  have x1 : ai_ext 4 r r1 := by
    have e : (aka_G0 v).1.1 = 4 := N1
    rw [e] at x1
    exact x1
  have x2 : ai_ext 336 ad ad1 := by
    have e : (aka_G0 v).2.1.1 = 336 := n3
    rw [e] at x2
    exact x2
  unfold aka_a at hf
  rw [Bool.or_eq_true] at hf
  rcases hf with hf | hf
  · exact aka_fin_ok F hl hret htb hPw hE hf hR1 x1 x2
  unfold aka_hd at hf
  simp only [Bool.and_eq_true, decide_eq_true_eq] at hf
  obtain ⟨⟨j1, j2⟩, j3, j4⟩ := hf
  obtain ⟨k1, k2, k3, k4, k5, k6⟩ := aka_inok j1
  rw [k1, k4, k5]
  rw [j2] at hR1
  obtain ⟨r6, t1, hR6⟩ := hw_ok (L' := aka_LH v) (S' := []) hE N2 (by rw [N1]; exact x1) (by rw [N1]; exact k2) hR1 j3
  rw [N1] at t1
  have gi : f.2.2.2.2.2 = (0, 0) := Prod.ext k4 k5
  rw [gi] at hR6
  exact aka_loop hv F hl hret htb hPw hE hf0 _ r6 ad1 H1 locs1 ls1 st1 rfl hR6 t1 x2
end AKA
theorem cp_ask0 : lt_ok 6 65 cn_ask0 := aka_ok (v := 0) (by decide)
theorem cp_ask1 : lt_ok 6 65 cn_ask1 := aka_ok (v := 1) (by decide)
theorem cp_ask2 : lt_ok 6 65 cn_ask2 := aka_ok (v := 2) (by decide)
theorem cp_ask3 : lt_ok 6 65 cn_ask3 := aka_ok (v := 3) (by decide)
