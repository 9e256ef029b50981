/-! THE PARSER: offer: a boolean's place, calls of readClause, runs that read one array, its pieces -/
noncomputable def hg_za (tyc : Nat → ClassId) (ws : va_W) (q n : Nat) (f : Nat → Int32) : Prop := ∃ a, ws[q - 16]? = some (a, .inl (tyc 2, n, .inl f))
theorem hg_za.cg {tyc : Nat → ClassId} {ws ws' : va_W} {q n : Nat} {f : Nat → Int32} (h : hg_za tyc ws q n f) (e : ws'[q - 16]? = ws[q - 16]?) : hg_za tyc ws' q n f := by
  obtain ⟨a, h⟩ := h
  exact ⟨a, e.trans h⟩
section OF
variable {p : Program} {l : Launch} {e : Env} {R : Room} {s : State} {m : MethodId} {args : Array Value} {below : List Frame} {meth : Method} {c : Code} {Q : State → Prop}
variable {D : va_G} {tyc : Nat → ClassId} {A : Nat → Prop} {sa : ai_B} {ws0 : va_W} {nL : Nat} {cc : ByteArray} {own : String} {Ts : List Cond} {strs : List ai_Z} {nws : List Cond} {bud : Nat × Nat} {dflt : Nat → List ai_V} {kind : Nat → Nat → Nat}
variable {r : Nat → Int} {ad : Nat → Nat} {L L' S : List ai_V} {G : ai_G} {H : Heap} {locs : List Loc} {ls : Array Slot} {st : List Value} {pc : Nat}
theorem hg_zast (F : ai_Fr p R s m args meth c D tyc A sa nL cc own Ts strs nws bud dflt kind) (hdg : decode cc pc = .ok (.bastore, 1)) {i v : ai_X} {q n j : Nat} {f : Nat → Int32} (hR : ai_Rel D tyc A s sa ws0 nL r ad L (.inl v :: .inl i :: .inr (.inr (some (some q))) :: S) G H locs ls st)
    (hq : 16 ≤ q) (hc : ai_cell G.2.1 q = none) (hf : hg_za tyc ws0 q n f) (hj : j < n) (hi : ai_vx r i = (j : Int)) (hv : ai_vx r v = 0 ∨ ai_vx r v = 1)
    (k : ∀ (ws1 : va_W) (H1 : Heap) (locs1 : List Loc) (st' : List Value) (f' : Nat → Int32), hg_za tyc ws1 q n f' → (f' j).toInt = ai_vx r v → (∀ x, x ≠ j → f' x = f x) → (∀ x, x ≠ q - 16 → ws1[x]? = ws0[x]?) → ai_Rel D tyc A s sa ws1 nL r ad L S G H1 locs1 ls st' → W p l e R s m args below meth c H1 locs1 G.2.2.1 G.2.2.2 Q (F0 m (pc + 1) ls st')) :
    W p l e R s m args below meth c H locs G.2.2.1 G.2.2.2 Q (F0 m pc ls st) := by
  obtain ⟨hx, hbb, -, -, -, hSt0, -⟩ := F
  obtain ⟨ws, hP, hD, hS, hE, hH, hO, hsa, hL, hSt⟩ := hR
  obtain ⟨vx, t0, rfl, hz1, hz2, h0⟩ := ai_gF.int hSt
  obtain ⟨ix, t1, rfl, hi1, hi2, h1⟩ := h0.int
  obtain ⟨t, rfl, hqn, h2⟩ := h1.ref
  obtain ⟨hvp, hcl⟩ := ai_vpin (i := ix) (j := j) (n := n) (by rw [hi2]; exact hi) hj
  obtain ⟨a, hw⟩ := hf
  have hk : ws[q - 16]? = ws0[q - 16]? := hH.2.2.2 (q - 16) (by omega) (by rw [show q - 16 + 16 = q by omega]; exact hc)
  have hw2 : ws[q - 16]? = some (a, .inl (tyc 2, n, .inl f)) := by rw [hk]; exact hw
  have ha : a = ad q := by
    have := hH.2.1 _ _ hw2
    rw [show q - 16 + 16 = q by omega] at this
    exact this
  subst ha
  have hnar : vp_nar .boolean vx = vx := by
    rw [← hz2] at hv
    rcases hv with hv | hv
    · have : vx = 0 := Int32.toInt_inj.mp (hv.trans (by decide))
      subst this
      decide
    · have : vx = 1 := Int32.toInt_inj.mp (hv.trans (by decide))
      subst this
      decide
  have hlt : q - 16 < ws.length := (List.getElem?_eq_some_iff.mp hw2).1
  have hlt0 : q - 16 < ws0.length := (List.getElem?_eq_some_iff.mp hw).1
  refine va_zast hx hbb hSt0.1 hP hD hS (q - 16) 2 hw2 rfl hvp hdg (fun H1 locs1 hP1 hD1 hS1 => ?_)
  rw [hcl, hnar] at hP1 hD1
  refine k (ws0.set (q - 16) (ad q, .inl (tyc 2, n, .inl (upd f j vx)))) H1 locs1 t (upd f j vx) ⟨ad q, List.getElem?_set_self hlt0⟩ (by rw [← hz2]; simp [upd]) (fun x hx => by simp [upd, hx]) (fun x hx => List.getElem?_set_ne (Ne.symm hx)) ⟨_, hP1, hD1, hS1, hE, ⟨by rw [List.length_set]; exact hH.1, fun x y hy => ?_, fun x hxn d hd => ?_, fun x hxn hd => ?_⟩, hO, hsa, hL, h2⟩
  · by_cases hxq : x = q - 16
    · subst hxq
      rw [List.getElem?_set_self hlt] at hy
      cases hy
      show ad q = _
      rw [show q - 16 + 16 = q by omega]
    · rw [List.getElem?_set_ne (Ne.symm hxq)] at hy
      exact hH.2.1 _ _ hy
  · by_cases hxq : x = q - 16
    · subst hxq
      rw [show q - 16 + 16 = q by omega, hc] at hd
      cases hd
    · rw [List.getElem?_set_ne (Ne.symm hxq)]
      exact hH.2.2.1 x hxn d hd
  · by_cases hxq : x = q - 16
    · subst hxq
      rw [List.getElem?_set_self hlt, List.getElem?_set_self hlt0]
    · rw [List.getElem?_set_ne (Ne.symm hxq), List.getElem?_set_ne (Ne.symm hxq)]
      exact hH.2.2.2 x hxn hd
end OF
section OC
variable {p : Program} {l : Launch} {e : Env} {s : State} {m : MethodId} {args : Array Value} {below : List Frame} {meth : Method} {c : Code} {Q : State → Prop}
variable {D : va_G} {tyc : Nat → ClassId} {A : Nat → Prop} {sa : ai_B} {ws : va_W} {mi n : Nat} {f1 f2 f3 g : Nat → Int32}
variable {r : Nat → Int} {ad : Nat → Nat} {L S S' : List ai_V} {H : Heap} {locs : List Loc} {ls : Array Slot} {st : List Value} {pc : Nat} {nb : List (Int × Int)} {skip : Bool} {stop : List Nat} {caps : List (Nat × Int × Int)}
/-- a call of readClause -/
theorem pz_callC (hpl : ls_plain mi = true) (hn : 88 ≤ n) (F : ls_Fr p (lt_rm (n + 1) mi) s m args meth c D tyc A sa mi) (hl : l.stackTraces = false) (hck : pz_ck mi pc 202 S [pz_this] S' = true) (hC : cl_W tyc ws f1 f2 f3 g) (hR : ai_Rel D tyc A s sa ws (ct_mt mi).2.2.1 r ad L S (pz_G nb) H locs ls st)
    (hLl : L.all pz_lv = true) (hSl : S'.all pz_lv = true) (h14 : r 14 = 0) (hI : cl_I r f1 f2 f3 g)
    (k : ∀ (ws' : va_W) (f1' f2' f3' g' : Nat → Int32) (r' : Nat → Int) (H' : Heap) (locs' : List Loc) (rest : List Value), cl_sm ws ws' → cl_W tyc ws' f1' f2' f3' g' → (r' 14 = 0 → cl_I r' f1' f2' f3' g' ∧ r 12 < r' 12) → pz_fx r r' → ai_Rel D tyc A s sa ws' (ct_mt mi).2.2.1 (pz_mix r' r) ad L S' (pz_G nb) H' locs' ls rest → W p l e (lt_rm (n + 1) mi) s m args below meth c H' locs' 0 0 Q (F0 m (pc + 3) ls rest)) :
    W p l e (lt_rm (n + 1) mi) s m args below meth c H locs 0 0 Q (F0 m pc ls st) := by
  obtain ⟨N1, N2, N3, N4, N5⟩ := pz_N
  obtain ⟨idx, b, ec, hv⟩ := pz_ck_ok hck
  have hE := hR.env
  have hEp := pz_Esub hE
  obtain ⟨hWd, hS, hLL, hSt⟩ := hR.wd
  have hWd0 : ai_Wd D tyc A sa ws r ad (pz_E, pz_h, 0, 0) H := fn_trW (N0 := 44) N3 ai_ext.rfl' ai_ext.rfl' (by rw [N1]; exact Nat.le_refl _) hEp hWd
  have hMet := lt_wide (r := lt_rm 88 202) (r' := lt_rm n 202) (by show 88 + 0 + 8 ≤ n + 0 + 8; omega) (by show 64 * (88 + 0) + 400 ≤ 64 * (n + 0) + 400; omega) rfl rfl (pz_clause l D tyc A sa hl ws f1 f2 f3 g r ad H hC hWd0 h14 hI)
  have rb1 : (lt_rm n 202).cells = 0 := by
    show (ct_bud 202).1 = 0
    rw [ck_pl.2.1]
  have rb2 : (lt_rm n 202).slots = 0 := by
    show (ct_bud 202).2 = 0
    rw [ck_pl.2.1]
  refine hg_callv (G := pz_G nb) (mj := 202) hpl ck_pl.1 (by omega) F ec hv hR ⟨by rw [rb1]; exact Nat.zero_le _, by rw [rb2]; exact Nat.zero_le _⟩ (fun As' gA _ => ?_) (fun a' st0 t v' rest' locs1 e0 hq' hrest hS1 => ?_) (Qc := cl_Q D tyc A sa ws r ad)
  · obtain ⟨t1', rfl, q1', g5'⟩ := gA.ref
    have : t1' = [] := by
      cases t1' with
      | nil => rfl
      | cons _ _ => exact g5'.elim
    subst this
    exact hMet
  · obtain ⟨ws', f1', f2', f3', g', r', e1, e2, e3, e4, e5, e6, e7⟩ := hq'
    cases e1
    have hE' : ai_gE r' pz_E := by
      obtain ⟨ws2, -, -, q, -⟩ := e4
      exact q
    have hEm : ai_gE (pz_mix r' r) (sm_E pz_E nb) := pz_mixE hE' hE
    have hWm : ai_Wd D tyc A sa ws' (pz_mix r' r) ad (pz_G nb) t.heap := fn_trW (N0 := 44) (c1 := 0) (s1 := 0) N3 pz_mix_lo ai_ext.rfl' (by show 44 ≤ pz_E.1 + nb.length; rw [N1]; omega) hEm e4
    have hR' := hWm.rel (hS1 e7) (pz_ll_ok hE'.1 hE.1 hLl hLL) (pz_lf_ok hE'.1 hE.1 hSl hrest)
    have := k ws' f1' f2' f3' g' r' t.heap locs1 rest' e2 e3 e5 e6 hR'
    rw [rb1, rb2]
    exact this
noncomputable def cp_Φ (f : Nat → Int32) : Nat → Int → Int := fun _ k => (f k.toNat).toInt
noncomputable def cp_ck (mi q n : Nat) (stop : List Nat) (skip : Bool) (pc : Nat) (L S : List ai_V) (nb : List (Int × Int)) (chk : ai_F × List fn_L → Bool) : Bool := match fn_run mi [] [(q, n, ai_lo32, ai_hi32)] pz_h stop 10000 skip [] pc L S (pz_G nb) with
  | some fs => fs.all chk
  | none => false
/-- a run that reads one array that the domain leaves alone -/
theorem cp_run {q k0 : Nat} {chk : ai_F × List fn_L → Bool} {f : Nat → Int32} (h : cp_ck mi q k0 stop skip pc L S nb chk = true) (hpl : ls_plain mi = true) (F : ls_Fr p (lt_rm (n + 1) mi) s m args meth c D tyc A sa mi) (hq : 16 ≤ q) (hf : hg_ia tyc ws q k0 f) (hR : ai_Rel D tyc A s sa ws (ct_mt mi).2.2.1 r ad L S (pz_G nb) H locs ls st)
    (k : ∀ g, chk g = true → ∀ (r' : Nat → Int) (ad' : Nat → Nat), ai_ext (44 + nb.length) r r' → ai_ext 336 ad ad' → (∀ x ∈ g.2, fn_m (cp_Φ f) r' x) → ∀ (H' : Heap) (locs' : List Loc) (ls' : Array Slot) (st' : List Value), ai_Rel D tyc A s sa ws (ct_mt mi).2.2.1 r' ad' g.1.2.1 g.1.2.2.1 g.1.2.2.2 H' locs' ls' st' → W p l e (lt_rm (n + 1) mi) s m args below meth c H' locs' g.1.2.2.2.2.2.1 g.1.2.2.2.2.2.2 Q (F0 m g.1.1 ls' st')) :
    W p l e (lt_rm (n + 1) mi) s m args below meth c H locs 0 0 Q (F0 m pc ls st) := by
  obtain ⟨N1, N2, N3, N4, N5⟩ := pz_N
  unfold cp_ck at h
  split at h
  · rename_i fs hrun
    have eN : (pz_G nb).1.1 = 44 + nb.length := by
      show pz_E.1 + nb.length = _
      rw [N1]
    have hE0 : ai_gE r pz_E := pz_Esub (nb := nb) hR.env
    refine fn_ok (n := n) (G := pz_G nb) (r0 := r) (ad0 := ad) (E0 := pz_E) (h0 := pz_h) (OT := []) (GT := [(q, k0, ai_lo32, ai_hi32)]) (Φ := cp_Φ f) hpl F (fun q hq => by cases hq) (fun z hz => ?_) (by rw [N1]; exact N3) hE0 (by rw [N4]; omega) 10000 skip [] pc L S fs r ad H locs ls st hrun hR ai_ext.rfl' ai_ext.rfl' (by rw [eN, N1]; omega) (Nat.le_refl _) (fun x hx => by cases hx) (fun g hg r' ad' x1 x2 x3 x4 H' locs' ls' st' hR' => ?_)
    · rcases List.mem_cons.mp hz with rfl | hz
      · exact ⟨hq, f, hf, fun j hj => ⟨(ai_i32 _).1, (ai_i32 _).2, rfl⟩⟩
      · cases hz
    · rw [eN] at x1
      rw [N4] at x2
      exact k g (List.all_eq_true.mp h g hg) r' ad' x1 x2 (fun x hx => (x4 x hx).2) H' locs' ls' st' hR'
  · cases h
end OC
noncomputable def of_L (v : Nat) : List ai_V := [pz_this, .inl (0, .ofNat v), pz_u, pz_u]
noncomputable def of_Lk (v k : Nat) : List ai_V := [pz_this, .inl (0, .ofNat v), pz_u, .inl (0, .ofNat k)]
noncomputable def of_Lj (v : Nat) : List ai_V := [pz_this, .inl (0, .ofNat v), pz_u, .inl (44, 0)]
noncomputable def of_us : List ai_V := [pz_u, pz_u, pz_u, pz_u]
noncomputable def of_r (q : Nat) : ai_V := .inr (.inr (some (some q)))
noncomputable def of_ch : List (Nat × ai_X) := [(1, (0, 0)), (6, (0, 0)), (8, (45, 0)), (7, (0, 0)), (14, (0, 0)), (17, (0, 0))]
noncomputable def of_c0 (f : ai_F) : Bool := pz_to [] 18 of_us [.inl (0, 0)] [(1, (0, 1))] f || (pz_to [] 36 of_us [.inl (0, 0)] [(1, (0, 2))] f || pz_to [(0, 3)] 68 [pz_this, .inl (44, 0), pz_u, pz_u] [.inl (0, 0), .inl (0, 4), ck_r] of_ch f)
theorem of_k0 : pz_sc [] 203 [18, 36, 68] false 0 [pz_this, .inl (44, 0), .inl (45, 0), pz_u] [] [rn_b, rn_b] [] of_c0 = true := by decide +kernel
noncomputable def of_k1 (v : Nat) : Bool :=
  pz_sc [] 203 [70] false 69 (of_L v) [] [(0, 3)] [] (pz_to [] 70 (of_L v) [pz_this] []) && (pz_sc [] 203 [74] false 73 (of_L v) [] [] [] (pz_to [] 74 (of_L v) [pz_this] []) &&
  (pz_sc [] 203 [77, 92, 128, 139] true 77 (of_L v) [] [] [(14, (1, 3))] (pz_to [] 128 of_us [.inl (14, 0)] [(16, (15, 0))]) && (pz_sc [] 203 [77, 92, 128, 139] true 77 (of_L v) [] [] [(14, (0, 0)), (9, (0, 0))] (pz_to [] 139 (of_L v) [.inl (0, 4), ck_r, .inl (0, .ofNat v), ck_r] [(16, (0, -1))]) &&
  (pz_sc [] 203 [77, 92, 128, 139] true 77 (of_L v) [] [] [(14, (0, 0)), (9, (1, 4))] (pz_to [] 92 (of_L v) [pz_this] []) && pz_sc [] 203 [77] false 95 (of_L v) [] [] [] (pz_to [] 77 (of_L v) [] [])))))
theorem of_kk1 : ∀ v, v < 4 → of_k1 v = true := by decide +kernel
noncomputable def of_cx (z v k q pc : Nat) (g : ai_F × List fn_L) : Bool := sq_has [(1000 + q, (0, .ofNat (32 + k)), (z, 0), true)] g && pz_to [rn_b] pc (of_Lk v k) [.inl (44, 0), .inl (0, .ofNat (8 * v + k)), of_r q] [(44, (z, 0))] g.1
noncomputable def of_k2 (v : Nat) : Bool := cp_ck 203 290 2000 [147] false 141 (of_L v) [] [(0, 8)] (fun g => pz_to [] 147 (of_L v) [.inl (0, 1), .inl (0, .ofNat v), of_r 293] [] g.1) && (cp_ck 203 290 2000 [150] false 148 (of_L v) [] [] (fun g => pz_to [] 150 (of_Lk v 0) [] [] g.1) && cp_ck 203 290 2000 [224] false 150 (of_Lk v 8) [] [] (fun g => pz_to [] 224 (of_Lk v 0) [] [] g.1))
theorem of_kk2 : ∀ v, v < 4 → of_k2 v = true := by decide +kernel
noncomputable def of_k3 (v k : Nat) : Bool := cp_ck 203 287 40 [175] false 150 (of_Lk v k) [] [] (of_cx 44 v k 287 175) && (cp_ck 203 288 40 [195] false 176 (of_Lk v k) [] [rn_b] (of_cx 45 v k 288 195) && (cp_ck 203 289 40 [215] false 196 (of_Lk v k) [] [rn_b] (of_cx 45 v k 289 215) && cp_ck 203 290 2000 [150] false 216 (of_Lk v k) [] [rn_b] (fun g => pz_to [] 150 (of_Lk v (k + 1)) [] [] g.1)))
theorem of_kk3 : ∀ v, v < 4 → ∀ k, k < 8 → of_k3 v k = true := by decide +kernel
noncomputable def of_c4 (v : Nat) (g : ai_F × List fn_L) : Bool := (sq_has [(3, (44, 0), (17, 0), true)] g && pz_to [] 260 of_us [] [] g.1) || (sq_has [(3, (44, 0), (17, 0), false), (1290, (44, 1600), (45, 0), true)] g && pz_to [(0, 399), rn_b, (0, 1999)] 253 (of_Lj v) [.inl (45, 0), .inl (46, 0), of_r 290] [(44, (44, 0)), (45, (45, 0)), (46, (44, .ofNat (400 * v)))] g.1)
noncomputable def of_k4 (v : Nat) : Bool := cp_ck 203 290 2000 [253, 260] false 224 (of_Lj v) [] [(0, 400)] (of_c4 v) && (cp_ck 203 290 2000 [224] false 254 (of_Lj v) [] [(0, 399), rn_b, (0, 1999)] (fun g => pz_to [(0, 400)] 224 (of_Lj v) [] [(44, (44, 1))] g.1) && cp_ck 203 290 2000 [261] false 260 of_us [] [] (fun g => pz_to [] 261 of_us [.inl (0, 0)] [] g.1))
theorem of_kk4 : ∀ v, v < 4 → of_k4 v = true := by decide +kernel
theorem of_ck : pz_ck 203 70 188 [pz_this] [pz_this] [] = true ∧ pz_ck 203 74 202 [pz_this] [pz_this] [] = true ∧ pz_ck 203 92 202 [pz_this] [pz_this] [] = true := by decide +kernel
theorem of_pl : ls_plain 203 = true ∧ ct_bud 203 = (0, 0) ∧ (ct_mt 203).2.2.1 = 4 ∧ (fc_ir 203 18 = true ∧ fc_ir 203 36 = true ∧ fc_ir 203 128 = true ∧ fc_ir 203 261 = true) ∧ decode (ct_mt 203).2.1 68 = .ok (.iastore, 1) ∧ decode (ct_mt 203).2.1 139 = .ok (.iaload, 1) ∧ decode (ct_mt 203).2.1 140 = .ok (.iastore, 1) ∧ decode (ct_mt 203).2.1 147 = .ok (.bastore, 1) ∧ decode (ct_mt 203).2.1 175 = .ok (.iastore, 1) ∧ decode (ct_mt 203).2.1 195 = .ok (.iastore, 1) ∧ decode (ct_mt 203).2.1 215 = .ok (.iastore, 1) ∧ decode (ct_mt 203).2.1 253 = .ok (.iastore, 1) := by decide +kernel
