/-! THE PARSER (the reference): its state, contracts of what changes it, calls, ends -/
noncomputable def pz_nb : List (Int × Int) := [cb_i, (.ofNat 0, .ofNat 4), (.ofNat 0, .ofNat 5), (.ofNat 0, .ofNat 4), (.ofNat 0, .ofNat 12), (.ofNat 0, .ofNat 200), (.ofNat 0, .ofNat 200), (.ofNat 0, .ofNat 200), (.ofNat 0, .ofNat 4), cb_i, cb_i, (.ofNat 0, .ofNat 200), (.ofNat 0, .ofNat 200), (.ofNat 0, .ofNat 3), cb_i, cb_i, (.ofNat 0, .ofNat 400), (.ofNat 0, .ofNat 1), cb_i, cb_i, cb_i, cb_i, cb_i, (.ofNat 0, .ofNat 1), (.ofNat 0, .ofNat 4), (.ofNat 0, .ofNat 4), cb_i, (.ofNat 0, .ofNat 4), (.ofNat 0, .ofNat 4), (.ofNat 0, .ofNat 1), (.ofNat 0, .ofNat 1), (.ofNat 0, .ofNat 1), cb_i, cb_i, cb_i, cb_i, cb_i, (.ofNat 0, .ofNat 4), (.ofNat 0, .ofNat 4), (.ofNat 0, .ofNat 4), (.negSucc 0, .ofNat 13), cb_i, (.ofNat 0, .ofNat 60)]
noncomputable def pz_h : ai_H := (336, ai_nd 8 (ai_nd 7 (ai_nd 6 (ai_nd 5 (ce_5) (ai_nd 4 (ai_nd 3 (ai_nd 2 (ai_nd 1 (ai_nd 0 (ce_0) (some (.inl (12, [.inr (.inr (some (some 265))), .inl (1, .ofNat 0), .inl (2, .ofNat 0), .inl (3, .ofNat 0), .inl (4, .ofNat 0), .inl (5, .ofNat 0), .inr (.inr (some (some 266))), .inr (.inr (some (some 267))), .inr (.inr (some (some 268))), .inr (.inr (some (some 269))), .inr (.inr (some (some 270))), .inr (.inr (some (some 271))), .inr (.inr (some (some 272))), .inr (.inr (some (some 273))), .inr (.inr (some (some 274))), .inr (.inr (some (some 275))), .inr (.inr (some (some 276))), .inr (.inr (some (some 277))), .inr (.inr (some (some 278))), .inr (.inr (some (some 279))), .inr (.inr (some (some 280))), .inr (.inr (some (some 281))), .inr (.inr (some (some 282))), .inr (.inr (some (some 283))), .inr (.inr (some (some 284))), .inr (.inr (some (some 285))), .inl (6, .ofNat 0), .inl (7, .ofNat 0), .inl (8, .ofNat 0), .inl (9, .ofNat 0), .inl (10, .ofNat 0), .inl (11, .ofNat 0), .inl (12, .ofNat 0), .inl (13, .ofNat 0), .inl (14, .ofNat 0), .inl (15, .ofNat 0), .inl (16, .ofNat 0), .inl (17, .ofNat 0), .inr (.inr (some (some 286))), .inr (.inr (some (some 287))), .inr (.inr (some (some 288))), .inr (.inr (some (some 289))), .inr (.inr (some (some 290))), .inr (.inr (some (some 291))), .inr (.inr (some (some 292))), .inr (.inr (some (some 293))), .inl (18, .ofNat 0), .inl (19, .ofNat 0), .inl (20, .ofNat 0), .inr (.inr (some (some 294))), .inr (.inr (some (some 295))), .inr (.inr (some (some 296))), .inr (.inr (some (some 297))), .inr (.inr (some (some 298))), .inr (.inr (some (some 299))), .inr (.inr (some (some 300))), .inr (.inr (some (some 301))), .inr (.inr (some (some 302))), .inr (.inr (some (some 303))), .inl (21, .ofNat 0), .inl (22, .ofNat 0), .inl (23, .ofNat 0), .inl (24, .ofNat 0), .inl (25, .ofNat 0), .inr (.inr (some (some 304))), .inr (.inr (some (some 305))), .inr (.inr (some (some 306))), .inr (.inr (some (some 307))), .inr (.inr (some (some 308))), .inl (26, .ofNat 0), .inl (27, .ofNat 0), .inl (28, .ofNat 0), .inl (29, .ofNat 0), .inr (.inr (some (some 309))), .inr (.inr (some (some 310))), .inr (.inr (some (some 311))), .inr (.inr (some (some 312))), .inr (.inr (some (some 313))), .inr (.inr (some (some 314))), .inr (.inr (some (some 315))), .inr (.inr (some (some 316))), .inr (.inr (some (some 317))), .inr (.inr (some (some 318))), .inl (30, .ofNat 0), .inr (.inr (some (some 319))), .inr (.inr (some (some 320))), .inr (.inr (some (some 321))), .inl (31, .ofNat 0), .inl (32, .ofNat 0), .inl (33, .ofNat 0), .inl (34, .ofNat 0), .inl (35, .ofNat 0), .inl (36, .ofNat 0), .inl (37, .ofNat 0), .inl (38, .ofNat 0), .inr (.inr (some (some 322))), .inr (.inr (some (some 323))), .inr (.inr (some (some 324))), .inr (.inr (some (some 325))), .inr (.inr (some (some 326))), .inl (39, .ofNat 0), .inl (40, .ofNat 0), .inr (.inr (some (some 327))), .inr (.inr (some (some 328))), .inr (.inr (some (some 329))), .inr (.inr (some (some 330))), .inl (41, .ofNat 0), .inl (42, .ofNat 0), .inl (43, .ofNat 0), .inr (.inr (some (some 331))), .inr (.inr (some (some 332))), .inr (.inr (some (some 333))), .inr (.inr (some (some 334)))])))) (ce_1)) (ce_2)) (ce_3)) (ce_4))) (ce_6)) (ce_7)) (ai_nd 7 (ai_nd 6 (ai_nd 5 (ce_5) (ai_nd 4 (ai_nd 3 (ai_nd 2 (ai_nd 1 (ai_nd 0 (ce_0) (some (cf_5_1))) (ce_1)) (ce_2)) (ce_3)) (ce_4))) (ai_nd 5 (ce_5) (ai_nd 4 (ce_4) (ai_nd 3 (ai_nd 2 (ai_nd 1 (ai_nd 0 (ce_0) (some (ca_0_200_m2147483648_2147483647))) (ce_1)) (ce_2)) (ce_3))))) (ce_7)))
noncomputable def pz_E : ai_E := sm_E (1, [], []) pz_nb
noncomputable def pz_G (nb : List (Int × Int)) : ai_G := (sm_E pz_E nb, pz_h, 0, 0)
theorem pz_N : pz_E.1 = 44 ∧ pz_E.2.2 = [] ∧ sm_wh 44 pz_h = true ∧ pz_h.1 = 336 ∧ (∀ q ∈ pz_E.2.1, q.1 < 44) := by decide +kernel
/-- cells that are left alone, less the codes' -/
noncomputable def pz_sm (ws ws' : va_W) : Prop := ∀ x, x + 16 < 336 → x ≠ 274 → ai_cell pz_h (x + 16) = none → ws'[x]? = ws[x]?
theorem pz_sm.rf {ws : va_W} : pz_sm ws ws := fun _ _ _ _ => rfl
theorem pz_sm.tr {a b c : va_W} (h : pz_sm a b) (g : pz_sm b c) : pz_sm a c := fun x h1 h2 h3 => (g x h1 h2 h3).trans (h x h1 h2 h3)
/-- a world that the parser is in: the codes, the offers' order -/
noncomputable def pz_W (tyc : Nat → ClassId) (ws : va_W) (g : Nat → Int32) : Prop := hg_ia tyc ws 290 2000 g ∧ ai_Pw tyc ws
/-- 7 at, 9 token, 12 begins, 13 ends, 14 bad, 17 codes -/
noncomputable def pz_I (r : Nat → Int) : Prop := r 7 = r 13 ∧ 0 ≤ r 12 ∧ r 12 ≤ r 13 ∧ r 13 ≤ 200 ∧ (r 9 ≠ 0 → r 12 < r 13)
abbrev pz_Pre : Type := (Nat → Int) → (Nat → Int32) → Prop
abbrev pz_Post : Type := (Nat → Int) → (Nat → Int32) → (Nat → Int) → (Nat → Int32) → Prop
noncomputable def pz_Ct (rk mi : Nat) (ri : Bool) (vs : List Int32) (Pre : pz_Pre) (Post : pz_Post) : Prop :=
  ∀ (l : Launch) (D : va_G) (tyc : Nat → ClassId) (A : Nat → Prop) (sa : ai_B), l.stackTraces = false → ∀ (ws : va_W) (g : Nat → Int32) (r : Nat → Int) (ad : Nat → Nat) (H0 : Heap), pz_W tyc ws g → ai_Wd D tyc A sa ws r ad (pz_E, pz_h, 0, 0) H0 → Pre r g →
    vx_Met l (ct_mt mi).1 (ai_cw (ct_mt mi) :: ft_W) (lt_rm rk mi) (fun a U => a = (Value.ref (ad 264) :: vs.map Value.int).toArray ∧ U.heap = H0 ∧ ai_St D tyc A sa ct_strs ft_N U ∧ ∀ z, H0.size ≤ z → A z)
      (fun _ st o t => ∃ (res : Option Int32) (ws' : va_W) (g' : Nat → Int32) (r' : Nat → Int), o = .returned (res.map Value.int) ∧ res.isSome = ri ∧ pz_sm ws ws' ∧ pz_W tyc ws' g' ∧ ai_Wd D tyc A sa ws' r' ad (pz_E, pz_h, 0, 0) t.heap ∧ Post r g r' g' ∧ va_F A st t) (fun _ _ _ => False) (lt_rm rk mi).cells (lt_rm rk mi).slots A
theorem pz_Ct.mono {n n' mi : Nat} {ri : Bool} {vs : List Int32} {Pre : pz_Pre} {Post : pz_Post} (h : pz_Ct n mi ri vs Pre Post) (hn : n ≤ n') : pz_Ct n' mi ri vs Pre Post := fun l D tyc A sa hl ws g r ad H0 h1 h2 h3 =>
  lt_wide (r := lt_rm n mi) (r' := lt_rm n' mi) (by show n + 0 + 8 ≤ n' + 0 + 8; omega) (by show 64 * (n + 0) + 400 ≤ 64 * (n' + 0) + 400; omega) rfl rfl (h l D tyc A sa hl ws g r ad H0 h1 h2 h3)
theorem pz_Ct.imp {n mi : Nat} {ri : Bool} {vs : List Int32} {Pre Pre' : pz_Pre} {Post Post' : pz_Post} (h : pz_Ct n mi ri vs Pre Post) (hP : ∀ r g, Pre' r g → Pre r g) (hQ : ∀ r g r' g', Pre' r g → Post r g r' g' → Post' r g r' g') : pz_Ct n mi ri vs Pre' Post' := fun l D tyc A sa hl ws g r ad H0 h1 h2 h3 =>
  sm_imp (h l D tyc A sa hl ws g r ad H0 h1 h2 (hP r g h3)) (fun _ _ q => q) (fun _ _ _ _ ⟨res, ws', g', r', a1, a2, a3, a4, a5, a6, a7⟩ => ⟨res, ws', g', r', a1, a2, a3, a4, a5, hQ r g r' g' h3 a6, a7⟩) (fun _ _ _ q => q)
theorem pz_Esub {r : Nat → Int} {nb : List (Int × Int)} (hE : ai_gE r (sm_E pz_E nb)) : ai_gE r pz_E := by
  obtain ⟨N1, N2, N3, N4, N5⟩ := pz_N
  refine ⟨hE.1, by rw [N1]; omega, fun t ht => hE.2.2.1 t (Nat.lt_of_lt_of_le ht (Nat.le_add_right _ _)), fun q hq => ⟨by rw [N1]; exact N5 q hq, (hE.2.2.2.1 q (List.mem_append_right _ hq)).2⟩, fun q hq => by rw [N2] at hq; cases hq⟩
/-- a valuation's first part is another one's -/
noncomputable def pz_mix (r' r : Nat → Int) : Nat → Int := fun t => if t < 44 then r' t else r t
theorem pz_mix_lo {r' r : Nat → Int} : ai_ext 44 r' (pz_mix r' r) := fun t ht => if_pos ht
theorem pz_mix_hi {r' r : Nat → Int} {t : Nat} (ht : 44 ≤ t) : pz_mix r' r t = r t := if_neg (by omega)
theorem pz_mixE {r' r : Nat → Int} {nb : List (Int × Int)} (h1 : ai_gE r' pz_E) (h2 : ai_gE r (sm_E pz_E nb)) : ai_gE (pz_mix r' r) (sm_E pz_E nb) := by
  obtain ⟨N1, N2, N3, N4, N5⟩ := pz_N
  refine ⟨(pz_mix_lo 0 (by omega)).trans h1.1, h2.2.1, fun t ht => ?_, fun q hq => ?_, fun q hq => by cases hq⟩
  · by_cases e : t < 44
    · rw [pz_mix_lo t e]
      exact h1.2.2.1 t (by rw [N1]; exact e)
    · rw [pz_mix_hi (by omega)]
      exact h2.2.2.1 t ht
  · have hb := h2.2.2.2.1 q hq
    rcases List.mem_append.mp hq with hq' | hq'
    · have := (sm_nb_mem hq').1
      rw [N1] at this
      rw [pz_mix_hi this]
      exact hb
    · rw [pz_mix_lo _ (N5 q hq')]
      exact ⟨hb.1, (h1.2.2.2.1 q hq').2⟩
/-- a call of a method that is in the tables: what stands on the stack -/
noncomputable def pz_ck (mi pc mj : Nat) (S aa S' : List ai_V) : Bool := match ls_code mi pc with
  | some (i, len, a, b) => Nat.beq (fn_knd i).1 3 && (Nat.beq a mj && (Nat.beq len 3 && (match ai_vcall mj (Nat.mod b 64) (Nat.div b 64) (pc + 3) S pz_h with
    | some (.inr (.inl (m', aa', S2, p'))) => Nat.beq m' mj && (decide (aa' = aa) && (decide (S2 = S') && Nat.beq p' (pc + 3)))
    | _ => false)))
  | none => false
theorem pz_ck_ok {mi pc mj : Nat} {S aa S' : List ai_V} (h : pz_ck mi pc mj S aa S' = true) : ∃ idx b, ls_code mi pc = some (.invokevirtual idx, 3, mj, b) ∧ ai_vcall mj (Nat.mod b 64) (Nat.div b 64) (pc + 3) S pz_h = some (.inr (.inl (mj, aa, S', pc + 3))) := by
  unfold pz_ck at h
  split at h
  · rename_i i len a b ec
    simp only [Bool.and_eq_true] at h
    obtain ⟨h1, h2, h3, h4⟩ := h
    obtain ⟨idx, hi⟩ := fn_knd3 (Nat.eq_of_beq_eq_true h1)
    have h2 := Nat.eq_of_beq_eq_true h2
    have h3 := Nat.eq_of_beq_eq_true h3
    subst hi h2 h3
    split at h4
    · rename_i m' aa' S2 p' ev
      simp only [Bool.and_eq_true, decide_eq_true_eq] at h4
      obtain ⟨k1, k2, k3, k4⟩ := h4
      have k1 := Nat.eq_of_beq_eq_true k1
      have k4 := Nat.eq_of_beq_eq_true k4
      subst k1 k2 k3 k4
      exact ⟨idx, b, ec, ev⟩
    · cases h4
  · cases h
theorem pz_args {r : Nat → Int} {ad : Nat → Nat} {N n : Nat} : ∀ {xs : List ai_X} {As : List Value}, ai_gF r ad N n (xs.map (fun x => .inl x)) As → ∃ vs : List Int32, As = vs.map Value.int ∧ vs.map Int32.toInt = xs.map (ai_vx r)
  | [], [], _ => ⟨[], rfl, rfl⟩
  | [], _ :: _, h => h.elim
  | x :: xs, As, h => by
    obtain ⟨i, t, rfl, i1, i2, i3⟩ := h.int
    obtain ⟨vs, rfl, h2⟩ := pz_args i3
    exact ⟨i :: vs, rfl, by rw [List.map_cons, List.map_cons, i2, h2]⟩
/-- numbers that a call leaves as they are -/
noncomputable def pz_lv (v : ai_V) : Bool := match v with
  | .inl x => Nat.beq x.1 0 || Nat.ble 44 x.1
  | .inr (.inl x) => Nat.beq x.1 0 || Nat.ble 44 x.1
  | _ => true
theorem pz_lv_vx {r' r : Nat → Int} {x : ai_X} (h1 : r' 0 = 0) (h2 : r 0 = 0) (h : (Nat.beq x.1 0 || Nat.ble 44 x.1) = true) : ai_vx (pz_mix r' r) x = ai_vx r x := by
  unfold ai_vx
  rw [Bool.or_eq_true] at h
  rcases h with h | h
  · have h := Nat.eq_of_beq_eq_true h
    rw [h, pz_mix_lo 0 (by omega), h1, h2]
  · rw [pz_mix_hi (Nat.le_of_ble_eq_true h)]
theorem pz_lv_ok {r' r : Nat → Int} {ad : Nat → Nat} {N n : Nat} (h1 : r' 0 = 0) (h2 : r 0 = 0) {a : ai_V} {v : Value} (h : pz_lv a = true) (g : ai_gV r ad N n a v) : ai_gV (pz_mix r' r) ad N n a v := by
  rcases a with x | x | _ | _ | q
  · obtain ⟨g1, i, g2, g3⟩ := g
    exact ⟨g1, i, g2, by rw [g3, pz_lv_vx h1 h2 h]⟩
  · obtain ⟨g1, i, g2, g3⟩ := g
    exact ⟨g1, i, g2, by rw [g3, pz_lv_vx h1 h2 h]⟩
  · trivial
  · exact g
  · exact g
theorem pz_lf_ok {r' r : Nat → Int} {ad : Nat → Nat} {N n : Nat} (h1 : r' 0 = 0) (h2 : r 0 = 0) : ∀ {l : List ai_V} {m : List Value}, l.all pz_lv = true → ai_gF r ad N n l m → ai_gF (pz_mix r' r) ad N n l m
  | [], [], _, _ => trivial
  | a :: l, v :: m, h, g => by
    rw [List.all_cons, Bool.and_eq_true] at h
    exact ⟨pz_lv_ok h1 h2 h.1 g.1, pz_lf_ok h1 h2 h.2 g.2⟩
  | [], _ :: _, _, g => g.elim
  | _ :: _, [], _, g => g.elim
theorem pz_ll_ok {r' r : Nat → Int} {ad : Nat → Nat} {N n nL : Nat} (h1 : r' 0 = 0) (h2 : r 0 = 0) {L : List ai_V} {ls : Array Slot} (h : L.all pz_lv = true) (g : ai_gL r ad N n nL L ls) : ai_gL (pz_mix r' r) ad N n nL L ls :=
  ⟨g.1, g.2.1, g.2.2.1, fun i hi => by
    obtain ⟨v, a1, a2⟩ := g.2.2.2 i hi
    exact ⟨v, a1, pz_lv_ok h1 h2 (List.all_eq_true.mp h _ (ai_lget_mem hi)) a2⟩⟩
section PZ
variable {p : Program} {l : Launch} {e : Env} {s : State} {m : MethodId} {args : Array Value} {below : List Frame} {meth : Method} {c : Code} {Q : State → Prop}
variable {D : va_G} {tyc : Nat → ClassId} {A : Nat → Prop} {sa : ai_B} {ws : va_W} {g : Nat → Int32} {mi n : Nat}
variable {r : Nat → Int} {ad : Nat → Nat} {L S S' : List ai_V} {H : Heap} {locs : List Loc} {ls : Array Slot} {st : List Value} {pc mj : Nat} {nb : List (Int × Int)} {xs : List ai_X} {Pre : pz_Pre} {Post : pz_Post} {ri : Bool}
set_option maxHeartbeats 1000000 in
theorem pz_call0 (hpl : ls_plain mi = true) (hplj : ls_plain mj = true) (hmj : mj < 1000) (hbud : ct_bud mj = (0, 0)) (F : ls_Fr p (lt_rm (n + 1) mi) s m args meth c D tyc A sa mi) (hl : l.stackTraces = false) (hck : pz_ck mi pc mj S (.inr (.inr (some (some 264))) :: xs.map (fun x => .inl x)) S' = true) (hW : pz_W tyc ws g) (hR : ai_Rel D tyc A s sa ws (ct_mt mi).2.2.1 r ad L S (pz_G nb) H locs ls st)
    (hLl : L.all pz_lv = true) (hSl : S'.all pz_lv = true) (hC : ∀ vs : List Int32, vs.map Int32.toInt = xs.map (ai_vx r) → pz_Ct n mj ri vs Pre Post) (hPre : Pre r g)
    (k : ∀ (res : Option Int32) (ws' : va_W) (g' : Nat → Int32) (r' : Nat → Int) (H' : Heap) (locs' : List Loc) (rest : List Value), res.isSome = ri → pz_sm ws ws' → pz_W tyc ws' g' → Post r g r' g' → ai_Rel D tyc A s sa ws' (ct_mt mi).2.2.1 (pz_mix r' r) ad L S' (pz_G nb) H' locs' ls rest → W p l e (lt_rm (n + 1) mi) s m args below meth c H' locs' 0 0 Q (F0 m (pc + 3) ls ((res.map Value.int).toList ++ rest))) :
    W p l e (lt_rm (n + 1) mi) s m args below meth c H locs 0 0 Q (F0 m pc ls st) := by
  obtain ⟨N1, N2, N3, N4, N5⟩ := pz_N
  obtain ⟨idx, b, ec, hv⟩ := pz_ck_ok hck
  have hE := hR.env
  have hEp := pz_Esub hE
  obtain ⟨hWd, hS, hLL, hSt⟩ := hR.wd
  have hWd0 : ai_Wd D tyc A sa ws r ad (pz_E, pz_h, 0, 0) H := fn_trW (N0 := 44) N3 ai_ext.rfl' ai_ext.rfl' (by rw [N1]; exact Nat.le_refl _) hEp hWd
  obtain ⟨em, ep, et, ew, -⟩ := ai_vcall_inv hv
  obtain ⟨As, sr, g1, g2, g3, g4⟩ := ai_take_ok (acc := []) (accC := []) (r := r) (ad := ad) (N := (pz_G nb).1.1) (n := (pz_G nb).2.1.1) trivial hR.stk et
  obtain ⟨t1, rfl, q1, g5⟩ := g1.ref
  obtain ⟨vs, rfl, hvs⟩ := pz_args g5
  have hMet := hC vs hvs l D tyc A sa hl ws g r ad H hW hWd0 hPre
  have rb1 : (lt_rm n mj).cells = 0 := by
    show (ct_bud mj).1 = 0
    rw [hbud]
  have rb2 : (lt_rm n mj).slots = 0 := by
    show (ct_bud mj).2 = 0
    rw [hbud]
  refine hg_callv (G := pz_G nb) (mj := mj) hpl hplj hmj F ec hv hR ⟨by rw [rb1]; exact Nat.zero_le _, by rw [rb2]; exact Nat.zero_le _⟩ (fun As' gA _ => ?_) (fun a' st0 t v' rest' locs1 e0 hq' hrest hS1 => ?_) (Qc := fun _ st o t => ∃ (res : Option Int32) (ws' : va_W) (g' : Nat → Int32) (r' : Nat → Int), o = .returned (res.map Value.int) ∧ res.isSome = ri ∧ pz_sm ws ws' ∧ pz_W tyc ws' g' ∧ ai_Wd D tyc A sa ws' r' ad (pz_E, pz_h, 0, 0) t.heap ∧ Post r g r' g' ∧ va_F A st t)
  · obtain ⟨t1', rfl, q1', g5'⟩ := gA.ref
    obtain ⟨vs', rfl, hvs'⟩ := pz_args g5'
    have ev : vs' = vs := by
      have h := hvs'.trans hvs.symm
      clear hvs' hvs hMet g5 g5' gA g1 g3 g4 et
      induction vs' generalizing vs with
      | nil =>
        cases vs with
        | nil => rfl
        | cons _ _ => cases h
      | cons a l ih =>
        cases vs with
        | nil => cases h
        | cons b l' =>
          rw [List.map_cons, List.map_cons] at h
          injection h with h1 h2
          rw [Int32.toInt_inj.mp h1, ih _ h2]
    rw [ev]
    exact hMet
  · obtain ⟨res, ws', g', r', e1, e2, e3, e4, e5, e6, e7⟩ := hq'
    cases e1
    have hE' : ai_gE r' pz_E := by
      obtain ⟨ws2, -, -, q, -⟩ := e5
      exact q
    have hEm : ai_gE (pz_mix r' r) (sm_E pz_E nb) := pz_mixE hE' hE
    have hWm : ai_Wd D tyc A sa ws' (pz_mix r' r) ad (pz_G nb) t.heap := fn_trW (N0 := 44) (c1 := 0) (s1 := 0) N3 pz_mix_lo ai_ext.rfl' (by show 44 ≤ pz_E.1 + nb.length; rw [N1]; omega) hEm e5
    have hR' := hWm.rel (hS1 e7) (pz_ll_ok hE'.1 hE.1 hLl hLL) (pz_lf_ok hE'.1 hE.1 hSl hrest)
    have := k res ws' g' r' t.heap locs1 rest' e2 e3 e4 e6 hR'
    rw [rb1, rb2]
    exact this
/-- a call of a method that gives nothing back -/
theorem pz_callv (hpl : ls_plain mi = true) (hplj : ls_plain mj = true) (hmj : mj < 1000) (hbud : ct_bud mj = (0, 0)) (F : ls_Fr p (lt_rm (n + 1) mi) s m args meth c D tyc A sa mi) (hl : l.stackTraces = false) (hck : pz_ck mi pc mj S (.inr (.inr (some (some 264))) :: xs.map (fun x => .inl x)) S' = true) (hW : pz_W tyc ws g) (hR : ai_Rel D tyc A s sa ws (ct_mt mi).2.2.1 r ad L S (pz_G nb) H locs ls st)
    (hLl : L.all pz_lv = true) (hSl : S'.all pz_lv = true) (hC : ∀ vs : List Int32, vs.map Int32.toInt = xs.map (ai_vx r) → pz_Ct n mj false vs Pre Post) (hPre : Pre r g)
    (k : ∀ (ws' : va_W) (g' : Nat → Int32) (r' : Nat → Int) (H' : Heap) (locs' : List Loc) (rest : List Value), pz_sm ws ws' → pz_W tyc ws' g' → Post r g r' g' → ai_Rel D tyc A s sa ws' (ct_mt mi).2.2.1 (pz_mix r' r) ad L S' (pz_G nb) H' locs' ls rest → W p l e (lt_rm (n + 1) mi) s m args below meth c H' locs' 0 0 Q (F0 m (pc + 3) ls rest)) :
    W p l e (lt_rm (n + 1) mi) s m args below meth c H locs 0 0 Q (F0 m pc ls st) :=
  pz_call0 hpl hplj hmj hbud F hl hck hW hR hLl hSl hC hPre (fun res ws' g' r' H' locs' rest h1 h2 h3 h4 h5 => by
    cases res with
    | none => exact k ws' g' r' H' locs' rest h2 h3 h4 h5
    | some _ => cases h1)
/-- a call of a method that gives a number back -/
theorem pz_calli (hpl : ls_plain mi = true) (hplj : ls_plain mj = true) (hmj : mj < 1000) (hbud : ct_bud mj = (0, 0)) (F : ls_Fr p (lt_rm (n + 1) mi) s m args meth c D tyc A sa mi) (hl : l.stackTraces = false) (hck : pz_ck mi pc mj S (.inr (.inr (some (some 264))) :: xs.map (fun x => .inl x)) S' = true) (hW : pz_W tyc ws g) (hR : ai_Rel D tyc A s sa ws (ct_mt mi).2.2.1 r ad L S (pz_G nb) H locs ls st)
    (hLl : L.all pz_lv = true) (hSl : S'.all pz_lv = true) (hC : ∀ vs : List Int32, vs.map Int32.toInt = xs.map (ai_vx r) → pz_Ct n mj true vs Pre Post) (hPre : Pre r g)
    (k : ∀ (ws' : va_W) (g' : Nat → Int32) (r' r2 : Nat → Int) (H' : Heap) (locs' : List Loc) (st' : List Value), pz_sm ws ws' → pz_W tyc ws' g' → Post r g r' g' → ai_ext (pz_G nb).1.1 (pz_mix r' r) r2 → ai_Rel D tyc A s sa ws' (ct_mt mi).2.2.1 r2 ad L (.inl ((pz_G nb).1.1, 0) :: S') (hg_new (pz_G nb) (ai_lo32, ai_hi32)) H' locs' ls st' → W p l e (lt_rm (n + 1) mi) s m args below meth c H' locs' 0 0 Q (F0 m (pc + 3) ls st')) :
    W p l e (lt_rm (n + 1) mi) s m args below meth c H locs 0 0 Q (F0 m pc ls st) :=
  pz_call0 hpl hplj hmj hbud F hl hck hW hR hLl hSl hC hPre (fun res ws' g' r' H' locs' rest h1 h2 h3 h4 h5 => by
    cases res with
    | none => cases h1
    | some i =>
      obtain ⟨r2, w1, w2, w3, w4, w5⟩ := ai_new_ok (b := (ai_lo32, ai_hi32)) (E := (pz_G nb).1) h5.env (ai_i32 i) (ai_small32 (ai_i32 i)) (show ai_new (pz_G nb).1 (ai_lo32, ai_hi32) = (((pz_G nb).1.1, 0), (ai_new (pz_G nb).1 (ai_lo32, ai_hi32)).2) from rfl)
      exact k ws' g' r' r2 H' locs' (.int i :: rest) h2 h3 h4 w1 (h5.re w1 w2 w3 ⟨⟨w4, i, rfl, w5.symm⟩, h5.stk.mono w1 ai_ext.rfl' w2 (Nat.le_refl _)⟩))
/-- an end without an answer -/
theorem pz_ret {ri : Bool} {ws0 : va_W} {g0 : Nat → Int32} {r0 : Nat → Int} (hri : ri = false) (F : ls_Fr p (lt_rm (n + 1) mi) s m args meth c D tyc A sa mi) (hret : meth.sig.returnType = (ct_mt mi).2.2.2.1) (hdg : decode (ct_mt mi).2.1 pc = .ok (.return_, 1)) (hv : (ct_mt mi).2.2.2.1 = none) (hsm : pz_sm ws0 ws) (hW : pz_W tyc ws g) (hR : ai_Rel D tyc A s sa ws (ct_mt mi).2.2.1 r ad L [] (pz_G nb) H locs ls st) (hPost : Post r0 g0 r g) :
    W p l e (lt_rm (n + 1) mi) s m args below meth c H locs 0 0 (vx_MQ below (fun _ st o t => ∃ (res : Option Int32) (ws' : va_W) (g' : Nat → Int32) (r' : Nat → Int), o = .returned (res.map Value.int) ∧ res.isSome = ri ∧ pz_sm ws0 ws' ∧ pz_W tyc ws' g' ∧ ai_Wd D tyc A sa ws' r' ad (pz_E, pz_h, 0, 0) t.heap ∧ Post r0 g0 r' g' ∧ va_F A st t) (fun _ _ _ => False) args s (lt_rm (n + 1) mi).cells (lt_rm (n + 1) mi).slots A) (F0 m pc ls st) := by
  obtain ⟨N1, N2, N3, N4, N5⟩ := pz_N
  obtain ⟨hx, hb, hml, hts, hown, hSt0, hA, hbud, hcls, hroom, hlocks⟩ := F
  have hE := hR.env
  obtain ⟨hWd, hS, hLL, hSt⟩ := hR.wd
  have ht : st = [] := by
    cases st with
    | nil => rfl
    | cons w t => exact hSt.elim
  subst ht
  refine W.widen (Nat.zero_le _) (Nat.zero_le _) (vx_ret (W.vret hx hb (hret.trans hv) (fun t ht _ => ?_) hS.2.2 hdg hlocks))
  refine ⟨none, ws, g, r, rfl, by rw [hri]; rfl, hsm, hW, ?_, hPost, hS.F ht⟩
  rw [ht]
  exact fn_trW (N0 := 44) N3 ai_ext.rfl' ai_ext.rfl' (by rw [N1]; exact Nat.le_refl _) (pz_Esub hE) hWd
end PZ
