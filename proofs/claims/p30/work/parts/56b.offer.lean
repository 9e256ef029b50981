/-! THE PARSER: offer: the walk -/
noncomputable def of_sm (ws ws' : va_W) : Prop := ∀ x, x + 16 < 336 → x ≠ 270 → x ≠ 271 → x ≠ 272 → x ≠ 273 → x ≠ 274 → x ≠ 277 → ai_cell pz_h (x + 16) = none → ws'[x]? = ws[x]?
theorem of_sm.rf {ws : va_W} : of_sm ws ws := fun _ _ _ _ _ _ _ _ _ => rfl
theorem of_sm.tr {a b c : va_W} (h : of_sm a b) (g : of_sm b c) : of_sm a c := fun x h1 h2 h3 h4 h5 h6 h7 h8 => (g x h1 h2 h3 h4 h5 h6 h7 h8).trans (h x h1 h2 h3 h4 h5 h6 h7 h8)
theorem of_sm.cl {a b : va_W} (h : cl_sm a b) : of_sm a b := fun x h1 h2 h3 h4 h5 h6 _ h8 => h x h1 h2 h3 h4 h5 h6 h8
theorem of_sm.ne {a b : va_W} {q : Nat} (hq : q = 286 ∨ q = 288 ∨ q = 289 ∨ q = 290 ∨ q = 287 ∨ q = 293) (h : ∀ x, x ≠ q - 16 → b[x]? = a[x]?) : of_sm a b := fun x _ h2 h3 h4 h5 h6 h7 _ => h x (by omega)
noncomputable def of_fx (r r' : Nat → Int) : Prop := ∀ t, 1 ≤ t → t < 44 → pz_tc t = false → t ≠ 1 → t ≠ 6 → t ≠ 8 → t ≠ 16 → r' t = r t
theorem of_fx.tr {a b c : Nat → Int} (h : of_fx a b) (g : of_fx b c) : of_fx a c := fun t h1 h2 h3 h4 h5 h6 h7 => (g t h1 h2 h3 h4 h5 h6 h7).trans (h t h1 h2 h3 h4 h5 h6 h7)
theorem of_fx.pz {a b : Nat → Int} (h : pz_fx a b) : of_fx a b := fun t h1 h2 h3 _ _ _ _ => h t h1 h2 h3
theorem of_fx.al {a b : Nat → Int} (h : ∀ t, 1 ≤ t → t < 44 → b t = a t) : of_fx a b := fun t h1 h2 _ _ _ _ _ => h t h1 h2
theorem of_fx.cg {a b c : Nat → Int} (h : of_fx a b) (g : ∀ t, 1 ≤ t → t < 44 → c t = b t) : of_fx a c := h.tr (of_fx.al g)
noncomputable def of_B (f : Nat → Int32) : Prop := ∀ j, j < 4 → 0 ≤ (f j).toInt ∧ (f j).toInt ≤ 1
noncomputable def of_Q (D : va_G) (tyc : Nat → ClassId) (A : Nat → Prop) (sa : ai_B) (ws : va_W) (r : Nat → Int) (ad : Nat → Nat) : Array Value → State → Outcome → State → Prop := fun _ st o t => ∃ (i : Int32) (ws' : va_W) (f1' f2' f3' g' fb' : Nat → Int32) (r' : Nat → Int), o = .returned (some (.int i)) ∧ of_sm ws ws' ∧ cl_W tyc ws' f1' f2' f3' g' ∧ (hg_za tyc ws' 293 4 fb' ∧ of_B fb') ∧ ai_Wd D tyc A sa ws' r' ad (pz_E, pz_h, 0, 0) t.heap ∧ of_fx r r' ∧ va_F A st t
/-- the arrays while the fifth row is copied -/
noncomputable def of_A (tyc : Nat → ClassId) (ws ws1 : va_W) (f1 f2 f3 g f1' f2' f3' g' : Nat → Int32) (v i j : Nat) : Prop :=
  (hg_ia tyc ws1 286 5 f1' ∧ hg_ia tyc ws1 288 40 f2' ∧ hg_ia tyc ws1 289 40 f3' ∧ hg_ia tyc ws1 290 2000 g' ∧ (∃ fi, hg_ia tyc ws1 287 40 fi) ∧ ∃ fb, hg_za tyc ws1 293 4 fb ∧ of_B fb) ∧ of_sm ws ws1 ∧ (f1' v = f1 4 ∧ ∀ x, x ≠ v → f1' x = f1 x) ∧ ((∀ x, ¬ (8 * v ≤ x ∧ x < 8 * v + 8) → f2' x = f2 x) ∧ ∀ q, q < i → (f2' (8 * v + q)).toInt = (f2 (32 + q)).toInt) ∧ ((∀ x, ¬ (8 * v ≤ x ∧ x < 8 * v + 8) → f3' x = f3 x) ∧ ∀ q, q < i → (f3' (8 * v + q)).toInt = (f3 (32 + q)).toInt) ∧ ((∀ x, ¬ (400 * v ≤ x ∧ x < 400 * v + 400) → g' x = g x) ∧ ∀ q, q < j → (g' (400 * v + q)).toInt = (g (1600 + q)).toInt)
theorem of_done {tyc : Nat → ClassId} {ws ws1 : va_W} {f1 f2 f3 g f1' f2' f3' g' : Nat → Int32} {v c : Nat} (hv : v < 4) (hP : pw_ok f1 f2 f3 g) (hO : cl_ok c f1 f2 f3 g) (hc : c ≤ 400) (h : of_A tyc ws ws1 f1 f2 f3 g f1' f2' f3' g' v 8 c) : cl_W tyc ws1 f1' f2' f3' g' := by
  obtain ⟨⟨a1, a2, a3, a4, a5, -⟩, -, ⟨b1, b2⟩, ⟨c1, c2⟩, ⟨d1, d2⟩, e1, e2⟩ := h
  refine ⟨a1, a2, a3, a4, fun m hm => ?_, a5⟩
  by_cases q : m = v
  · subst q
    rw [b1]
    refine ⟨hO.1, fun k hk => ?_⟩
    obtain ⟨i, j, h1, h2, h3, h4, h5⟩ := hO.2 k hk
    have h8 := hO.1
    refine ⟨i, j, (c2 k (by omega)).trans h1, (d2 k (by omega)).trans h2, h3, by omega, pw_cg (fun q hq => e2 q (by omega)) h5⟩
  · rw [b2 m q]
    obtain ⟨p1, p2⟩ := hP m hm
    refine ⟨p1, fun k hk => ?_⟩
    obtain ⟨i, j, h1, h2, h3, h4, h5⟩ := p2 k hk
    have hk8 : k < 8 := by omega
    refine ⟨i, j, by rw [c1 _ (by omega)]; exact h1, by rw [d1 _ (by omega)]; exact h2, h3, h4, pw_cg (fun q hq => by rw [e1 _ (by omega)]) h5⟩
theorem pz_in2 {vm vn : Int32} {r : Nat → Int} {ad : Nat → Nat} (hE : ai_gE r pz_E) : ∃ r1, ai_ext 44 r r1 ∧ ai_gE r1 (sm_E pz_E [rn_b, rn_b]) ∧ ai_gF r1 ad (44 + [rn_b, rn_b].length) 336 [pz_this, .inl (44, 0), .inl (45, 0)] (Value.ref (ad 264) :: [vm, vn].map Value.int) ∧ r1 44 = vm.toInt ∧ r1 45 = vn.toInt := by
  obtain ⟨N1, N2, N3, N4, N5⟩ := pz_N
  let r1 : Nat → Int := fun t => if t = 44 then vm.toInt else if t = 45 then vn.toInt else r t
  have e44 : r1 44 = vm.toInt := if_pos rfl
  have e45 : r1 45 = vn.toInt := (if_neg (by omega)).trans (if_pos rfl)
  have elo : ∀ t, t < 44 → r1 t = r t := fun t ht => (if_neg (by omega)).trans (if_neg (by omega))
  have hm := ai_i32 vm
  have hn := ai_i32 vn
  refine ⟨r1, elo, ⟨(elo 0 (by omega)).trans hE.1, Nat.lt_of_lt_of_le hE.2.1 (Nat.le_add_right _ _), fun t ht => ?_, fun q hq => ?_, fun q hq => by cases hq⟩, ⟨⟨by omega, rfl⟩, ⟨by show 44 < 46; omega, vm, rfl, by show vm.toInt = r1 44 + 0; rw [e44, Int.add_zero]⟩, ⟨by show 45 < 46; omega, vn, rfl, by show vn.toInt = r1 45 + 0; rw [e45, Int.add_zero]⟩, trivial⟩, e44, e45⟩
  · have ht : t < pz_E.1 + 2 := ht
    rw [N1] at ht
    by_cases q : t < 44
    · rw [elo t q]
      exact hE.2.2.1 t (by rw [N1]; exact q)
    · by_cases q4 : t = 44
      · rw [q4, e44]
        unfold ai_lo32 ai_hi32 at hm
        unfold ai_lo64 ai_hi64
        omega
      · have q5 : t = 45 := by omega
        rw [q5, e45]
        unfold ai_lo32 ai_hi32 at hn
        unfold ai_lo64 ai_hi64
        omega
  · rcases List.mem_append.mp hq with hq | hq
    · have hq : q ∈ [(pz_E.1, rn_b), (pz_E.1 + 1, rn_b)] := hq
      rw [N1] at hq
      show q.1 < pz_E.1 + 2 ∧ _
      rw [N1]
      rcases List.mem_cons.mp hq with rfl | hq
      · exact ⟨by omega, by show ai_lo32 ≤ r1 44; rw [e44]; exact hm.1, by show r1 44 ≤ ai_hi32; rw [e44]; exact hm.2⟩
      · rcases List.mem_cons.mp hq with rfl | hq
        · exact ⟨by omega, by show ai_lo32 ≤ r1 45; rw [e45]; exact hn.1, by show r1 45 ≤ ai_hi32; rw [e45]; exact hn.2⟩
        · cases hq
    · have h44 := N5 q hq
      rw [elo q.1 h44]
      exact ⟨by show q.1 < pz_E.1 + 2; omega, (hE.2.2.2.1 q hq).2⟩
section OW
variable {p : Program} {l : Launch} {e : Env} {s : State} {m : MethodId} {args : Array Value} {below : List Frame} {meth : Method} {c : Code}
variable {D : va_G} {tyc : Nat → ClassId} {A : Nat → Prop} {sa : ai_B} {ws : va_W} {r : Nat → Int} {ad : Nat → Nat} {f1 f2 f3 g : Nat → Int32} {v n : Nat}
abbrev of_G (below : List Frame) (D : va_G) (tyc : Nat → ClassId) (A : Nat → Prop) (sa : ai_B) (ws : va_W) (r : Nat → Int) (ad : Nat → Nat) (args : Array Value) (s : State) (n : Nat) : State → Prop := vx_MQ below (of_Q D tyc A sa ws r ad) (fun _ _ _ => False) args s (lt_rm (n + 1) 203).cells (lt_rm (n + 1) 203).slots A
set_option maxHeartbeats 2000000 in
/-- the codes are copied -/
theorem of_codes (hv : v < 4) (hP : pw_ok f1 f2 f3 g) (F : ls_Fr p (lt_rm (n + 1) 203) s m args meth c D tyc A sa 203) (hret : meth.sig.returnType = (ct_mt 203).2.2.2.1) {f1' f2' f3' : Nat → Int32} : ∀ k j, j + k = 400 → ∀ (ws1 : va_W) (g' : Nat → Int32) (r1 : Nat → Int) (H : Heap) (locs : List Loc) (ls : Array Slot) (st : List Value), of_A tyc ws ws1 f1 f2 f3 g f1' f2' f3' g' v 8 j → cl_ok (r1 17).toNat f1 f2 f3 g → of_fx r r1 → r1 44 = (j : Int) → (j : Int) ≤ r1 17 → ai_Rel D tyc A s sa ws1 (ct_mt 203).2.2.1 r1 ad (of_Lj v) [] (pz_G [(0, 400)]) H locs ls st → W p l e (lt_rm (n + 1) 203) s m args below meth c H locs 0 0 (of_G below D tyc A sa ws r ad args s n) (F0 m 224 ls st) := by
  obtain ⟨o1, o2, o3, o4⟩ := pz_offs
  obtain ⟨c1, c2, c3, ⟨i18, i36, i128, i261⟩, d68, d139, d140, d147, d175, d195, d215, d253⟩ := of_pl
  have hk := of_kk4 v hv
  unfold of_k4 at hk
  simp only [Bool.and_eq_true] at hk
  obtain ⟨K1, K2, K3⟩ := hk
  intro k
  induction k with
  | zero =>
    intro j hj ws1 g' r1 H locs ls st hA hO hfx h44 hle hR
    have hb := pz_bd hR.env
    refine cp_run K1 c1 F (by omega) hA.1.2.2.2.1 hR (fun z hz r' ad' x1 x2 hlog H' locs' ls' st' hR' => ?_)
    have x1 : ai_ext 45 r1 r' := x1
    unfold of_c4 at hz
    rw [Bool.or_eq_true, Bool.and_eq_true, Bool.and_eq_true] at hz
    rcases hz with ⟨hz1, hz2⟩ | ⟨hz1, hz2⟩
    · obtain ⟨e1, e2, e3, r2, hR2, u1, u2⟩ := pz_to_ok hz2 x2 hR'
      rw [e1, e2, e3]
      have v2 : ∀ t, 1 ≤ t → t < 44 → r2 t = r1 t := fun t h1 h2 => (u1 t h1 h2 rfl).trans (x1 t (by omega))
      refine cp_run K3 c1 F (by omega) hA.1.2.2.2.1 hR2 (fun z hz r' ad' y1 y2 hlog H' locs' ls' st' hR' => ?_)
      obtain ⟨e1, e2, e3, r3, hR3, u3, u4⟩ := pz_to_ok hz y2 hR'
      rw [e1, e2, e3]
      have y1 : ai_ext 44 r2 r' := y1
      have v3 : ∀ t, 1 ≤ t → t < 44 → r3 t = r1 t := fun t h1 h2 => (u3 t h1 h2 rfl).trans ((y1 t h2).trans (v2 t h1 h2))
      obtain ⟨fb, hfb⟩ := hA.1.2.2.2.2.2
      have ec : (r1 17).toNat = j := by omega
      rw [ec] at hO
      exact pz_retiG F c1 hret i261 hR3 (fun t i hi hw hF => ⟨i, ws1, f1', f2', f3', g', fb, r3, rfl, hA.2.1, of_done hv hP hO (by omega) hA, hfb, hw, hfx.cg v3, hF⟩)
    · have := (fn_m_cmp' (by omega) (hlog _ (sq_has_ok hz1 _ List.mem_cons_self))).mpr (by
        show r' 17 + 0 ≤ r' 44 + 0
        rw [x1 17 (by omega), x1 44 (by omega)]
        omega)
      cases this
  | succ k ih =>
    intro j hj ws1 g' r1 H locs ls st hA hO hfx h44 hle hR
    have hb := pz_bd hR.env
    refine cp_run K1 c1 F (by omega) hA.1.2.2.2.1 hR (fun z hz r' ad' x1 x2 hlog H' locs' ls' st' hR' => ?_)
    have x1 : ai_ext 45 r1 r' := x1
    unfold of_c4 at hz
    rw [Bool.or_eq_true, Bool.and_eq_true, Bool.and_eq_true] at hz
    rcases hz with ⟨hz1, hz2⟩ | ⟨hz1, hz2⟩
    · have hge := (fn_m_cmp' (by omega) (hlog _ (sq_has_ok hz1 _ List.mem_cons_self))).mp rfl
      have hge : r' 17 + 0 ≤ r' 44 + 0 := hge
      rw [x1 17 (by omega), x1 44 (by omega)] at hge
      obtain ⟨e1, e2, e3, r2, hR2, u1, u2⟩ := pz_to_ok hz2 x2 hR'
      rw [e1, e2, e3]
      have v2 : ∀ t, 1 ≤ t → t < 44 → r2 t = r1 t := fun t h1 h2 => (u1 t h1 h2 rfl).trans (x1 t (by omega))
      refine cp_run K3 c1 F (by omega) hA.1.2.2.2.1 hR2 (fun z hz r' ad' y1 y2 hlog H' locs' ls' st' hR' => ?_)
      obtain ⟨e1, e2, e3, r3, hR3, u3, u4⟩ := pz_to_ok hz y2 hR'
      rw [e1, e2, e3]
      have y1 : ai_ext 44 r2 r' := y1
      have v3 : ∀ t, 1 ≤ t → t < 44 → r3 t = r1 t := fun t h1 h2 => (u3 t h1 h2 rfl).trans ((y1 t h2).trans (v2 t h1 h2))
      obtain ⟨fb, hfb⟩ := hA.1.2.2.2.2.2
      have ec : (r1 17).toNat = j := by omega
      rw [ec] at hO
      exact pz_retiG F c1 hret i261 hR3 (fun t i hi hw hF => ⟨i, ws1, f1', f2', f3', g', fb, r3, rfl, hA.2.1, of_done hv hP hO (by omega) hA, hfb, hw, hfx.cg v3, hF⟩)
    · have hlt : ¬ (r1 17 ≤ r1 44) := fun q => by
        have := (fn_m_cmp' (by omega) (hlog _ (sq_has_ok hz1 _ List.mem_cons_self))).mpr (by
          show r' 17 + 0 ≤ r' 44 + 0
          rw [x1 17 (by omega), x1 44 (by omega)]
          omega)
        cases this
      have hval := fn_m_fun' (by omega) (hlog _ (sq_has_ok hz1 _ (List.mem_cons_of_mem _ List.mem_cons_self)))
      have hval : r' 45 + 0 = (g' (r' 44 + 1600).toNat).toInt := hval
      have a44 : r' 44 = (j : Int) := (x1 44 (by omega)).trans h44
      rw [a44, show ((j : Int) + 1600).toNat = 1600 + j by omega] at hval
      obtain ⟨e1, e2, e3, r2, hR2, u1, u2⟩ := pz_to_ok hz2 x2 hR'
      rw [e1, e2, e3]
      have n2 : ∀ t, t < 44 → ([(44, (44, 0)), (45, (45, 0)), (46, (44, .ofNat (400 * v)))] : List (Nat × ai_X)).all (fun q => !(Nat.beq q.1 t)) = true := fun t ht => pz_ne3 (by omega) (by omega) (by omega)
      have v2 : ∀ t, 1 ≤ t → t < 44 → r2 t = r1 t := fun t h1 h2 => (u1 t h1 h2 (n2 t h2)).trans (x1 t (by omega))
      have w44 : r2 44 = (j : Int) := by
        have : r2 44 = r' 44 + 0 := u2 _ List.mem_cons_self
        rw [this, Int.add_zero, a44]
      have w45 : r2 45 = r' 45 + 0 := u2 _ (List.mem_cons_of_mem _ List.mem_cons_self)
      have w46 : r2 46 = r' 44 + ((400 * v : Nat) : Int) := u2 _ (List.mem_cons_of_mem _ (List.mem_cons_of_mem _ List.mem_cons_self))
      refine hg_iast (v := (45, 0)) F d253 hR2 (by omega) (Option.isNone_iff_eq_none.mp o4) hA.1.2.2.2.1 (j := 400 * v + j) (by omega) (by
        show r2 46 + 0 = _
        rw [w46, a44]
        omega) (fun ws2 H2 locs2 st2 g2 q1 q2 q3 q4 hR2b => ?_)
      have q2 : (g2 (400 * v + j)).toInt = (g (1600 + j)).toInt := by
        rw [q2]
        show r2 45 + 0 = _
        rw [Int.add_zero, w45, hval, hA.2.2.2.2.2.1 (1600 + j) (by omega)]
      obtain ⟨⟨a1, a2, a3, a4, ⟨fi, a5⟩, fb, a6, a7⟩, b0, b1, b2, b3, b4, b5⟩ := hA
      have hA2 : of_A tyc ws ws2 f1 f2 f3 g f1' f2' f3' g2 v 8 (j + 1) := ⟨⟨a1.cg (q4 _ (by omega)), a2.cg (q4 _ (by omega)), a3.cg (q4 _ (by omega)), q1, ⟨fi, a5.cg (q4 _ (by omega))⟩, fb, a6.cg (q4 _ (by omega)), a7⟩, b0.tr (of_sm.ne (q := 290) (by omega) q4), b1, b2, b3, fun x hx => (q3 x (by omega)).trans (b4 x hx), fun q hq => by
        by_cases z : q = j
        · rw [z]
          exact q2
        · rw [q3 _ (by omega)]
          exact b5 q (by omega)⟩
      refine cp_run K2 c1 F (by omega) q1 hR2b (fun z hz r' ad' y1 y2 hlog H' locs' ls' st' hR' => ?_)
      obtain ⟨e1, e2, e3, r3, hR3, u3, u4⟩ := pz_to_ok hz y2 hR'
      rw [e1, e2, e3]
      have y1 : ai_ext 47 r2 r' := y1
      have v3 : ∀ t, 1 ≤ t → t < 44 → r3 t = r1 t := fun t h1 h2 => (u3 t h1 h2 (pz_all1 h2)).trans ((y1 t (by omega)).trans (v2 t h1 h2))
      have x17 := v3 17 (by omega) (by omega)
      refine ih (j + 1) (by omega) ws2 g2 r3 H' locs' ls' st' hA2 (by rw [x17]; exact hO) (hfx.cg v3) ?_ (by omega) hR3
      have : r3 44 = r' 44 + 1 := u4 _ List.mem_cons_self
      rw [this, y1 44 (by omega), w44]
      omega
set_option maxHeartbeats 2000000 in
/-- the clauses are copied -/
theorem of_rows (hv : v < 4) (hP : pw_ok f1 f2 f3 g) (F : ls_Fr p (lt_rm (n + 1) 203) s m args meth c D tyc A sa 203) (hret : meth.sig.returnType = (ct_mt 203).2.2.2.1) {f1' : Nat → Int32} : ∀ k i, i + k = 8 → ∀ (ws1 : va_W) (f2' f3' : Nat → Int32) (r1 : Nat → Int) (H : Heap) (locs : List Loc) (ls : Array Slot) (st : List Value), of_A tyc ws ws1 f1 f2 f3 g f1' f2' f3' g v i 0 → cl_ok (r1 17).toNat f1 f2 f3 g → of_fx r r1 → ai_Rel D tyc A s sa ws1 (ct_mt 203).2.2.1 r1 ad (of_Lk v i) [] (pz_G []) H locs ls st → W p l e (lt_rm (n + 1) 203) s m args below meth c H locs 0 0 (of_G below D tyc A sa ws r ad args s n) (F0 m 150 ls st) := by
  obtain ⟨o1, o2, o3, o4⟩ := pz_offs
  obtain ⟨c1, c2, c3, ⟨i18, i36, i128, i261⟩, d68, d139, d140, d147, d175, d195, d215, d253⟩ := of_pl
  intro k
  induction k with
  | zero =>
    intro i hi ws1 f2' f3' r1 H locs ls st hA hO hfx hR
    have e8 : i = 8 := by omega
    subst e8
    have hk := of_kk2 v hv
    unfold of_k2 at hk
    simp only [Bool.and_eq_true] at hk
    obtain ⟨K1, K2, K3⟩ := hk
    refine cp_run K3 c1 F (by omega) hA.1.2.2.2.1 hR (fun z hz r' ad' x1 x2 hlog H' locs' ls' st' hR' => ?_)
    obtain ⟨e1, e2, e3, r2, hR2, u1, u2⟩ := pz_to_ok hz x2 hR'
    rw [e1, e2, e3]
    have x1 : ai_ext 44 r1 r' := x1
    have v2 : ∀ t, 1 ≤ t → t < 44 → r2 t = r1 t := fun t h1 h2 => (u1 t h1 h2 rfl).trans (x1 t h2)
    have hb := pz_bd (nb := []) hR2.env
    -- a number for the local
    have hx : ai_ext 44 r2 (ai_upd r2 44 0) := ai_upd_ext _ _ _
    have hat : ai_upd r2 44 0 44 = 0 := ai_upd_at _ _ _
    have N1 : pz_E.1 = 44 := pz_N.1
    have hE' : ai_gE r2 (44, pz_E.2.1, []) := by
      have h := pz_Esub hR2.env
      exact ⟨h.1, by show 0 < 44; omega, fun t ht => h.2.2.1 t (by rw [N1]; exact ht), fun q hq => ⟨pz_N.2.2.2.2 q hq, (h.2.2.2.1 q hq).2⟩, fun q hq => by cases hq⟩
    have hE2 : ai_gE (ai_upd r2 44 0) (sm_E pz_E [(0, 400)]) := by
      have := hE'.push (lo := 0) (hi := 400) (v := 0) (by omega) (by omega) (by unfold ai_lo64 ai_hi64; omega)
      unfold sm_E
      rw [N1]
      exact this
    have hR3 : ai_Rel D tyc A s sa ws1 (ct_mt 203).2.2.1 (ai_upd r2 44 0) ad (of_Lk v 0) [] (pz_G [(0, 400)]) H' locs' ls' st' := by
      refine hR2.re (E' := sm_E pz_E [(0, 400)]) (by show ai_ext (pz_E.1 + 0) _ _; rw [N1]; exact hx) (Nat.le_succ _) hE2 ?_
      have h := hR2.stk
      cases st' with
      | nil => trivial
      | cons _ _ => exact h.elim
    have hR4 : ai_Rel D tyc A s sa ws1 (ct_mt 203).2.2.1 (ai_upd r2 44 0) ad (of_Lj v) [] (pz_G [(0, 400)]) H' locs' ls' st' := pz_reloc hR3 rfl (fun i => match i with
      | 0 => Or.inl rfl
      | 1 => Or.inl rfl
      | 2 => Or.inl rfl
      | 3 => Or.inr ⟨(0, .ofNat 0), (44, 0), rfl, rfl, by
          show ai_upd r2 44 0 44 + 0 = ai_upd r2 44 0 0 + 0
          rw [hat, hx 0 (by omega), hR2.env.1], by show 44 < pz_E.1 + 1; rw [N1]; omega⟩
      | n + 4 => Or.inl rfl)
    have v4 : ∀ t, 1 ≤ t → t < 44 → ai_upd r2 44 0 t = r1 t := fun t h1 h2 => (hx t h2).trans (v2 t h1 h2)
    have x17 := v4 17 (by omega) (by omega)
    have y17 := v2 17 (by omega) (by omega)
    exact of_codes hv hP F hret 400 0 (by omega) ws1 g _ H' locs' ls' st' hA (by rw [x17]; exact hO) (hfx.cg v4) hat (by show (0 : Int) ≤ _; omega) hR4
  | succ k ih =>
    intro i hi ws1 f2' f3' r1 H locs ls st hA hO hfx hR
    have hk := of_kk3 v hv i (by omega)
    unfold of_k3 at hk
    simp only [Bool.and_eq_true] at hk
    obtain ⟨K1, K2, K3, K4⟩ := hk
    obtain ⟨⟨a1, a2, a3, a4, ⟨fi, a5⟩, fb, a6, a7⟩, b0, b1, ⟨b2, b2'⟩, ⟨b3, b3'⟩, b4, b5⟩ := hA
    -- what the clause is
    refine cp_run K1 c1 F (by omega) a5 hR (fun z hz r' ad' x1 x2 hlog H' locs' ls' st' hR' => ?_)
    unfold of_cx at hz
    rw [Bool.and_eq_true] at hz
    obtain ⟨e1, e2, e3, r2, hR2, u1, u2⟩ := pz_to_ok hz.2 x2 hR'
    rw [e1, e2, e3]
    have x1 : ai_ext 44 r1 r' := x1
    have v2 : ∀ t, 1 ≤ t → t < 44 → r2 t = r1 t := fun t h1 h2 => (u1 t h1 h2 (pz_all1 h2)).trans (x1 t h2)
    refine hg_iast (v := (44, 0)) F d175 hR2 (by omega) (Option.isNone_iff_eq_none.mp pz_off2.1) a5 (j := 8 * v + i) (by omega) (pz_cst hR2.env.1 _) (fun ws2 H2 locs2 st2 fi2 q1 q2 q3 q4 hR2b => ?_)
    -- from where
    refine cp_run K2 c1 F (by omega) (a2.cg (q4 _ (by omega))) hR2b (fun z hz r' ad' x3 x4 hlog H3 locs3 ls3 st3 hR3' => ?_)
    unfold of_cx at hz
    rw [Bool.and_eq_true] at hz
    obtain ⟨e1, e2, e3, r3, hR3, u3, u4⟩ := pz_to_ok hz.2 x4 hR3'
    rw [e1, e2, e3]
    have x3 : ai_ext 45 r2 r' := x3
    have v3 : ∀ t, 1 ≤ t → t < 44 → r3 t = r1 t := fun t h1 h2 => (u3 t h1 h2 (pz_all1 h2)).trans ((x3 t (by omega)).trans (v2 t h1 h2))
    have hval := fn_m_fun' (by omega) (hlog _ (sq_has_ok hz.1 _ List.mem_cons_self))
    rw [pz_cst hR3'.env.1] at hval
    have hval : r' 45 + 0 = (f2' ((32 + i : Nat) : Int).toNat).toInt := hval
    have w3 : r3 44 = (f2 (32 + i)).toInt := by
      have : r3 44 = r' 45 + 0 := u4 _ List.mem_cons_self
      rw [this, hval, Int.toNat_natCast, b2 (32 + i) (by omega)]
    refine hg_iast (v := (44, 0)) F d195 hR3 (by omega) (Option.isNone_iff_eq_none.mp o2) (a2.cg (q4 _ (by omega))) (j := 8 * v + i) (by omega) (pz_cst hR3.env.1 _) (fun ws4 H4 locs4 st4 f24 p1 p2 p3 p4 hR3b => ?_)
    have p2 : (f24 (8 * v + i)).toInt = (f2 (32 + i)).toInt := by
      rw [p2]
      show r3 44 + 0 = _
      rw [Int.add_zero, w3]
    -- to where
    have h4 : ∀ x, x ≠ 271 → x ≠ 272 → ws4[x]? = ws1[x]? := fun x h1 h2 => (p4 x (by omega)).trans (q4 x (by omega))
    refine cp_run K3 c1 F (by omega) (a3.cg (h4 _ (by omega) (by omega))) hR3b (fun z hz r' ad' x5 x6 hlog H5 locs5 ls5 st5 hR5' => ?_)
    unfold of_cx at hz
    rw [Bool.and_eq_true] at hz
    obtain ⟨e1, e2, e3, r5, hR5, u5, u6⟩ := pz_to_ok hz.2 x6 hR5'
    rw [e1, e2, e3]
    have x5 : ai_ext 45 r3 r' := x5
    have v5 : ∀ t, 1 ≤ t → t < 44 → r5 t = r1 t := fun t h1 h2 => (u5 t h1 h2 (pz_all1 h2)).trans ((x5 t (by omega)).trans (v3 t h1 h2))
    have hval := fn_m_fun' (by omega) (hlog _ (sq_has_ok hz.1 _ List.mem_cons_self))
    rw [pz_cst hR5'.env.1] at hval
    have hval : r' 45 + 0 = (f3' ((32 + i : Nat) : Int).toNat).toInt := hval
    have w5 : r5 44 = (f3 (32 + i)).toInt := by
      have : r5 44 = r' 45 + 0 := u6 _ List.mem_cons_self
      rw [this, hval, Int.toNat_natCast, b3 (32 + i) (by omega)]
    refine hg_iast (v := (44, 0)) F d215 hR5 (by omega) (Option.isNone_iff_eq_none.mp o3) (a3.cg (h4 _ (by omega) (by omega))) (j := 8 * v + i) (by omega) (pz_cst hR5.env.1 _) (fun ws6 H6 locs6 st6 f36 t1 t2 t3 t4 hR5b => ?_)
    have t2 : (f36 (8 * v + i)).toInt = (f3 (32 + i)).toInt := by
      rw [t2]
      show r5 44 + 0 = _
      rw [Int.add_zero, w5]
    have h6 : ∀ x, x ≠ 271 → x ≠ 272 → x ≠ 273 → ws6[x]? = ws1[x]? := fun x h1 h2 h3 => (t4 x (by omega)).trans (h4 x h1 h2)
    have hA6 : of_A tyc ws ws6 f1 f2 f3 g f1' f24 f36 g v (i + 1) 0 := ⟨⟨a1.cg (h6 _ (by omega) (by omega) (by omega)), p1.cg (t4 _ (by omega)), t1, a4.cg (h6 _ (by omega) (by omega) (by omega)), ⟨fi2, q1.cg ((t4 _ (by omega)).trans (p4 _ (by omega)))⟩, fb, a6.cg (h6 _ (by omega) (by omega) (by omega)), a7⟩, ((b0.tr (of_sm.ne (q := 287) (by omega) q4)).tr (of_sm.ne (q := 288) (by omega) p4)).tr (of_sm.ne (q := 289) (by omega) t4), b1, ⟨fun x hx => (p3 x (by omega)).trans (b2 x hx), fun q hq => by
        by_cases z : q = i
        · rw [z]
          exact p2
        · rw [p3 _ (by omega)]
          exact b2' q (by omega)⟩, ⟨fun x hx => (t3 x (by omega)).trans (b3 x hx), fun q hq => by
        by_cases z : q = i
        · rw [z]
          exact t2
        · rw [t3 _ (by omega)]
          exact b3' q (by omega)⟩, b4, b5⟩
    refine cp_run K4 c1 F (by omega) hA6.1.2.2.2.1 hR5b (fun z hz r' ad' x7 x8 hlog H7 locs7 ls7 st7 hR7' => ?_)
    obtain ⟨e1, e2, e3, r7, hR7, u7, u8⟩ := pz_to_ok hz x8 hR7'
    rw [e1, e2, e3]
    have x7 : ai_ext 45 r5 r' := x7
    have v7 : ∀ t, 1 ≤ t → t < 44 → r7 t = r1 t := fun t h1 h2 => (u7 t h1 h2 rfl).trans ((x7 t (by omega)).trans (v5 t h1 h2))
    have x17 := v7 17 (by omega) (by omega)
    exact ih (i + 1) (by omega) ws6 f24 f36 r7 H7 locs7 ls7 st7 hA6 (by rw [x17]; exact hO) (hfx.cg v7) hR7
set_option maxHeartbeats 4000000 in
/-- from the head of the loop -/
theorem of_loop (hv : v < 4) (hn : 88 ≤ n) (hl : l.stackTraces = false) (F : ls_Fr p (lt_rm (n + 1) 203) s m args meth c D tyc A sa 203) (hret : meth.sig.returnType = (ct_mt 203).2.2.2.1) {fb : Nat → Int32} (hB : of_B fb) : ∀ (k : Nat) (ws1 : va_W) (f1 f2 f3 g : Nat → Int32) (r1 : Nat → Int) (H : Heap) (locs : List Loc) (ls : Array Slot) (st : List Value), of_sm ws ws1 → hg_za tyc ws1 293 4 fb → cl_W tyc ws1 f1 f2 f3 g → of_fx r r1 → (r1 14 = 0 → cl_I r1 f1 f2 f3 g ∧ 200 ≤ r1 12 + k) → ai_Rel D tyc A s sa ws1 (ct_mt 203).2.2.1 r1 ad (of_L v) [] (pz_G []) H locs ls st → W p l e (lt_rm (n + 1) 203) s m args below meth c H locs 0 0 (of_G below D tyc A sa ws r ad args s n) (F0 m 77 ls st) := by
  obtain ⟨o1, o2, o3, o4⟩ := pz_offs
  obtain ⟨c1, c2, c3, ⟨i18, i36, i128, i261⟩, d68, d139, d140, d147, d175, d195, d215, d253⟩ := of_pl
  have hk := of_kk1 v hv
  unfold of_k1 at hk
  simp only [Bool.and_eq_true] at hk
  obtain ⟨K1, K2, K3, K4, K5, K6⟩ := hk
  have hk2 := of_kk2 v hv
  unfold of_k2 at hk2
  simp only [Bool.and_eq_true] at hk2
  obtain ⟨J1, J2, J3⟩ := hk2
  have eN : (pz_G []).1.1 = 44 := pz_N.1
  have one : ∀ (nxt : Int → Prop), (∀ z, nxt z → ∀ (ws1 : va_W) (f1 f2 f3 g : Nat → Int32) (r1 : Nat → Int) (H : Heap) (locs : List Loc) (ls : Array Slot) (st : List Value), of_sm ws ws1 → hg_za tyc ws1 293 4 fb → cl_W tyc ws1 f1 f2 f3 g → of_fx r r1 → (r1 14 = 0 → cl_I r1 f1 f2 f3 g ∧ z < r1 12) → ai_Rel D tyc A s sa ws1 (ct_mt 203).2.2.1 r1 ad (of_L v) [] (pz_G []) H locs ls st → W p l e (lt_rm (n + 1) 203) s m args below meth c H locs 0 0 (of_G below D tyc A sa ws r ad args s n) (F0 m 77 ls st)) → ∀ (ws1 : va_W) (f1 f2 f3 g : Nat → Int32) (r1 : Nat → Int) (H : Heap) (locs : List Loc) (ls : Array Slot) (st : List Value), of_sm ws ws1 → hg_za tyc ws1 293 4 fb → cl_W tyc ws1 f1 f2 f3 g → of_fx r r1 → (r1 14 = 0 → cl_I r1 f1 f2 f3 g ∧ (r1 9 ≠ 0 → nxt (r1 12))) → ai_Rel D tyc A s sa ws1 (ct_mt 203).2.2.1 r1 ad (of_L v) [] (pz_G []) H locs ls st → W p l e (lt_rm (n + 1) 203) s m args below meth c H locs 0 0 (of_G below D tyc A sa ws r ad args s n) (F0 m 77 ls st) := by
    intro nxt hnxt ws1 f1 f2 f3 g r1 H locs ls st hsm hZ hC hfx hI hR
    have hb := pz_bd (nb := []) hR.env
    have n16 : ∀ (x : ai_X) (t : Nat), t ≠ 16 → ([(16, x)] : List (Nat × ai_X)).all (fun q => !(Nat.beq q.1 t)) = true := fun x t ht => by
      rw [List.all_cons, List.all_nil, Bool.and_true]
      cases q : Nat.beq 16 t with
      | false => rfl
      | true => exact absurd (Nat.eq_of_beq_eq_true q).symm ht
    by_cases h14 : r1 14 = 0
    · obtain ⟨⟨I1, I2, I3⟩, hz⟩ := hI h14
      by_cases h9 : r1 9 = 0
      · refine pz_seg (k0 := 0) K4 c1 F hl (show lt_all 0 [] from trivial) (by omega) hC.pz hR (pz_cap2 h14 (by omega) (by omega)) (fun f hf r' ad' x1 x2 H' locs' ls' st' hR' => ?_)
        obtain ⟨e1, e2, e3, r2, hR2, u1, u2⟩ := pz_to_ok hf x2 hR'
        rw [e1, e2, e3]
        have v2 : ∀ t, 1 ≤ t → t < 44 → t ≠ 16 → r2 t = r1 t := fun t h1 h2 h3 => (u1 t h1 h2 (n16 _ t h3)).trans (x1 t h2)
        refine hg_iald (b := (0, 8)) F d139 hR2 (by omega) (Option.isNone_iff_eq_none.mp o1) hC.1 (j := 4) (by omega) (pz_cst hR2.env.1 4) ⟨I3.1.1, I3.1.2⟩ (fun r3 st3 y1 y2 hR3 => ?_)
        rw [eN] at y1 y2 hR3
        have hR3 : ai_Rel D tyc A s sa ws1 (ct_mt 203).2.2.1 r3 ad (of_L v) [.inl (44, 0), .inl (0, .ofNat v), ck_r] (pz_G [(0, 8)]) H' locs' ls' st3 := hR3
        refine hg_iast (G := pz_G [(0, 8)]) (v := (44, 0)) F d140 hR3 (by omega) (Option.isNone_iff_eq_none.mp o1) hC.1 (j := v) (by omega) (pz_cst hR3.env.1 _) (fun ws4 H4 locs4 st4 f1' q1 q2 q3 q4 hR4 => ?_)
        have q2 : f1' v = f1 4 := Int32.toInt_inj.mp (by
          rw [q2]
          show r3 44 + 0 = _
          rw [y2, Int.add_zero])
        refine cp_run J1 c1 F (by omega) (hC.2.2.2.1.cg (q4 _ (by omega))) hR4 (fun z hz r' ad' y3 y4 hlog H5 locs5 ls5 st5 hR5' => ?_)
        obtain ⟨e1, e2, e3, r5, hR5, u3, u4⟩ := pz_to_ok hz y4 hR5'
        rw [e1, e2, e3]
        have y3 : ai_ext 45 r3 r' := y3
        refine hg_zast (v := (0, 1)) F d147 hR5 (by omega) (Option.isNone_iff_eq_none.mp pz_off2.2) (hZ.cg (q4 _ (by omega))) (j := v) (by omega) (pz_cst hR5.env.1 _) (Or.inr (pz_cst hR5.env.1 1)) (fun ws6 H6 locs6 st6 fb' p1 p2 p3 p4 hR6 => ?_)
        rw [pz_cst hR5.env.1] at p2
        have hB' : of_B fb' := fun j hj => by
          by_cases z : j = v
          · rw [z, p2]
            omega
          · rw [p3 j z]
            exact hB j hj
        have h6 : ∀ x, x ≠ 270 → x ≠ 277 → ws6[x]? = ws1[x]? := fun x h1 h2 => (p4 x (by omega)).trans (q4 x (by omega))
        refine cp_run J2 c1 F (by omega) (hC.2.2.2.1.cg (h6 _ (by omega) (by omega))) hR6 (fun z hz r' ad' y5 y6 hlog H7 locs7 ls7 st7 hR7' => ?_)
        obtain ⟨e1, e2, e3, r7, hR7, u5, u6⟩ := pz_to_ok hz y6 hR7'
        rw [e1, e2, e3]
        have y5 : ai_ext 44 r5 r' := y5
        have v7 : ∀ t, 1 ≤ t → t < 44 → t ≠ 16 → r7 t = r1 t := fun t h1 h2 h3 => (u5 t h1 h2 rfl).trans ((y5 t h2).trans ((u3 t h1 h2 rfl).trans ((y3 t (by omega)).trans ((y1 t h2).trans (v2 t h1 h2 h3)))))
        obtain ⟨fi, hfi⟩ := hC.2.2.2.2.2
        have e17 := v7 17 (by omega) (by omega) (by omega)
        refine of_rows hv hC.2.2.2.2.1 F hret (f1' := f1') 8 0 (by omega) ws6 f2 f3 r7 H7 locs7 ls7 st7 ⟨⟨q1.cg (p4 _ (by omega)), hC.2.1.cg (h6 _ (by omega) (by omega)), hC.2.2.1.cg (h6 _ (by omega) (by omega)), hC.2.2.2.1.cg (h6 _ (by omega) (by omega)), ⟨fi, hfi.cg (h6 _ (by omega) (by omega))⟩, fb', p1, hB'⟩, (hsm.tr (of_sm.ne (q := 286) (by omega) q4)).tr (of_sm.ne (q := 293) (by omega) p4), ⟨q2, q3⟩, ⟨fun _ _ => rfl, fun q hq => absurd hq (Nat.not_lt_zero q)⟩, ⟨fun _ _ => rfl, fun q hq => absurd hq (Nat.not_lt_zero q)⟩, fun _ _ => rfl, fun q hq => absurd hq (Nat.not_lt_zero q)⟩ (by rw [e17]; exact I3) (hfx.tr (fun t h1 h2 _ _ _ _ h7 => v7 t h1 h2 h7)) hR7
      · refine pz_seg (k0 := 0) K5 c1 F hl (show lt_all 0 [] from trivial) (by omega) hC.pz hR (pz_cap2 h14 (by omega) (by omega)) (fun f hf r' ad' x1 x2 H' locs' ls' st' hR' => ?_)
        obtain ⟨e1, e2, e3, r2, hR2, u1, u2⟩ := pz_to_ok hf x2 hR'
        rw [e1, e2, e3]
        have v2 : ∀ t, 1 ≤ t → t < 44 → r2 t = r1 t := pz_un x1 u1
        have w14 := v2 14 (by omega) (by omega)
        have w17 := v2 17 (by omega) (by omega)
        have w12 := v2 12 (by omega) (by omega)
        refine pz_callC c1 (by omega) F hl of_ck.2.2 hC hR2 rfl rfl (by omega) ⟨pz_I_cg I1 v2, by omega, by rw [w17]; exact I3⟩ (fun ws4 f1' f2' f3' g' r4' H4 locs4 st4 m1 m2 m3 m4 hR4 => ?_)
        refine pz_seg (k0 := 0) K6 c1 F hl (show lt_all 0 [] from trivial) (by omega) m2.pz hR4 (fun q hq => by cases hq) (fun f hf r5' ad5 y1 y2 H5 locs5 ls5 st5 hR5' => ?_)
        obtain ⟨e1, e2, e3, r5, hR5, u3, u4⟩ := pz_to_ok hf y2 hR5'
        rw [e1, e2, e3]
        have v5 : ∀ t, 1 ≤ t → t < 44 → r5 t = r4' t := fun t h1 h2 => (pz_un y1 u3 t h1 h2).trans (pz_mixv h2)
        have x14 := v5 14 (by omega) (by omega)
        have x17 := v5 17 (by omega) (by omega)
        have x12 := v5 12 (by omega) (by omega)
        refine hnxt (r1 12) (hz h9) ws4 f1' f2' f3' g' r5 H5 locs5 ls5 st5 (hsm.tr (of_sm.cl m1)) (hZ.cg (m1 277 (by omega) (by omega) (by omega) (by omega) (by omega) (by omega) (Option.isNone_iff_eq_none.mp pz_off2.2))) m2 ((hfx.cg v2).tr (of_fx.pz (m4.cg v5))) (fun q => ?_) hR5
        obtain ⟨⟨J1, J2, J3⟩, J4⟩ := m3 (by omega)
        exact ⟨⟨pz_I_cg J1 v5, by omega, by rw [x17]; exact J3⟩, by omega⟩
    · refine pz_seg (k0 := 0) K3 c1 F hl (show lt_all 0 [] from trivial) (by omega) hC.pz hR (pz_cap1 (by omega) (by omega)) (fun f hf r' ad' x1 x2 H' locs' ls' st' hR' => ?_)
      obtain ⟨e1, e2, e3, r2, hR2, u1, u2⟩ := pz_to_ok hf x2 hR'
      rw [e1, e2, e3]
      exact pz_retiG F c1 hret i128 hR2 (fun t i hi hw hF => ⟨i, ws1, f1, f2, f3, g, fb, r2, rfl, hsm, hC, ⟨hZ, hB⟩, hw, hfx.tr (fun t h1 h2 _ _ _ _ h7 => (u1 t h1 h2 (n16 _ t h7)).trans (x1 t h2)), hF⟩)
  intro k
  induction k with
  | zero =>
    intro ws1 f1 f2 f3 g r1 H locs ls st hsm hZ hC hfx hI hR
    refine one (fun _ => False) (fun z q => q.elim) ws1 f1 f2 f3 g r1 H locs ls st hsm hZ hC hfx (fun q => ⟨(hI q).1, fun q9 => ?_⟩) hR
    obtain ⟨⟨I1, I2, I3⟩, h⟩ := hI q
    obtain ⟨i1, i2, i3, i4, i5⟩ := I1
    have := i5 q9
    omega
  | succ k ih =>
    intro ws1 f1 f2 f3 g r1 H locs ls st hsm hZ hC hfx hI hR
    refine one (fun z => 200 ≤ z + (k + 1)) (fun z hz ws1 f1 f2 f3 g r1 H locs ls st k1 k2 k3 k4 k5 k6 => ih ws1 f1 f2 f3 g r1 H locs ls st k1 k2 k3 k4 (fun q => ⟨(k5 q).1, by have := (k5 q).2; omega⟩) k6) ws1 f1 f2 f3 g r1 H locs ls st hsm hZ hC hfx (fun q => ⟨(hI q).1, fun _ => by have := (hI q).2; omega⟩) hR
end OW
set_option maxHeartbeats 4000000 in
theorem pz_offer (l : Launch) (D : va_G) (tyc : Nat → ClassId) (A : Nat → Prop) (sa : ai_B) (hl : l.stackTraces = false) (ws : va_W) (f1 f2 f3 g fb : Nat → Int32) (r : Nat → Int) (ad : Nat → Nat) (H0 : Heap) (hC : cl_W tyc ws f1 f2 f3 g) (hZ : hg_za tyc ws 293 4 fb) (hB : of_B fb) (hWd : ai_Wd D tyc A sa ws r ad (pz_E, pz_h, 0, 0) H0) (vm vn : Int32) :
    vx_Met l (ct_mt 203).1 (ai_cw (ct_mt 203) :: ft_W) (lt_rm 89 203) (fun a U => a = (Value.ref (ad 264) :: [vm, vn].map Value.int).toArray ∧ U.heap = H0 ∧ ai_St D tyc A sa ct_strs ft_N U ∧ ∀ z, H0.size ≤ z → A z) (of_Q D tyc A sa ws r ad) (fun _ _ _ => False) (lt_rm 89 203).cells (lt_rm 89 203).slots A := by
  obtain ⟨o1, o2, o3, o4⟩ := pz_offs
  obtain ⟨c1, c2, c3, ⟨i18, i36, i128, i261⟩, d68, d139, d140, d147, d175, d195, d215, d253⟩ := of_pl
  have hE : ai_gE r pz_E := by
    obtain ⟨ws2, -, -, q, -⟩ := hWd
    exact q
  obtain ⟨r0, hx, hE1, hA1, x44, x45⟩ := pz_in2 (vm := vm) (vn := vn) (ad := ad) hE
  refine pz_newG (n := 88) (nb := [rn_b, rn_b]) (aa := [pz_this, .inl (44, 0), .inl (45, 0)]) (L0 := [pz_this, .inl (44, 0), .inl (45, 0), pz_u]) (vs := [vm, vn]) (Qc := of_Q D tyc A sa ws r ad) c1 (by rw [c3]; rfl) hWd hx hE1 hA1 (fun p e s m args below meth c ls F hret hR => ?_)
  refine pz_seg (k0 := 0) of_k0 c1 F hl (show lt_all 0 [] from trivial) (by omega) hC.pz hR (fun q hq => by cases hq) (fun f hf r' ad' x1 x2 H' locs' ls' st' hR' => ?_)
  have x1 : ai_ext 46 r0 r' := x1
  have n1 : ∀ (x : ai_X) (t : Nat), t ≠ 1 → ([(1, x)] : List (Nat × ai_X)).all (fun q => !(Nat.beq q.1 t)) = true := fun x t ht => by
    rw [List.all_cons, List.all_nil, Bool.and_true]
    cases q : Nat.beq 1 t with
    | false => rfl
    | true => exact absurd (Nat.eq_of_beq_eq_true q).symm ht
  unfold of_c0 at hf
  rw [Bool.or_eq_true, Bool.or_eq_true] at hf
  rcases hf with hf | hf | hf
  · obtain ⟨e1, e2, e3, r2, hR2, u1, u2⟩ := pz_to_ok hf x2 hR'
    rw [e1, e2, e3]
    exact pz_retiG F c1 hret i18 hR2 (fun t i hi hw hF => ⟨i, ws, f1, f2, f3, g, fb, r2, rfl, of_sm.rf, hC, ⟨hZ, hB⟩, hw, fun t h1 h2 _ h4 _ _ _ => (u1 t h1 h2 (n1 _ t h4)).trans ((x1 t (by omega)).trans (hx t h2)), hF⟩)
  · obtain ⟨e1, e2, e3, r2, hR2, u1, u2⟩ := pz_to_ok hf x2 hR'
    rw [e1, e2, e3]
    exact pz_retiG F c1 hret i36 hR2 (fun t i hi hw hF => ⟨i, ws, f1, f2, f3, g, fb, r2, rfl, of_sm.rf, hC, ⟨hZ, hB⟩, hw, fun t h1 h2 _ h4 _ _ _ => (u1 t h1 h2 (n1 _ t h4)).trans ((x1 t (by omega)).trans (hx t h2)), hF⟩)
  · obtain ⟨e1, e2, e3, r2, hR2, u1, u2⟩ := pz_to_ok hf x2 hR'
    rw [e1, e2, e3]
    have b44 : (0 : Int) ≤ r2 44 ∧ r2 44 ≤ 3 := (hR2.env.2.2.2.1 (44, 0, 3) (by
      have hm : (44, ((0 : Int), (3 : Int))) ∈ sm_nb pz_E.1 [((0 : Int), (3 : Int))] := by
        rw [pz_N.1]
        exact List.mem_cons_self
      exact List.mem_append_left _ hm)).2
    have hz0 : ∀ k : Int, ai_vx r' (0, k) = k := pz_cst hR'.env.1
    have w : ∀ t, (t = 1 ∨ t = 6 ∨ t = 7 ∨ t = 14 ∨ t = 17) → r2 t = 0 := fun t ht => by
      rcases ht with rfl | rfl | rfl | rfl | rfl
      · exact (u2 (1, (0, 0)) (by simp [of_ch])).trans (hz0 0)
      · exact (u2 (6, (0, 0)) (by simp [of_ch])).trans (hz0 0)
      · exact (u2 (7, (0, 0)) (by simp [of_ch])).trans (hz0 0)
      · exact (u2 (14, (0, 0)) (by simp [of_ch])).trans (hz0 0)
      · exact (u2 (17, (0, 0)) (by simp [of_ch])).trans (hz0 0)
    obtain ⟨v, hv⟩ : ∃ v : Nat, r2 44 = (v : Int) := ⟨(r2 44).toNat, by omega⟩
    have hv4 : v < 4 := by omega
    have hk := of_kk1 v hv4
    unfold of_k1 at hk
    simp only [Bool.and_eq_true] at hk
    obtain ⟨K1, K2, K3, K4, K5, K6⟩ := hk
    have fx2 : of_fx r r2 := fun t h1 h2 h3 h4 h5 h6 h7 => by
      have n3 := pz_tc_n h3
      refine (u1 t h1 h2 ?_).trans ((x1 t (by omega)).trans (hx t h2))
      refine List.all_eq_true.mpr (fun q hq => ?_)
      have hq : q.1 = 1 ∨ q.1 = 6 ∨ q.1 = 8 ∨ q.1 = 7 ∨ q.1 = 14 ∨ q.1 = 17 := by
        unfold of_ch at hq
        simp only [List.mem_cons, List.not_mem_nil, or_false] at hq
        rcases hq with rfl | rfl | rfl | rfl | rfl | rfl <;> simp
      cases z : Nat.beq q.1 t with
      | false => rfl
      | true =>
        have := Nat.eq_of_beq_eq_true z
        omega
    have hR3 : ai_Rel D tyc A s sa ws (ct_mt 203).2.2.1 r2 ad (of_L v) [.inl (0, 0), .inl (0, 4), ck_r] (pz_G [(0, 3)]) H' locs' ls' st' := pz_reloc hR2 rfl (fun i => match i with
      | 0 => Or.inl rfl
      | 1 => Or.inr ⟨(44, 0), (0, .ofNat v), rfl, rfl, by
          rw [pz_cst hR2.env.1]
          show Int.ofNat v = r2 44 + 0
          rw [hv, Int.add_zero]
          rfl, by show 0 < pz_E.1 + 1; omega⟩
      | 2 => Or.inl rfl
      | 3 => Or.inl rfl
      | n + 4 => Or.inl rfl)
    refine hg_iast (v := (0, 0)) F d68 hR3 (by omega) (Option.isNone_iff_eq_none.mp o1) hC.1 (j := 4) (by omega) (pz_cst hR3.env.1 4) (fun ws4 H4 locs4 st4 f1' q1 q2 q3 q4 hR4 => ?_)
    rw [pz_cst hR3.env.1] at q2
    have C4 := cl_set1 hC q1 q3 q4
    refine pz_seg (k0 := 0) K1 c1 F hl (show lt_all 0 [] from trivial) (by omega) C4.pz hR4 (fun q hq => by cases hq) (fun f hf r5' ad5 y1 y2 H5 locs5 ls5 st5 hR5' => ?_)
    obtain ⟨e1, e2, e3, r5, hR5, u3, u4⟩ := pz_to_ok hf y2 hR5'
    rw [e1, e2, e3]
    have y1 : ai_ext 45 r2 r5' := y1
    have v5 : ∀ t, 1 ≤ t → t < 44 → r5 t = r2 t := fun t h1 h2 => (u3 t h1 h2 rfl).trans (y1 t (by omega))
    refine pz_callv (xs := []) c1 em_k.2.1 (by omega) em_k.2.2.2.1 F hl of_ck.1 C4.pz hR5 rfl rfl (fun vs hvs => ?_) trivial (Pre := fun _ _ => True) (Post := sq_Post) (fun ws6 g6 r6' H6 locs6 st6 m1 m2 m3 hR6 => ?_)
    · rw [pz_nil hvs]
      exact pz_step.mono (by omega)
    have sf := pz_fx.sq m3
    obtain ⟨z1, z2, z3, z4⟩ := m3
    rw [z1] at m2
    have C6 := C4.sm m1 m2
    refine pz_seg (k0 := 0) K2 c1 F hl (show lt_all 0 [] from trivial) (by omega) C6.pz hR6 (fun q hq => by cases hq) (fun f hf r7' ad7 y3 y4 H7 locs7 ls7 st7 hR7' => ?_)
    obtain ⟨e1, e2, e3, r7, hR7, u5, u6⟩ := pz_to_ok hf y4 hR7'
    rw [e1, e2, e3]
    have v7 : ∀ t, 1 ≤ t → t < 44 → r7 t = r6' t := fun t h1 h2 => (pz_un y3 u5 t h1 h2).trans (pz_mixv h2)
    have w14 : r7 14 = 0 := by rw [v7 14 (by omega) (by omega), z2 14 (by omega) (by omega) rfl, v5 14 (by omega) (by omega)]; exact w 14 (by omega)
    have w17 : r7 17 = 0 := by rw [v7 17 (by omega) (by omega), z2 17 (by omega) (by omega) rfl, v5 17 (by omega) (by omega)]; exact w 17 (by omega)
    have hI7 := pz_I_cg z3 v7
    have hI7' := hI7
    obtain ⟨i1, i2, i3, i4, i5⟩ := hI7'
    have fx7 : of_fx r r7 := (fx2.cg v5).tr (of_fx.pz (sf.cg v7))
    have sm6 : of_sm ws ws6 := (of_sm.ne (q := 286) (by omega) q4).tr (of_sm.cl (cl_sm.pz m1))
    have hZ6 : hg_za tyc ws6 293 4 fb := hZ.cg ((m1 277 (by omega) (by omega) (Option.isNone_iff_eq_none.mp pz_off2.2)).trans (q4 277 (by omega)))
    refine pz_callC c1 (by omega) F hl of_ck.2.1 C6 hR7 rfl rfl w14 ⟨hI7, by omega, ⟨by rw [q2]; omega, fun k hk => absurd hk (by rw [q2]; omega)⟩⟩ (fun ws8 f1a f2a f3a ga r8' H8 locs8 st8 n1 n2 n3 n4 hR8 => ?_)
    refine of_loop hv4 (by omega) hl F hret hB 200 ws8 f1a f2a f3a ga (pz_mix r8' r7) H8 locs8 ls7 st8 (sm6.tr (of_sm.cl n1)) (hZ6.cg (n1 277 (by omega) (by omega) (by omega) (by omega) (by omega) (by omega) (Option.isNone_iff_eq_none.mp pz_off2.2))) n2 (fx7.tr (of_fx.pz (n4.cg (fun t _ h2 => pz_mixv h2)))) (fun q => ?_) hR8
    have e14 : pz_mix r8' r7 14 = r8' 14 := pz_mixv (by omega)
    have e17 : pz_mix r8' r7 17 = r8' 17 := pz_mixv (by omega)
    have e12 : pz_mix r8' r7 12 = r8' 12 := pz_mixv (by omega)
    obtain ⟨⟨J1, J2, J3⟩, J4⟩ := n3 (by omega)
    have J1' := J1
    obtain ⟨j1, j2, j3, j4, j5⟩ := J1'
    exact ⟨⟨pz_I_cg J1 (fun t _ h2 => pz_mixv h2), by omega, by rw [e17]; exact J3⟩, by omega⟩
