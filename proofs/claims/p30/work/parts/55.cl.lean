/-! THE PARSER: the offers' clauses: the world, ends of any form, an element that is known -/
noncomputable def cl_W (tyc : Nat → ClassId) (ws : va_W) (f1 f2 f3 g : Nat → Int32) : Prop := hg_ia tyc ws 286 5 f1 ∧ hg_ia tyc ws 288 40 f2 ∧ hg_ia tyc ws 289 40 f3 ∧ hg_ia tyc ws 290 2000 g ∧ pw_ok f1 f2 f3 g ∧ ∃ fi, hg_ia tyc ws 287 40 fi
theorem pz_off2 : (ai_cell pz_h 287).isNone = true ∧ (ai_cell pz_h 293).isNone = true := by decide +kernel
theorem cl_W.pz {tyc : Nat → ClassId} {ws : va_W} {f1 f2 f3 g : Nat → Int32} (h : cl_W tyc ws f1 f2 f3 g) : pz_W tyc ws g := ⟨h.2.2.2.1, fun _ => ⟨f1, f2, f3, g, h.1, h.2.1, h.2.2.1, h.2.2.2.1, h.2.2.2.2.1⟩⟩
theorem hg_ia.eq {tyc : Nat → ClassId} {ws : va_W} {q n : Nat} {f f' : Nat → Int32} (h : hg_ia tyc ws q n f) (h' : hg_ia tyc ws q n f') : f = f' := by
  obtain ⟨a, h⟩ := h
  obtain ⟨b, h'⟩ := h'
  rw [h] at h'
  cases h'
  rfl
theorem hg_ia.cg {tyc : Nat → ClassId} {ws ws' : va_W} {q n : Nat} {f : Nat → Int32} (h : hg_ia tyc ws q n f) (e : ws'[q - 16]? = ws[q - 16]?) : hg_ia tyc ws' q n f := by
  obtain ⟨a, h⟩ := h
  exact ⟨a, e.trans h⟩
theorem cl_of {tyc : Nat → ClassId} {ws : va_W} {g : Nat → Int32} (h : pz_W tyc ws g) : ∃ f1 f2 f3, hg_ia tyc ws 286 5 f1 ∧ hg_ia tyc ws 288 40 f2 ∧ hg_ia tyc ws 289 40 f3 ∧ hg_ia tyc ws 290 2000 g ∧ pw_ok f1 f2 f3 g := by
  obtain ⟨⟨a0, hg⟩, hPw⟩ := h
  have hg : ws[274]? = some (a0, .inl (tyc 0, 2000, .inl g)) := hg
  obtain ⟨f1, f2, f3, f4, k1, k2, k3, ⟨b4, k4⟩, k5⟩ := hPw (by rw [hg]; intro q; cases q)
  rw [hg] at k4
  cases k4
  exact ⟨f1, f2, f3, k1, k2, k3, ⟨a0, hg⟩, k5⟩
theorem cl_W.sm {tyc : Nat → ClassId} {ws ws' : va_W} {f1 f2 f3 g g' : Nat → Int32} (h : cl_W tyc ws f1 f2 f3 g) (hs : pz_sm ws ws') (h' : pz_W tyc ws' g') : cl_W tyc ws' f1 f2 f3 g' := by
  obtain ⟨e1, e2, e3, c1, c2, c3, c4, c5⟩ := cl_of h'
  obtain ⟨o1, o2, o3, o4⟩ := pz_offs
  have a1 : hg_ia tyc ws' 286 5 f1 := h.1.cg (hs 270 (by omega) (by omega) (Option.isNone_iff_eq_none.mp o1))
  have a2 : hg_ia tyc ws' 288 40 f2 := h.2.1.cg (hs 272 (by omega) (by omega) (Option.isNone_iff_eq_none.mp o2))
  have a3 : hg_ia tyc ws' 289 40 f3 := h.2.2.1.cg (hs 273 (by omega) (by omega) (Option.isNone_iff_eq_none.mp o3))
  rw [c1.eq a1, c2.eq a2, c3.eq a3] at c5
  obtain ⟨fi, hi⟩ := h.2.2.2.2.2
  exact ⟨a1, a2, a3, c4, c5, fi, hi.cg (hs 271 (by omega) (by omega) (Option.isNone_iff_eq_none.mp pz_off2.1))⟩
/-- cells that are left alone, less the offers' -/
noncomputable def cl_sm (ws ws' : va_W) : Prop := ∀ x, x + 16 < 336 → x ≠ 270 → x ≠ 271 → x ≠ 272 → x ≠ 273 → x ≠ 274 → ai_cell pz_h (x + 16) = none → ws'[x]? = ws[x]?
theorem cl_sm.rf {ws : va_W} : cl_sm ws ws := fun _ _ _ _ _ _ _ _ => rfl
theorem cl_sm.tr {a b c : va_W} (h : cl_sm a b) (g : cl_sm b c) : cl_sm a c := fun x h1 h2 h3 h4 h5 h6 h7 => (g x h1 h2 h3 h4 h5 h6 h7).trans (h x h1 h2 h3 h4 h5 h6 h7)
theorem cl_sm.pz {a b : va_W} (h : pz_sm a b) : cl_sm a b := fun x h1 _ _ _ _ h5 h6 => h x h1 h5 h6
theorem cl_sm.ne {a b : va_W} {q : Nat} (hq : q = 286 ∨ q = 288 ∨ q = 289 ∨ q = 290 ∨ q = 287) (h : ∀ x, x ≠ q - 16 → b[x]? = a[x]?) : cl_sm a b := fun x _ h2 h3 h4 h5 h6 _ => h x (by omega)
theorem cl_set1 {tyc : Nat → ClassId} {ws ws' : va_W} {f1 f1' f2 f3 g : Nat → Int32} (h : cl_W tyc ws f1 f2 f3 g) (h1 : hg_ia tyc ws' 286 5 f1') (hf : ∀ x, x ≠ 4 → f1' x = f1 x) (hw : ∀ x, x ≠ 286 - 16 → ws'[x]? = ws[x]?) : cl_W tyc ws' f1' f2 f3 g :=
  ⟨h1, h.2.1.cg (hw _ (by omega)), h.2.2.1.cg (hw _ (by omega)), h.2.2.2.1.cg (hw _ (by omega)), fun m hm => by
    rw [hf m (by omega)]
    exact h.2.2.2.2.1 m hm, by
    obtain ⟨fi, hi⟩ := h.2.2.2.2.2
    exact ⟨fi, hi.cg (hw _ (by omega))⟩⟩
theorem cl_set0 {tyc : Nat → ClassId} {ws ws' : va_W} {f1 f2 f3 g fi : Nat → Int32} (h : cl_W tyc ws f1 f2 f3 g) (h1 : hg_ia tyc ws' 287 40 fi) (hw : ∀ x, x ≠ 287 - 16 → ws'[x]? = ws[x]?) : cl_W tyc ws' f1 f2 f3 g :=
  ⟨h.1.cg (hw _ (by omega)), h.2.1.cg (hw _ (by omega)), h.2.2.1.cg (hw _ (by omega)), h.2.2.2.1.cg (hw _ (by omega)), h.2.2.2.2.1, fi, h1⟩
theorem cl_set2 {tyc : Nat → ClassId} {ws ws' : va_W} {f1 f2 f2' f3 g : Nat → Int32} {j : Nat} (h : cl_W tyc ws f1 f2 f3 g) (h1 : hg_ia tyc ws' 288 40 f2') (hj : 32 ≤ j) (hf : ∀ x, x ≠ j → f2' x = f2 x) (hw : ∀ x, x ≠ 288 - 16 → ws'[x]? = ws[x]?) : cl_W tyc ws' f1 f2' f3 g :=
  ⟨h.1.cg (hw _ (by omega)), h1, h.2.2.1.cg (hw _ (by omega)), h.2.2.2.1.cg (hw _ (by omega)), fun m hm => ⟨(h.2.2.2.2.1 m hm).1, fun k hk => by
    have := (h.2.2.2.2.1 m hm).1
    rw [hf _ (by omega)]
    exact (h.2.2.2.2.1 m hm).2 k hk⟩, by
    obtain ⟨fi, hi⟩ := h.2.2.2.2.2
    exact ⟨fi, hi.cg (hw _ (by omega))⟩⟩
theorem cl_set3 {tyc : Nat → ClassId} {ws ws' : va_W} {f1 f2 f3 f3' g : Nat → Int32} {j : Nat} (h : cl_W tyc ws f1 f2 f3 g) (h1 : hg_ia tyc ws' 289 40 f3') (hj : 32 ≤ j) (hf : ∀ x, x ≠ j → f3' x = f3 x) (hw : ∀ x, x ≠ 289 - 16 → ws'[x]? = ws[x]?) : cl_W tyc ws' f1 f2 f3' g :=
  ⟨h.1.cg (hw _ (by omega)), h.2.1.cg (hw _ (by omega)), h1, h.2.2.2.1.cg (hw _ (by omega)), fun m hm => ⟨(h.2.2.2.2.1 m hm).1, fun k hk => by
    have := (h.2.2.2.2.1 m hm).1
    rw [hf _ (by omega)]
    exact (h.2.2.2.2.1 m hm).2 k hk⟩, by
    obtain ⟨fi, hi⟩ := h.2.2.2.2.2
    exact ⟨fi, hi.cg (hw _ (by omega))⟩⟩
/-- the clauses that are read so far -/
noncomputable def cl_ok (c : Nat) (f1 f2 f3 g : Nat → Int32) : Prop := (0 ≤ (f1 4).toInt ∧ (f1 4).toInt ≤ 8) ∧ ∀ k : Nat, (k : Int) < (f1 4).toInt → ∃ i j : Nat, (f2 (32 + k)).toInt = (i : Int) ∧ (f3 (32 + k)).toInt = (j : Int) ∧ i ≤ j ∧ j ≤ c ∧ pw_cv (fun q => (g (1600 + q)).toInt) 400 i j 0
theorem cl_ok.tr {c c' : Nat} {f1 f2 f3 g g' : Nat → Int32} (h : cl_ok c f1 f2 f3 g) (hc : c ≤ c') (hg : ∀ q, q < 1600 + c → g' q = g q) : cl_ok c' f1 f2 f3 g' := ⟨h.1, fun k hk => by
  obtain ⟨i, j, h1, h2, h3, h4, h5⟩ := h.2 k hk
  exact ⟨i, j, h1, h2, h3, by omega, pw_cg (fun q hq => by rw [hg _ (by omega)]) h5⟩⟩
/-- one clause more -/
theorem cl_ok.add {c c' : Nat} {f1 f2 f3 g f1' f2' f3' g' : Nat → Int32} (h : cl_ok c f1 f2 f3 g) (h7 : (f1 4).toInt ≤ 7) (e1 : (f1' 4).toInt = (f1 4).toInt + 1) (hf2 : ∀ x, x ≠ 32 + (f1 4).toInt.toNat → f2' x = f2 x) (hf3 : ∀ x, x ≠ 32 + (f1 4).toInt.toNat → f3' x = f3 x) (v2 : (f2' (32 + (f1 4).toInt.toNat)).toInt = (c : Int)) (v3 : (f3' (32 + (f1 4).toInt.toNat)).toInt = (c' : Int)) (hc : c ≤ c') (hc4 : c' ≤ 400) (hg : ∀ q, q < 1600 + c → g' q = g q) (hV : pz_V g' c c' 36) : cl_ok c' f1' f2' f3' g' := by
  obtain ⟨h1, h2⟩ := h.tr hc hg
  refine ⟨by omega, fun k hk => ?_⟩
  by_cases q : k = (f1 4).toInt.toNat
  · subst q
    exact ⟨c, c', v2, v3, hc, Nat.le_refl _, pz_V_all (hV.mono (by omega)) hc4⟩
  · obtain ⟨i, j, a1, a2, a3, a4, a5⟩ := h2 k (by omega)
    exact ⟨i, j, by rw [hf2 _ (by omega)]; exact a1, by rw [hf3 _ (by omega)]; exact a2, a3, a4, a5⟩
noncomputable def cl_I (r : Nat → Int) (f1 f2 f3 g : Nat → Int32) : Prop := pz_I r ∧ r 17 ≤ 2 * r 12 ∧ cl_ok (r 17).toNat f1 f2 f3 g
section CL
variable {p : Program} {l : Launch} {e : Env} {R : Room} {s : State} {m : MethodId} {args : Array Value} {below : List Frame} {meth : Method} {c : Code} {Q : State → Prop}
variable {D : va_G} {tyc : Nat → ClassId} {A : Nat → Prop} {sa : ai_B} {ws0 : va_W} {nL : Nat} {cc : ByteArray} {own : String} {Ts : List Cond} {strs : List ai_Z} {nws : List Cond} {bud : Nat × Nat} {dflt : Nat → List ai_V} {kind : Nat → Nat → Nat}
variable {r : Nat → Int} {ad : Nat → Nat} {L L' S : List ai_V} {G : ai_G} {H : Heap} {locs : List Loc} {ls : Array Slot} {st : List Value} {pc : Nat} {nb : List (Int × Int)}
/-- locals told by other numbers of the same value -/
theorem pz_reloc (hR : ai_Rel D tyc A s sa ws0 nL r ad L S G H locs ls st) (hlen : L'.length = L.length) (hx : ∀ i, ai_lget L' i = ai_lget L i ∨ ∃ x y, ai_lget L i = .inl x ∧ ai_lget L' i = .inl y ∧ ai_vx r y = ai_vx r x ∧ y.1 < G.1.1) : ai_Rel D tyc A s sa ws0 nL r ad L' S G H locs ls st := by
  obtain ⟨ws, hP, hD, hS, hE, hH, hO, hsa, hL, hSt⟩ := hR
  refine ⟨ws, hP, hD, hS, hE, hH, hO, hsa, ⟨hlen.trans hL.1, hL.2.1, hL.2.2.1, fun i hi => ?_⟩, hSt⟩
  rcases hx i with h | ⟨x, y, h1, h2, h3, h4⟩
  · rw [h] at hi ⊢
    exact hL.2.2.2 i hi
  · obtain ⟨v, a1, a2⟩ := hL.2.2.2 i (by rw [h1]; intro q; cases q)
    rw [h1] at a2
    obtain ⟨a2, z, a3, a4⟩ := a2
    refine ⟨v, a1, ?_⟩
    rw [h2]
    exact ⟨h4, z, a3, a4.trans h3.symm⟩
/-- numbers of its own that nothing speaks of are dropped -/
theorem pz_drop (hL : ∀ a ∈ L, ai_wfV 44 336 a) (hS : ∀ a ∈ S, ai_wfV 44 336 a) (hR : ai_Rel D tyc A s sa ws0 nL r ad L S (pz_G nb) H locs ls st) : ai_Rel D tyc A s sa ws0 nL r ad L S (pz_G []) H locs ls st := by
  obtain ⟨N1, N2, N3, N4, N5⟩ := pz_N
  have h := pz_Esub hR.env
  have hE : ai_gE r (sm_E pz_E []) := ⟨h.1, h.2.1, h.2.2.1, h.2.2.2.1, fun q hq => by cases hq⟩
  obtain ⟨hWd, hSS, hLL, hSt⟩ := hR.wd
  have eN : (sm_E pz_E []).1 = 44 := N1
  have hWd' : ai_Wd D tyc A sa ws0 r ad (pz_G []) H := fn_trW (N0 := 44) N3 ai_ext.rfl' ai_ext.rfl' (by rw [eN]; exact Nat.le_refl _) hE hWd
  refine hWd'.rel hSS ⟨hLL.1, hLL.2.1, hLL.2.2.1, fun i hi => ?_⟩ (fn_trF (N0 := 44) ai_ext.rfl' ai_ext.rfl' (by show 44 ≤ (sm_E pz_E []).1; rw [eN]; exact Nat.le_refl _) (fun a ha => by
    have := hS a ha
    rw [← N4] at this
    exact this) hSt)
  obtain ⟨v, a1, a2⟩ := hLL.2.2.2 i hi
  exact ⟨v, a1, fn_trV (N0 := 44) ai_ext.rfl' ai_ext.rfl' (by show 44 ≤ (sm_E pz_E []).1; rw [eN]; exact Nat.le_refl _) (by
    have := hL _ (ai_lget_mem hi)
    rw [← N4] at this
    exact this) a2⟩
/-- an element of an array that the domain leaves alone, its number known -/
theorem hg_iald2 (F : ai_Fr p R s m args meth c D tyc A sa nL cc own Ts strs nws bud dflt kind) (hdg : decode cc pc = .ok (.iaload, 1)) {i x : ai_X} {q n j : Nat} {f : Nat → Int32} (hR : ai_Rel D tyc A s sa ws0 nL r ad L (.inl i :: .inr (.inr (some (some q))) :: S) G H locs ls st)
    (hq : 16 ≤ q) (hc : ai_cell G.2.1 q = none) (hf : hg_ia tyc ws0 q n f) (hj : j < n) (hi : ai_vx r i = (j : Int)) (hx : x.1 < G.1.1) (hv : ai_vx r x = (f j).toInt)
    (k : ∀ st' : List Value, ai_Rel D tyc A s sa ws0 nL r ad L (.inl x :: S) G H locs ls st' → W p l e R s m args below meth c H locs G.2.2.1 G.2.2.2 Q (F0 m (pc + 1) ls st')) :
    W p l e R s m args below meth c H locs G.2.2.1 G.2.2.2 Q (F0 m pc ls st) := by
  obtain ⟨hxx, hbb, -, -, -, hSt0, -⟩ := F
  have hR0 := hR
  obtain ⟨ws, hP, hD, hS, hE, hH, hO, hsa, hL, hSt⟩ := hR
  obtain ⟨ix, t1, rfl, hi1, hi2, h1⟩ := ai_gF.int hSt
  obtain ⟨t, rfl, hqn, h2⟩ := h1.ref
  obtain ⟨hvp, hcl⟩ := ai_vpin (i := ix) (j := j) (n := n) (by rw [hi2]; exact hi) hj
  obtain ⟨a, hw⟩ := hf
  have hw2 : ws[q - 16]? = some (a, .inl (tyc 0, n, .inl f)) := by
    rw [hH.2.2.2 (q - 16) (by omega) (by rw [show q - 16 + 16 = q by omega]; exact hc)]
    exact hw
  have ha : a = ad q := by
    have := hH.2.1 _ _ hw2
    rw [show q - 16 + 16 = q by omega] at this
    exact this
  subst ha
  refine va_iald hxx hbb hSt0.1 hP (q - 16) 0 hw2 rfl hvp hdg ?_
  rw [hcl]
  exact k _ (hR0.st' ⟨⟨hx, _, rfl, hv.symm⟩, h2⟩)
end CL
section CR
variable {p : Program} {l : Launch} {e : Env} {s : State} {m : MethodId} {args : Array Value} {below : List Frame} {meth : Method} {c : Code} {Q : State → Prop}
variable {D : va_G} {tyc : Nat → ClassId} {A : Nat → Prop} {sa : ai_B} {ws : va_W} {mi n : Nat} {Qc : Array Value → State → Outcome → State → Prop}
variable {r : Nat → Int} {ad : Nat → Nat} {L : List ai_V} {H : Heap} {locs : List Loc} {ls : Array Slot} {st : List Value} {pc : Nat} {nb : List (Int × Int)}
/-- an end without an answer, of any form -/
theorem pz_retG (F : ls_Fr p (lt_rm (n + 1) mi) s m args meth c D tyc A sa mi) (hret : meth.sig.returnType = (ct_mt mi).2.2.2.1) (hdg : decode (ct_mt mi).2.1 pc = .ok (.return_, 1)) (hv : (ct_mt mi).2.2.2.1 = none) (hR : ai_Rel D tyc A s sa ws (ct_mt mi).2.2.1 r ad L [] (pz_G nb) H locs ls st) (hQ : ∀ t : State, ai_Wd D tyc A sa ws r ad (pz_E, pz_h, 0, 0) t.heap → va_F A s t → Qc args s (.returned none) t) :
    W p l e (lt_rm (n + 1) mi) s m args below meth c H locs 0 0 (vx_MQ below Qc (fun _ _ _ => False) args s (lt_rm (n + 1) mi).cells (lt_rm (n + 1) mi).slots A) (F0 m pc ls st) := by
  obtain ⟨N1, N2, N3, N4, N5⟩ := pz_N
  obtain ⟨hx, hb, hml, hts, hown, hSt0, hA, hbud, hcls, hroom, hlocks⟩ := F
  have hE := hR.env
  obtain ⟨hWd, hS, hLL, hSt⟩ := hR.wd
  have ht : st = [] := by
    cases st with
    | nil => rfl
    | cons w t => exact hSt.elim
  subst ht
  refine W.widen (Nat.zero_le _) (Nat.zero_le _) (vx_ret (W.vret hx hb (hret.trans hv) (fun t ht _ => ?_) hS.2.2 hdg hlocks))
  refine hQ t ?_ (hS.F ht)
  rw [ht]
  exact fn_trW (N0 := 44) N3 ai_ext.rfl' ai_ext.rfl' (by rw [N1]; exact Nat.le_refl _) (pz_Esub hE) hWd
/-- an end with a number, of any form -/
theorem pz_retiG {x : ai_X} (F : ls_Fr p (lt_rm (n + 1) mi) s m args meth c D tyc A sa mi) (hpl : ls_plain mi = true) (hret : meth.sig.returnType = (ct_mt mi).2.2.2.1) (hir : fc_ir mi pc = true) (hR : ai_Rel D tyc A s sa ws (ct_mt mi).2.2.1 r ad L [.inl x] (pz_G nb) H locs ls st) (hQ : ∀ (t : State) (i : Int32), i.toInt = ai_vx r x → ai_Wd D tyc A sa ws r ad (pz_E, pz_h, 0, 0) t.heap → va_F A s t → Qc args s (.returned (some (.int i))) t) :
    W p l e (lt_rm (n + 1) mi) s m args below meth c H locs 0 0 (vx_MQ below Qc (fun _ _ _ => False) args s (lt_rm (n + 1) mi).cells (lt_rm (n + 1) mi).slots A) (F0 m pc ls st) := by
  obtain ⟨N1, N2, N3, N4, N5⟩ := pz_N
  unfold ls_plain at hpl
  simp only [Bool.and_eq_true, Bool.not_eq_true'] at hpl
  obtain ⟨p1, -, p3⟩ := hpl
  obtain ⟨mok, htab⟩ := ls_known p1
  rw [p3] at htab
  obtain ⟨len, a, b, ec, ha⟩ := fc_ir_ok hir
  obtain ⟨d1, -, -, d4, -⟩ := htab _ _ _ _ _ ec
  obtain ⟨rfl, w1, w2⟩ := d4
  obtain ⟨hx, hb, hml, hts, hown, hSt0, hA, hbud, hcls, hroom, hlocks⟩ := F
  have hE := hR.env
  obtain ⟨hWd, hS, hLL, hSt⟩ := hR.wd
  obtain ⟨i, t, rfl, i1, i2, i3⟩ := hSt.int
  have ht : t = [] := by
    cases t with
    | nil => rfl
    | cons w t => exact i3.elim
  subst ht
  refine W.widen (Nat.zero_le _) (Nat.zero_le _) (vx_ret (W.iret hx hb (hret.trans (w2 ha)) (fun t ht _ => ?_) hS.2.2 d1 hlocks))
  refine hQ t i i2 ?_ (hS.F ht)
  rw [ht]
  exact fn_trW (N0 := 44) N3 ai_ext.rfl' ai_ext.rfl' (by rw [N1]; exact Nat.le_refl _) (pz_Esub hE) hWd
/-- a method's entry, of any form -/
theorem pz_newG {aa L0 : List ai_V} {vs : List Int32} {H0 : Heap} (hpl : ls_plain mi = true) (hL0 : ai_pad (ct_mt mi).2.2.1 aa = some L0) (hWd : ai_Wd D tyc A sa ws r ad (pz_E, pz_h, 0, 0) H0) {r1 : Nat → Int} (h1 : ai_ext 44 r r1) (h2 : ai_gE r1 (sm_E pz_E nb)) (h3 : ai_gF r1 ad (44 + nb.length) 336 aa (Value.ref (ad 264) :: vs.map Value.int))
    (body : ∀ (p : Program) (e : Env) (s : State) (m : MethodId) (args : Array Value) (below : List Frame) (meth : Method) (c : Code) (ls : Array Slot), ls_Fr p (lt_rm (n + 1) mi) s m args meth c D tyc A sa mi → meth.sig.returnType = (ct_mt mi).2.2.2.1 →
      ai_Rel D tyc A s sa ws (ct_mt mi).2.2.1 r1 ad L0 [] (pz_G nb) s.heap [] ls [] →
      W p l e (lt_rm (n + 1) mi) s m args below meth c s.heap [] 0 0 (vx_MQ below Qc (fun _ _ _ => False) args s (lt_rm (n + 1) mi).cells (lt_rm (n + 1) mi).slots A) (F0 m 0 ls [])) :
    vx_Met l (ct_mt mi).1 (ai_cw (ct_mt mi) :: ft_W) (lt_rm (n + 1) mi) (fun a U => a = (Value.ref (ad 264) :: vs.map Value.int).toArray ∧ U.heap = H0 ∧ ai_St D tyc A sa ct_strs ft_N U ∧ ∀ z, H0.size ≤ z → A z) Qc (fun _ _ _ => False) (lt_rm (n + 1) mi).cells (lt_rm (n + 1) mi).slots A := by
  obtain ⟨N1, N2, N3, N4, N5⟩ := pz_N
  have hWd1 : ai_Wd D tyc A sa ws r1 ad (pz_G nb) H0 := fn_trW (N0 := 44) N3 h1 ai_ext.rfl' (by show 44 ≤ pz_E.1 + nb.length; rw [N1]; omega) h2 hWd
  refine ls_met (n := n) hpl L0 hL0 hWd1 (by
    show ai_gF r1 ad (pz_E.1 + nb.length) pz_h.1 _ _
    rw [N1, N4]
    exact h3) (fun p e s m below meth c ls F hret htb hheap hR => ?_)
  exact body p e s m _ below meth c ls F hret hR
end CR
