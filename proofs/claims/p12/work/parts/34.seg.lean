/-! CONTRACTS BY HAND: segments over lists of contracts, runs to a method's ends, their joining -/
/-- a method's code as the segments read it -/
noncomputable def ls_code (mi : Nat) : Nat → Option (ClassFile.Instr × Nat × Nat × Nat) := match ai_tget 9 ct_prog mi with
  | none => fun _ => none
  | some (code, _, _, _) => fun q => (code q).map fr_un
noncomputable def ls_fcode (mi : Nat) : Nat → fr_C := match ai_tget 9 ct_prog mi with
  | none => fun _ => none
  | some (code, _, _, _) => code
theorem ls_fc {mi : Nat} : fr_nx (ls_fcode mi) ∧ ls_code mi = fun q => (ls_fcode mi q).map fr_un := by
  have g := ct_all mi
  have ec : ls_code mi = match ai_tget 9 ct_prog mi with | none => fun _ => none | some (code, _, _, _) => fun q => (code q).map fr_un := rfl
  have ef : ls_fcode mi = match ai_tget 9 ct_prog mi with | none => fun _ => none | some (code, _, _, _) => code := rfl
  rw [ec, ef]
  cases e : ai_tget 9 ct_prog mi with
  | none => exact ⟨fun pc q h => (by cases h), rfl⟩
  | some c =>
    obtain ⟨code, hand, b, y⟩ := c
    rw [e] at g
    exact ⟨g.2.1, rfl⟩
theorem ls_known {mi : Nat} (h : (ls_code mi 0).isSome = true) : ai_mok ft_W (ct_mt mi) ∧ ai_tab ft_W ft_N ct_strs ct_mt (ct_mt mi).1.cls (decide ((ct_mt mi).1.name = "<init>")) (ct_mt mi).2.2.2.1 (ct_mt mi).2.1 ((ct_mt mi).2.2.2.2.1.getD []) (ls_code mi) := by
  have g := ct_all mi
  have em : ct_mt mi = ct_mtL (ai_tget 9 ct_prog mi) := rfl
  have ec : ls_code mi = match ai_tget 9 ct_prog mi with | none => fun _ => none | some (code, _, _, _) => fun q => (code q).map fr_un := rfl
  rw [ec] at h ⊢
  rw [em]
  cases e : ai_tget 9 ct_prog mi with
  | none => rw [e] at h; cases h
  | some c =>
    obtain ⟨code, hand, b, y⟩ := c
    rw [e] at g
    exact ⟨g.1, g.2.2.1⟩
/-- a method without handlers that is no constructor -/
noncomputable def ls_plain (mi : Nat) : Bool := (ls_code mi 0).isSome && ((ct_mt mi).2.2.2.2.1.isNone && !(decide ((ct_mt mi).1.name = "<init>")))
noncomputable def ls_sg (T : List (Nat × us_C)) (mi : Nat) (stop : List Nat) (skip : Bool) (pc : Nat) (L S : List ai_V) (G : ai_G) : Option (List ai_F) := fs_run (ls_fcode mi) (fun _ _ => none) (ct_bud mi) ct_bud ct_dflt ct_kind (fun mj aa G => lt_try T mj aa G) (fun q => stop.elem q) 10000 skip pc L S G
theorem ls_sg_eq {T : List (Nat × us_C)} {mi : Nat} {stop : List Nat} {skip : Bool} {pc : Nat} {L S : List ai_V} {G : ai_G} : ls_sg T mi stop skip pc L S G = sg_run (ls_code mi) (fun _ _ => none) (ct_bud mi) ct_bud ct_dflt ct_kind (fun mj aa G => lt_try T mj aa G) (fun q => stop.elem q) 10000 skip pc L S G := by
  rw [ls_fc.2]
  exact fs_run_eq ls_fc.1 10000 skip pc L S G
noncomputable def ls_end (T : List (Nat × us_C)) (mi : Nat) (mk : List (Nat × ai_AA)) (pc : Nat) (L S : List ai_V) (G : ai_G) : ai_Q := fr_run (ls_fcode mi) (fun _ _ => none) (ct_bud mi) ct_bud ct_dflt ct_kind (fun mj aa G => lt_try T mj aa G) (ai_mark mk) 10000 [] false pc L S G
theorem ls_end_eq {T : List (Nat × us_C)} {mi : Nat} {mk : List (Nat × ai_AA)} {pc : Nat} {L S : List ai_V} {G : ai_G} : ls_end T mi mk pc L S G = ai_run (ls_code mi) (fun _ _ => none) (ct_bud mi) ct_bud ct_dflt ct_kind (fun mj aa G => lt_try T mj aa G) (ai_mark mk) 10000 [] false pc L S G := by
  rw [ls_fc.2]
  exact fr_run_eq ls_fc.1 10000 [] false pc L S G
/-- a run to the ends, all within wider ones -/
noncomputable def ls_fin (T : List (Nat × us_C)) (mi : Nat) (mk : List (Nat × ai_AA)) (E0 : ai_E) (W : List sm_W) (pc : Nat) (L S : List ai_V) (G : ai_G) : Bool := match ls_end T mi mk pc L S G with
  | none => false
  | some outs => outs.all (fun f => sm_any E0 f W) && W.all (sm_ok E0)
/-- a frame of a method of the tables -/
abbrev ls_Fr (p : Program) (R : Room) (s : State) (m : MethodId) (args : Array Value) (meth : Method) (c : Code) (D : va_G) (tyc : Nat → ClassId) (A : Nat → Prop) (sa : ai_B) (mi : Nat) : Prop := ai_Fr p R s m args meth c D tyc A sa (ct_mt mi).2.2.1 (ct_mt mi).2.1 (ct_mt mi).1.cls ft_W ct_strs ft_N (R.cells, R.slots) ct_dflt ct_kind
theorem ls_join {D : va_G} {tyc : Nat → ClassId} {A : Nat → Prop} {sa : ai_B} {ws0 : va_W} {r : Nat → Int} {ad : Nat → Nat} {n0 : Nat} {E : ai_E} {outs : List (ai_R × ai_G)} {W : List sm_W} {a : Array Value} {s t : State} (hE : ai_gE r E) (hd : E.2.2 = []) (hs : outs.all (fun f => sm_any E f W) = true) (ho : W.all (sm_ok E) = true) :
    (∀ o, ai_Qc D tyc A sa ws0 r ad E.1 n0 outs a s o t → ai_Qc D tyc A sa ws0 r ad E.1 n0 (W.map (sm_out E)) a s o t) ∧ ∀ X, ai_XC D tyc A sa ws0 r ad E.1 n0 outs X s t → ai_XC D tyc A sa ws0 r ad E.1 n0 (W.map (sm_out E)) X s t := by
  refine ⟨fun o hq => ?_, fun X hq => ?_⟩
  · obtain ⟨f, hf, x, v, e1, e2, r', ad', x1, x2, x3, x4, hW, hF, hv⟩ := hq
    obtain ⟨w, hw, hsub⟩ := sm_any_ok (List.all_eq_true.mp hs f hf)
    have hok := List.all_eq_true.mp ho w hw
    obtain ⟨fx, fG⟩ := f
    have e1 : fx = .inr x := e1
    subst e1
    have hk : sm_kind (.inr x) w.1 = true := by
      unfold sm_sub at hsub
      rw [xt_in_eq] at hsub
      split at hsub
      · cases hsub
      · rename_i e; exact e
    have hn0 : E.1 ≤ (sm_out E w).2.1.1 := Nat.le_add_right _ _
    cases x with
    | none =>
      have hv : v = none := hv
      subst hv
      obtain ⟨r2, k1, k2, -, k4⟩ := sm_end (st := []) hE.2.1 hE x1 x3 hd hW trivial hsub hok
      refine ⟨sm_out E w, List.mem_map.mpr ⟨w, hw, rfl⟩, none, none, ?_, e2, r2, ad', k1, x2, hn0, ?_, k2, hF, rfl⟩
      · show w.1 = .inr none
        rcases hw1 : w.1 with e | _ | u
        · rw [hw1] at hk; cases hk
        · rfl
        · rw [hw1] at hk; cases hk
      · show n0 ≤ w.2.2.1
        rw [k4]; exact x4
    | some b =>
      obtain ⟨u, rfl, hu⟩ := hv
      obtain ⟨r2, k1, k2, k3, k4⟩ := sm_end (st := [u]) hE.2.1 hE x1 x3 hd hW ⟨hu, trivial⟩ hsub hok
      rcases hw1 : w.1 with e | _ | c
      · rw [hw1] at hk; cases hk
      · rw [hw1] at hk; cases hk
      · rw [hw1] at k3
        obtain ⟨k3, -⟩ : ai_gV r2 ad' (sm_out E w).2.1.1 (sm_out E w).2.2.1.1 c u ∧ True := k3
        refine ⟨sm_out E w, List.mem_map.mpr ⟨w, hw, rfl⟩, some c, some u, hw1, e2, r2, ad', k1, x2, hn0, ?_, k2, hF, u, rfl, k3⟩
        show n0 ≤ w.2.2.1
        rw [k4]; exact x4
  · obtain ⟨f, hf, x, e1, e2, r', ad', x1, x2, x3, x4, hW, hF, -⟩ := hq
    obtain ⟨w, hw, hsub⟩ := sm_any_ok (List.all_eq_true.mp hs f hf)
    have hok := List.all_eq_true.mp ho w hw
    obtain ⟨fx, fG⟩ := f
    have e1 : fx = .inl x := e1
    subst e1
    have hk : sm_kind (.inl x) w.1 = true := by
      unfold sm_sub at hsub
      rw [xt_in_eq] at hsub
      split at hsub
      · cases hsub
      · rename_i e; exact e
    obtain ⟨r2, k1, k2, -, k4⟩ := sm_end (st := []) hE.2.1 hE x1 x3 hd hW trivial hsub hok
    refine ⟨sm_out E w, List.mem_map.mpr ⟨w, hw, rfl⟩, x, ?_, e2, r2, ad', k1, x2, Nat.le_add_right _ _, ?_, k2, hF, trivial⟩
    · show w.1 = .inl x
      rcases hw1 : w.1 with e | _ | u
      · rw [hw1] at hk
        rw [Nat.eq_of_beq_eq_true hk]
      · rw [hw1] at hk; cases hk
      · rw [hw1] at hk; cases hk
    · show n0 ≤ w.2.2.1
      rw [k4]; exact x4
section LS
variable {p : Program} {l : Launch} {e : Env} {s : State} {m : MethodId} {args : Array Value} {below : List Frame} {meth : Method} {c : Code} {Q : State → Prop}
variable {D : va_G} {tyc : Nat → ClassId} {A : Nat → Prop} {sa : ai_B} {ws0 : va_W} {mi n : Nat}
variable {T : List (Nat × us_C)} {stop : List Nat} {skip : Bool} {pc : Nat} {L S : List ai_V} {G : ai_G} {fs : List ai_F} {r r0 : Nat → Int} {ad ad0 : Nat → Nat} {n0 : Nat} {H : Heap} {locs : List Loc} {ls : Array Slot} {st : List Value}
/-- a segment: what is behind the places where it stops -/
noncomputable def ls_K (p : Program) (l : Launch) (e : Env) (R : Room) (s : State) (m : MethodId) (args : Array Value) (below : List Frame) (meth : Method) (c : Code) (Q : State → Prop) (D : va_G) (tyc : Nat → ClassId) (A : Nat → Prop) (sa : ai_B) (ws0 : va_W) (nL : Nat) (r : Nat → Int) (ad : Nat → Nat) (G : ai_G) (f : ai_F) : Prop :=
  ∀ (r' : Nat → Int) (ad' : Nat → Nat), ai_ext G.1.1 r r' → ai_ext G.2.1.1 ad ad' → G.1.1 ≤ f.2.2.2.1.1 → G.2.1.1 ≤ f.2.2.2.2.1.1 → ∀ (H' : Heap) (locs' : List Loc) (ls' : Array Slot) (st' : List Value), ai_Rel D tyc A s sa ws0 nL r' ad' f.2.1 f.2.2.1 f.2.2.2 H' locs' ls' st' → W p l e R s m args below meth c H' locs' f.2.2.2.2.2.1 f.2.2.2.2.2.2 Q (F0 m f.1 ls' st')
theorem ls_ok (hpl : ls_plain mi = true) (F : ls_Fr p (lt_rm (n + 1) mi) s m args meth c D tyc A sa mi) (hl : l.stackTraces = false) (hT : lt_all n T) (hPw : ai_Pw tyc ws0)
    (h : ls_sg T mi stop skip pc L S G = some fs) (hR : ai_Rel D tyc A s sa ws0 (ct_mt mi).2.2.1 r ad L S G H locs ls st)
    (k : ∀ f ∈ fs, ls_K p l e (lt_rm (n + 1) mi) s m args below meth c Q D tyc A sa ws0 (ct_mt mi).2.2.1 r ad G f) :
    W p l e (lt_rm (n + 1) mi) s m args below meth c H locs G.2.2.1 G.2.2.2 Q (F0 m pc ls st) := by
  have hgood : ∀ w ∈ ft_W, goodWord w = true := fun w hw => (List.mem_filter.mp hw).2
  have hnk : ∀ w ∈ ft_N, ai_nk w = true := fun w hw => (List.mem_filter.mp hw).2
  unfold ls_plain at hpl
  simp only [Bool.and_eq_true, Bool.not_eq_true'] at hpl
  obtain ⟨h1, -, h3⟩ := hpl
  obtain ⟨mok, htab⟩ := ls_known h1
  rw [h3] at htab
  refine sg_ok (rm := lt_rm n) F hgood hnk (fun q => by cases q) htab (fun mj aa G o ho => ?_) (fun pc z k pcn q => by cases q) (fun mj => ⟨by show n + 0 + 8 + 1 ≤ n + 1 + 0 + 8; omega, by show 64 * (n + 0) + 400 + 64 ≤ 64 * (n + 1 + 0) + 400; omega, rfl, rfl⟩) (fun mj aa G o ho => ?_) hPw 10000 skip pc L S G fs r ad H locs ls st (ls_sg_eq.symm.trans h) hR k
  · obtain ⟨C, hC, hu⟩ := lt_try_ok hT ho
    exact hC.2.1
  · obtain ⟨C, hC, hu⟩ := lt_try_ok hT ho
    exact xb_ok hC.1 (hC.2.2 l D tyc A sa hl) hu
/-- to the method's ends -/
theorem ls_fin_ok {mk : List (Nat × ai_AA)} {E0 : ai_E} {Wl : List sm_W} (hpl : ls_plain mi = true) (F : ls_Fr p (lt_rm (n + 1) mi) s m args meth c D tyc A sa mi) (hl : l.stackTraces = false) (hret : meth.sig.returnType = (ct_mt mi).2.2.2.1) (htb : ∀ x ∈ c.exceptionTable.toList, False) (hT : lt_all n T) (hPw : ai_Pw tyc ws0)
    (hE0 : ai_gE r0 E0) (hd : E0.2.2 = []) (h : ls_fin T mi mk E0 Wl pc L S G = true) (hR : ai_Rel D tyc A s sa ws0 (ct_mt mi).2.2.1 r ad L S G H locs ls st) (h1 : ai_ext E0.1 r0 r) (h2 : ai_ext n0 ad0 ad) (h3 : E0.1 ≤ G.1.1) (h4 : n0 ≤ G.2.1.1) :
    W p l e (lt_rm (n + 1) mi) s m args below meth c H locs G.2.2.1 G.2.2.2 (vx_MQ below (ai_Qc D tyc A sa ws0 r0 ad0 E0.1 n0 (Wl.map (sm_out E0))) (ai_XC D tyc A sa ws0 r0 ad0 E0.1 n0 (Wl.map (sm_out E0))) args s (lt_rm (n + 1) mi).cells (lt_rm (n + 1) mi).slots A) (F0 m pc ls st) := by
  have hgood : ∀ w ∈ ft_W, goodWord w = true := fun w hw => (List.mem_filter.mp hw).2
  have hnk : ∀ w ∈ ft_N, ai_nk w = true := fun w hw => (List.mem_filter.mp hw).2
  unfold ls_plain at hpl
  simp only [Bool.and_eq_true, Bool.not_eq_true'] at hpl
  obtain ⟨g1, g2, g3⟩ := hpl
  obtain ⟨mok, htab⟩ := ls_known g1
  rw [g3] at htab
  unfold ls_fin at h
  split at h
  · cases h
  · rename_i outs eo
    rw [ls_end_eq] at eo
    rw [Bool.and_eq_true] at h
    have R0 := ai_run_ok (e := e) (below := below) (R := lt_rm (n + 1) mi) (ws0 := ws0) (r0 := r0) (ad0 := ad0) (N0 := E0.1) (n0 := n0) (mc := (lt_rm (n + 1) mi).cells) (ms := (lt_rm (n + 1) mi).slots) (outs := outs) (cbud := ct_bud) (mt := ct_mt) (rm := lt_rm n) (callee := fun mj aa G => lt_try T mj aa G) (ann := ai_mark mk) (code := ls_code mi) (hand := fun _ _ => none) (tb := (ct_mt mi).2.2.2.2.1.getD []) (ret := (ct_mt mi).2.2.2.1) (ini := false) F hl hret (fun _ => htb) hgood hnk (fun q => by cases q) htab
      (fun mj aa' G' o ho => by
        obtain ⟨C, hC, hu⟩ := lt_try_ok hT ho
        exact hC.2.1)
      (fun pc z => fun x hx => (htb x hx).elim) (fun mj => ⟨by show n + 0 + 8 + 1 ≤ n + 1 + 0 + 8; omega, by show 64 * (n + 0) + 400 + 64 ≤ 64 * (n + 1 + 0) + 400; omega, rfl, rfl⟩)
      (fun mj aa' G' o ho => by
        obtain ⟨C, hC, hu⟩ := lt_try_ok hT ho
        exact xb_ok hC.1 (hC.2.2 l D tyc A sa hl) hu) hPw ⟨Nat.le_refl _, Nat.le_refl _⟩
      10000 [] false pc L S G outs r ad H locs ls st eo (fun f hf => hf) hR h1 h2 h3 h4 (fun P hP => by cases hP)
    intro T' hT' X
    obtain ⟨t, a1, o, b1, b2, b3⟩ := R0 T' hT' X
    obtain ⟨j1, j2⟩ := ls_join (D := D) (tyc := tyc) (A := A) (sa := sa) (ws0 := ws0) (ad := ad0) (n0 := n0) (a := args) (s := s) (t := t) hE0 hd h.1 h.2
    refine ⟨t, a1, o, b1, b2, ?_⟩
    rcases b3 with ⟨q1, q2⟩ | ⟨q, q1, E', ce, Lx, q2, q3⟩
    · exact Or.inl ⟨j1 o q1, q2⟩
    · exact Or.inr ⟨q, q1, E', ce, Lx, j2 E' q2, q3⟩
end LS
/-- a contract by hand, from the walk of its body -/
theorem lt_hand {n mi : Nat} {C : us_C} (hpl : ls_plain mi = true) (hck : us_ck C = true) (L0 : List ai_V) (hL0 : ai_pad (ct_mt mi).2.2.1 C.2.1 = some L0)
    (body : ∀ (l : Launch) (D : va_G) (tyc : Nat → ClassId) (A : Nat → Prop) (sa : ai_B), l.stackTraces = false → ∀ (ws0 : va_W) (r : Nat → Int) (ad : Nat → Nat), ai_Pw tyc ws0 → ai_gE r (sm_E (1, [], []) C.1) →
      ∀ (p : Program) (e : Env) (s : State) (m : MethodId) (args : Array Value) (below : List Frame) (meth : Method) (c : Code) (ls : Array Slot), ls_Fr p (lt_rm (n + 1) mi) s m args meth c D tyc A sa mi → meth.sig.returnType = (ct_mt mi).2.2.2.1 → (∀ x ∈ c.exceptionTable.toList, False) →
      ai_Rel D tyc A s sa ws0 (ct_mt mi).2.2.1 r ad L0 [] (sm_E (1, [], []) C.1, C.2.2.1, 0, 0) s.heap [] ls [] →
      W p l e (lt_rm (n + 1) mi) s m args below meth c s.heap [] 0 0 (vx_MQ below (ai_Qc D tyc A sa ws0 r ad (sm_E (1, [], []) C.1).1 C.2.2.1.1 (C.2.2.2.map (sm_out (sm_E (1, [], []) C.1)))) (ai_XC D tyc A sa ws0 r ad (sm_E (1, [], []) C.1).1 C.2.2.1.1 (C.2.2.2.map (sm_out (sm_E (1, [], []) C.1)))) args s (lt_rm (n + 1) mi).cells (lt_rm (n + 1) mi).slots A) (F0 m 0 ls [])) : lt_ok (n + 1) mi C := by
  have hpl' := hpl
  unfold ls_plain at hpl'
  simp only [Bool.and_eq_true, Bool.not_eq_true', Option.isNone_iff_eq_none] at hpl'
  obtain ⟨g1, g2, g3⟩ := hpl'
  obtain ⟨mok, htab⟩ := ls_known g1
  refine ⟨hck, mok, fun l D tyc A sa hl ws0 r ad H0 As hPw hWd hA => ?_⟩
  refine hb_met (y := ct_mt mi) sc_all mok g2 ⟨by show 8 ≤ n + 1 + 0 + 8; omega, by show 400 ≤ 64 * (n + 1 + 0) + 400; omega⟩ (fun p e s m below meth c F hret htb hheap => ?_)
  have hWd' := hWd
  obtain ⟨ws, -, -, hE, -⟩ := hWd'
  refine body l D tyc A sa hl ws0 r ad hPw hE p e s m As.toArray below meth c _ F hret htb ?_
  exact (show ai_Wd D tyc A sa ws0 r ad (sm_E (1, [], []) C.1, C.2.2.1, 0, 0) s.heap by rw [hheap]; exact hWd).rel va_S.rf (ai_entry_ok hL0 hA) trivial
/-- a segment with one end -/
noncomputable def ls_one (T : List (Nat × us_C)) (mi : Nat) (stop : List Nat) (skip : Bool) (pc : Nat) (L S : List ai_V) (G : ai_G) : Bool := match ls_sg T mi stop skip pc L S G with
  | some [_] => true
  | _ => false
noncomputable def ls_1 (T : List (Nat × us_C)) (mi : Nat) (stop : List Nat) (skip : Bool) (pc : Nat) (L S : List ai_V) (G : ai_G) : ai_F := match ls_sg T mi stop skip pc L S G with
  | some (f :: _) => f
  | _ => (0, [], [], G)
section LT
variable {p : Program} {l : Launch} {e : Env} {s : State} {m : MethodId} {args : Array Value} {below : List Frame} {meth : Method} {c : Code} {Q : State → Prop}
variable {D : va_G} {tyc : Nat → ClassId} {A : Nat → Prop} {sa : ai_B} {ws0 : va_W} {mi n : Nat}
variable {T : List (Nat × us_C)} {stop : List Nat} {skip : Bool} {pc : Nat} {L S : List ai_V} {G : ai_G} {r : Nat → Int} {ad : Nat → Nat} {H : Heap} {locs : List Loc} {ls : Array Slot} {st : List Value}
theorem ls_ok1 (hpl : ls_plain mi = true) (F : ls_Fr p (lt_rm (n + 1) mi) s m args meth c D tyc A sa mi) (hl : l.stackTraces = false) (hT : lt_all n T) (hPw : ai_Pw tyc ws0)
    (h : ls_one T mi stop skip pc L S G = true) (hR : ai_Rel D tyc A s sa ws0 (ct_mt mi).2.2.1 r ad L S G H locs ls st)
    (k : ls_K p l e (lt_rm (n + 1) mi) s m args below meth c Q D tyc A sa ws0 (ct_mt mi).2.2.1 r ad G (ls_1 T mi stop skip pc L S G)) :
    W p l e (lt_rm (n + 1) mi) s m args below meth c H locs G.2.2.1 G.2.2.2 Q (F0 m pc ls st) := by
  unfold ls_one at h
  unfold ls_1 at k
  split at h
  · rename_i f hf
    rw [hf] at k
    refine ls_ok hpl F hl hT hPw hf hR (fun g hg => ?_)
    rcases List.mem_cons.mp hg with rfl | hg
    · exact k
    · cases hg
  · cases h
end LT
/-- a method's contract with any post, from the walk of its body -/
theorem ls_met {n mi : Nat} {l : Launch} {D : va_G} {tyc : Nat → ClassId} {A : Nat → Prop} {sa : ai_B} {ws0 : va_W} {r : Nat → Int} {ad : Nat → Nat} {H0 : Heap} {As : List Value} {aa : List ai_V} {G : ai_G} {Qc : Array Value → State → Outcome → State → Prop} {XC : String → State → State → Prop} (hpl : ls_plain mi = true) (L0 : List ai_V) (hL0 : ai_pad (ct_mt mi).2.2.1 aa = some L0)
    (hWd : ai_Wd D tyc A sa ws0 r ad G H0) (hA : ai_gF r ad G.1.1 G.2.1.1 aa As)
    (body : ∀ (p : Program) (e : Env) (s : State) (m : MethodId) (below : List Frame) (meth : Method) (c : Code) (ls : Array Slot), ls_Fr p (lt_rm (n + 1) mi) s m As.toArray meth c D tyc A sa mi → meth.sig.returnType = (ct_mt mi).2.2.2.1 → (∀ x ∈ c.exceptionTable.toList, False) → s.heap = H0 →
      ai_Rel D tyc A s sa ws0 (ct_mt mi).2.2.1 r ad L0 [] G s.heap [] ls [] →
      W p l e (lt_rm (n + 1) mi) s m As.toArray below meth c s.heap [] 0 0 (vx_MQ below Qc XC As.toArray s (lt_rm (n + 1) mi).cells (lt_rm (n + 1) mi).slots A) (F0 m 0 ls [])) :
    vx_Met l (ct_mt mi).1 (ai_cw (ct_mt mi) :: ft_W) (lt_rm (n + 1) mi) (fun a U => a = As.toArray ∧ U.heap = H0 ∧ ai_St D tyc A sa ct_strs ft_N U ∧ ∀ q, H0.size ≤ q → A q) Qc XC (lt_rm (n + 1) mi).cells (lt_rm (n + 1) mi).slots A := by
  have hpl' := hpl
  unfold ls_plain at hpl'
  simp only [Bool.and_eq_true, Bool.not_eq_true', Option.isNone_iff_eq_none] at hpl'
  obtain ⟨g1, g2, g3⟩ := hpl'
  obtain ⟨mok, htab⟩ := ls_known g1
  refine hb_met (y := ct_mt mi) sc_all mok g2 ⟨by show 8 ≤ n + 1 + 0 + 8; omega, by show 400 ≤ 64 * (n + 1 + 0) + 400; omega⟩ (fun p e s m below meth c F hret htb hheap => ?_)
  exact body p e s m below meth c _ F hret htb hheap ((show ai_Wd D tyc A sa ws0 r ad G s.heap by rw [hheap]; exact hWd).rel va_S.rf (ai_entry_ok hL0 hA) trivial)
