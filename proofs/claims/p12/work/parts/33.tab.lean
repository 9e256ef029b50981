/-! CONTRACTS IN LISTS: several of one method; each has a rank (the depth of calls that it takes) -/
theorem lt_room {s : State} {pl : Platform} {r r' : Room} (h1 : r.frames ≤ r'.frames) (h2 : r.locals ≤ r'.locals) (h3 : r.cells = r'.cells) (h4 : r.slots = r'.slots) (h : s.hasRoom pl r' = true) : s.hasRoom pl r = true := by
  unfold State.hasRoom at h ⊢
  rw [h3, h4]
  simp only [Bool.and_eq_true, decide_eq_true_eq] at h ⊢
  obtain ⟨⟨⟨⟨g1, g2, g3, g4, g5, g6⟩, g7⟩, g8⟩, g9⟩ := h
  exact ⟨⟨⟨⟨by omega, by omega, by omega, by omega, by omega, g6⟩, g7⟩, g8⟩, g9⟩
theorem lt_applies {ws : List Cond} {r r' : Room} {x : MethodName} {pl : Platform} {s : State} (h1 : r.frames ≤ r'.frames) (h2 : r.locals ≤ r'.locals) (h3 : r.cells = r'.cells) (h4 : r.slots = r'.slots) (h : (headSpec ws r').appliesLoose x pl s = true) : (headSpec ws r).appliesLoose x pl s = true := by
  unfold Spec.appliesLoose at h ⊢
  split at h
  · simp only [Bool.and_eq_true] at h ⊢
    obtain ⟨⟨g1, g2⟩, g3⟩ := h
    exact ⟨⟨g1, lt_room h1 h2 h3 h4 g2⟩, g3⟩
  · cases h
theorem lt_wide {l : Launch} {y : MethodName} {ws : List Cond} {r r' : Room} {Pc : Array Value → State → Prop} {Qc : Array Value → State → Outcome → State → Prop} {XC : String → State → State → Prop} {mc ms : Nat} {free : Addr → Prop} (h1 : r.frames ≤ r'.frames) (h2 : r.locals ≤ r'.locals) (h3 : r.cells = r'.cells) (h4 : r.slots = r'.slots) (h : vx_Met l y ws r Pc Qc XC mc ms free) : vx_Met l y ws r' Pc Qc XC mc ms free := by
  intro p e ha hc hk s m args below hf hap hp hK
  exact h p e ha hc hk s m args below hf (lt_applies h1 h2 h3 h4 hap) hp hK
noncomputable def xu_mt (E : ai_E) (B : List (Nat × Int × Int)) (d : Nat) : ai_Y → ai_T (Option ai_C) d → ai_T (Option ai_C) d → Option ai_Y :=
  Nat.rec (motive := fun d => ai_Y → ai_T (Option ai_C) d → ai_T (Option ai_C) d → Option ai_Y) (fun y a b => Option.rec (motive := fun _ => Option ai_Y) (some y) (fun cb => ai_mc 1 E B y a (some cb)) b)
    (fun d ih y a b => Prod.rec (motive := fun _ => Option ai_Y) (fun (a1 a2 : ai_T (Option ai_C) d) => Prod.rec (motive := fun _ => Option ai_Y) (fun (b1 b2 : ai_T (Option ai_C) d) => Option.rec (motive := fun _ => Option ai_Y) none (fun y' => ih y' a2 b2) (ih y a1 b1)) (show ai_T (Option ai_C) d × ai_T (Option ai_C) d from b)) (show ai_T (Option ai_C) d × ai_T (Option ai_C) d from a)) d
theorem xu_mt_eq {E : ai_E} {B : List (Nat × Int × Int)} : ∀ {d : Nat} {y : ai_Y} {a b : ai_T (Option ai_C) d}, xu_mt E B d y a b = us_mt E B d y a b
  | 0, y, a, b => by
    show Option.rec (motive := fun _ => Option ai_Y) (some y) (fun cb => ai_mc 1 E B y a (some cb)) b = us_mc E B y a b
    cases b <;> rfl
  | d + 1, y, a, b => by
    show Option.rec (motive := fun _ => Option ai_Y) none (fun y' => xu_mt E B d y' a.2 b.2) (xu_mt E B d y a.1 b.1) = _
    unfold us_mt
    rw [xu_mt_eq (d := d)]
    cases us_mt E B d y a.1 b.1 with
    | none => rfl
    | some y' => exact xu_mt_eq (d := d)
noncomputable def xs_use (C : us_C) (aa : List ai_V) (G : ai_G) : ai_Q := match G with
  | (E, h, _, _) => match Nat.beq h.1 C.2.2.1.1 && us_free h with
    | false => none
    | true => match ai_mvs 1 E (sm_nb 1 C.1 ++ []) [] aa C.2.1 with
      | none => none
      | some y => match xu_mt E (sm_nb 1 C.1 ++ []) 9 y h.2 C.2.2.1.2 with
        | none => none
        | some y => match ai_cov y 1 C.1.length with
          | false => none
          | true => some (C.2.2.2.map (us_out E h (1 + C.1.length) y))
theorem xs_use_eq {C : us_C} {aa : List ai_V} {G : ai_G} : xs_use C aa G = us_use C aa G := by
  unfold xs_use us_use
  simp only [xu_mt_eq]
  rfl
noncomputable def xs_sub (E : ai_E) (f : ai_R × ai_G) (w : sm_W) : Bool := match sm_kind f.1 w.1 with
  | false => false
  | true => match xt_in E.1 [] (sm_val f.1) (f.2.1, f.2.2.1, 0, 0) [] (sm_val w.1) (sm_E E w.2.1, w.2.2, 0, 0) with
    | some y => ai_cov y E.1 w.2.1.length
    | none => false
theorem xs_sub_eq {E : ai_E} {f : ai_R × ai_G} {w : sm_W} : xs_sub E f w = sm_sub E f w := by
  unfold xs_sub sm_sub
  simp only [xt_in_eq]
  rfl
noncomputable def xs_any (E : ai_E) (f : ai_R × ai_G) : List sm_W → Bool
  | [] => false
  | w :: l => match xs_sub E f w with
    | true => true
    | false => xs_any E f l
theorem xs_any_eq {E : ai_E} {f : ai_R × ai_G} : ∀ {l : List sm_W}, xs_any E f l = sm_any E f l
  | [] => rfl
  | w :: l => by
    unfold xs_any sm_any
    rw [xs_sub_eq, xs_any_eq]
    rfl
noncomputable def xs_wh (N : Nat) (h : ai_H) : Bool := xt_tall (sm_wo N h.1) 9 h.2
theorem xs_wh_eq {N : Nat} {h : ai_H} : xs_wh N h = sm_wh N h := xt_tall_eq
noncomputable def xs_ok (E : ai_E) (w : sm_W) : Bool := match (sm_val w.1).all (sm_wv (E.1 + w.2.1.length) w.2.2.1) with
  | true => xs_wh (E.1 + w.2.1.length) w.2.2
  | false => false
theorem xs_ok_eq {E : ai_E} {w : sm_W} : xs_ok E w = sm_ok E w := by
  unfold xs_ok sm_ok
  simp only [xs_wh_eq]
  rfl
noncomputable def xs_ck (C : us_C) : Bool := C.2.1.all (sm_wv (1 + C.1.length) C.2.2.1.1) && (xs_wh (1 + C.1.length) C.2.2.1 && C.2.2.2.all (fun w => Nat.beq w.2.2.1 C.2.2.1.1))
theorem xs_ck_eq {C : us_C} : xs_ck C = us_ck C := by
  unfold xs_ck us_ck
  rw [xs_wh_eq]
noncomputable def xs_get (C : us_C) (q : ai_Q) : Bool := match q with
  | none => false
  | some outs => outs.all (fun f => xs_any (sm_E (1, [], []) C.1) f C.2.2.2) && C.2.2.2.all (xs_ok (sm_E (1, [], []) C.1))
theorem xs_get_eq {C : us_C} {q : ai_Q} : xs_get C q = fl_get C q := by
  unfold xs_get fl_get
  have e : ∀ E : ai_E, xs_ok E = sm_ok E := fun E => funext (fun w => xs_ok_eq)
  simp only [xs_any_eq, e]
  rfl
/-- a contract used: by where its numbers stand, if they are met in their order -/
noncomputable def xb_use (C : us_C) (aa : List ai_V) (G : ai_G) : ai_Q := match fu_fo C with
  | true => fu_use C aa G
  | false => xs_use C aa G
theorem xb_ok {l : Launch} {D : va_G} {tyc : Nat → ClassId} {A : Nat → Prop} {sa : ai_B} {strs : List ai_Z} {nws Wg : List Cond} {y0 : ai_MT} {rm : Room} {C : us_C} (hck : us_ck C = true) (hc : ai_Ct l D tyc A sa strs nws Wg y0 rm C.2.1 (sm_E (1, [], []) C.1, C.2.2.1, 0, 0) (C.2.2.2.map (sm_out (sm_E (1, [], []) C.1))))
    {aa : List ai_V} {G : ai_G} {outs : List (ai_R × ai_G)} (h : xb_use C aa G = some outs) : ai_Ct l D tyc A sa strs nws Wg y0 rm aa G outs := by
  unfold xb_use at h
  cases e : fu_fo C with
  | true =>
    rw [e] at h
    exact fu_ok hck e hc h
  | false =>
    rw [e] at h
    exact us_ok hck hc (by rw [← xs_use_eq]; exact h)
noncomputable def lt_rm (n mi : Nat) : Room := ly_rm n ct_bud 0 mi
/-- a contract that holds -/
noncomputable def lt_ok (n mi : Nat) (C : us_C) : Prop := us_ck C = true ∧ ai_mok ft_W (ct_mt mi) ∧ ∀ (l : Launch) (D : va_G) (tyc : Nat → ClassId) (A : Nat → Prop) (sa : ai_B), l.stackTraces = false → ai_Ct l D tyc A sa ct_strs ft_N ft_W (ct_mt mi) (lt_rm n mi) C.2.1 (sm_E (1, [], []) C.1, C.2.2.1, 0, 0) (C.2.2.2.map (sm_out (sm_E (1, [], []) C.1)))
theorem lt_ok.mono {n n' mi : Nat} {C : us_C} (h : lt_ok n mi C) (hn : n ≤ n') : lt_ok n' mi C := by
  obtain ⟨h1, h2, h3⟩ := h
  refine ⟨h1, h2, fun l D tyc A sa hl ws0 r ad H0 As hPw hWd hA => ?_⟩
  exact lt_wide (r := lt_rm n mi) (r' := lt_rm n' mi) (by show n + 0 + 8 ≤ n' + 0 + 8; omega) (by show 64 * (n + 0) + 400 ≤ 64 * (n' + 0) + 400; omega) rfl rfl (h3 l D tyc A sa hl ws0 r ad H0 As hPw hWd hA)
noncomputable def lt_all (n : Nat) : List (Nat × us_C) → Prop
  | [] => True
  | q :: T => lt_ok n q.1 q.2 ∧ lt_all n T
theorem lt_all.get {n : Nat} {q : Nat × us_C} : ∀ {T : List (Nat × us_C)}, lt_all n T → q ∈ T → lt_ok n q.1 q.2
  | _ :: _, h, hq => by
    rcases List.mem_cons.mp hq with rfl | hq
    · exact h.1
    · exact h.2.get hq
/-- the first of a method's contracts that fits -/
noncomputable def lt_try (T : List (Nat × us_C)) (mi : Nat) (aa : List ai_V) (G : ai_G) : ai_Q := match T with
  | [] => none
  | (mj, C) :: T => match Nat.beq mj mi with
    | true => match xb_use C aa G with
      | some o => some o
      | none => lt_try T mi aa G
    | false => lt_try T mi aa G
theorem lt_try_ok {n mi : Nat} {aa : List ai_V} {G : ai_G} {o : List (ai_R × ai_G)} : ∀ {T : List (Nat × us_C)}, lt_all n T → lt_try T mi aa G = some o → ∃ C, lt_ok n mi C ∧ xb_use C aa G = some o
  | [], _, h => by cases h
  | (mj, C) :: T, hT, h => by
    unfold lt_try at h
    split at h
    · rename_i e
      have e := Nat.eq_of_beq_eq_true e
      subst e
      split at h
      · rename_i e2
        cases h
        exact ⟨C, hT.1, e2⟩
      · exact lt_try_ok hT.2 h
    · exact lt_try_ok hT.2 h
noncomputable def lt_call (T : List (Nat × us_C)) (base : Nat → List ai_V → ai_G → ai_Q) (mi : Nat) (aa : List ai_V) (G : ai_G) : ai_Q := match lt_try T mi aa G with
  | some o => some o
  | none => base mi aa G
noncomputable def lt_meth (prog : Nat → Option ai_M) (T : List (Nat × us_C)) (fuel : Nat) : Nat → Nat → List ai_V → ai_G → ai_Q
  | 0, _, _, _ => none
  | d + 1, mi, args, G => match prog mi with
    | none => none
    | some (nl, code, hand, bud, ann) => match ai_pad nl args with
      | none => none
      | some L => ai_run code hand bud ct_bud ct_dflt ct_kind (lt_call T (lt_meth prog T fuel d)) ann fuel [] false 0 L [] G
noncomputable def lf_meth (prog : Nat → Option fr_M) (T : List (Nat × us_C)) (fuel : Nat) (d : Nat) : Nat → List ai_V → ai_G → ai_Q := Nat.rec (motive := fun _ => Nat → List ai_V → ai_G → ai_Q) (fun _ _ _ => none) (fun _ ih mi args G => fr_enter ct_bud ct_dflt ct_kind fuel (lt_call T ih) args G (prog mi)) d
theorem lf_meth_eq {prog : Nat → Option fr_M} {T : List (Nat × us_C)} {fuel : Nat} (hnx : ∀ mi q, prog mi = some q → fr_nx q.2.1) : ∀ (d mi : Nat) (args : List ai_V) (G : ai_G), lf_meth prog T fuel d mi args G = lt_meth (fun m => (prog m).map fr_unM) T fuel d mi args G := by
  intro d
  induction d with
  | zero => intros; rfl
  | succ d ih =>
    intro mi args G
    have e0 : lf_meth prog T fuel d = lt_meth (fun m => (prog m).map fr_unM) T fuel d := by
      funext a b c
      exact ih a b c
    show fr_enter ct_bud ct_dflt ct_kind fuel (lt_call T (lf_meth prog T fuel d)) args G (prog mi) = _
    rw [e0]
    unfold lt_meth fr_enter
    cases eq : prog mi with
    | none => rfl
    | some q =>
      have hq := hnx mi q eq
      obtain ⟨nl, code, hand, bud, ann⟩ := q
      dsimp only [Option.map, fr_unM]
      cases ai_pad nl args with
      | none => rfl
      | some L => exact fr_run_eq hq _ _ _ _ _ _ _
theorem lt_mok {prog : Nat → Option ai_M} {T : List (Nat × us_C)} {fuel : Nat} (hprog : ∀ mi nl code hand bud ann, prog mi = some (nl, code, hand, bud, ann) → ai_Pm ft_W ft_N ct_strs ct_mt ct_bud mi nl code hand bud ann) : ∀ {d mi : Nat} {aa : List ai_V} {G : ai_G} {outs : List (ai_R × ai_G)}, lt_meth prog T fuel d mi aa G = some outs → ai_mok ft_W (ct_mt mi)
  | 0, mi, aa, G, outs, h => by cases h
  | d + 1, mi, aa, G, outs, h => by
    unfold lt_meth at h
    split at h
    · cases h
    · rename_i nl code hand bud ann ep
      exact (hprog mi nl code hand bud ann ep).2.2.1
theorem lt_call_ok {l : Launch} {D : va_G} {tyc : Nat → ClassId} {A : Nat → Prop} {sa : ai_B} (hl : l.stackTraces = false) {T : List (Nat × us_C)} {n d : Nat} (hT : lt_all n T) {base : Nat → List ai_V → ai_G → ai_Q}
    (hb : ∀ mi {aa : List ai_V} {G : ai_G} {o : List (ai_R × ai_G)}, base mi aa G = some o → ai_mok ft_W (ct_mt mi) ∧ ai_Ct l D tyc A sa ct_strs ft_N ft_W (ct_mt mi) (lt_rm (n + d) mi) aa G o) {mi : Nat} {aa : List ai_V} {G : ai_G} {o : List (ai_R × ai_G)} (h : lt_call T base mi aa G = some o) :
    ai_mok ft_W (ct_mt mi) ∧ ai_Ct l D tyc A sa ct_strs ft_N ft_W (ct_mt mi) (lt_rm (n + d) mi) aa G o := by
  unfold lt_call at h
  split at h
  · rename_i o' e
    cases h
    obtain ⟨C, hC, hu⟩ := lt_try_ok hT e
    obtain ⟨h1, h2, h3⟩ := hC.mono (n' := n + d) (by omega)
    exact ⟨h2, xb_ok h1 (h3 l D tyc A sa hl) hu⟩
  · exact hb mi h
set_option maxHeartbeats 1000000 in
theorem lt_meth_ok {l : Launch} {D : va_G} {tyc : Nat → ClassId} {A : Nat → Prop} {sa : ai_B} (hl : l.stackTraces = false) {prog : Nat → Option ai_M} {T : List (Nat × us_C)} {fuel n : Nat} (hT : lt_all n T) (hprog : ∀ mi nl code hand bud ann, prog mi = some (nl, code, hand, bud, ann) → ai_Pm ft_W ft_N ct_strs ct_mt ct_bud mi nl code hand bud ann) : ∀ (d mi : Nat) (aa : List ai_V) (G : ai_G) (outs : List (ai_R × ai_G)), lt_meth prog T fuel d mi aa G = some outs → ai_Ct l D tyc A sa ct_strs ft_N ft_W (ct_mt mi) (lt_rm (n + d) mi) aa G outs := by
  have hgood : ∀ w ∈ ft_W, goodWord w = true := fun w hw => (List.mem_filter.mp hw).2
  have hnk : ∀ w ∈ ft_N, ai_nk w = true := fun w hw => (List.mem_filter.mp hw).2
  intro d
  induction d with
  | zero => intro mi aa G outs h; cases h
  | succ d ih =>
    intro mi aa G outs h ws0 r ad H0 As hPw hWd hA
    unfold lt_meth at h
    split at h
    · cases h
    · rename_i nl code hand bud ann ep
      obtain ⟨e1, e2, mok, htab, hhand⟩ := hprog mi nl code hand bud ann ep
      split at h
      · cases h
      · rename_i L epad
        have body : ∀ (p : Program) (e : Env) (s : State) (m : MethodId) (args : Array Value) (below : List Frame) (meth : Method) (c : Code) (s₁ : State), BodyLoose p l (ct_mt mi).1 (headSpec (ai_cw (ct_mt mi) :: ft_W) (lt_rm (n + (d + 1)) mi)) (ct_mt mi).2.1 (ct_mt mi).2.2.1 (ct_mt mi).2.2.2.1 e s m args below meth c s₁ → c.maxLocals = (ct_mt mi).2.2.1 → c.exceptionTable.toList = ai_rows (ct_mt mi).2.2.2.2.1 → (args = As.toArray ∧ s.heap = H0 ∧ ai_St D tyc A sa ct_strs ft_N s ∧ ∀ q, H0.size ≤ q → A q) →
            W p l e (headSpec (ai_cw (ct_mt mi) :: ft_W) (lt_rm (n + (d + 1)) mi)).room s m args below meth c s.heap [] 0 0 (vx_MQ below (ai_Qc D tyc A sa ws0 r ad G.1.1 G.2.1.1 outs) (ai_XC D tyc A sa ws0 r ad G.1.1 G.2.1.1 outs) args s (lt_rm (n + (d + 1)) mi).cells (lt_rm (n + (d + 1)) mi).slots A) (entryFrame m args (ct_mt mi).2.2.1) := by
          intro p e s m args below meth c s₁ B hml hrows ⟨hargs, hheap, hSt, hA0⟩
          have hts : ∀ w ∈ ft_W, w.before args s = true := fun w hw => atoms_spec (ws := ai_cw (ct_mt mi) :: ft_W) B.pre w (List.mem_cons_of_mem _ hw)
          have F : ai_Fr p (lt_rm (n + (d + 1)) mi) s m args meth c D tyc A sa nl (ct_mt mi).2.1 (ct_mt mi).1.cls ft_W ct_strs ft_N bud ct_dflt ct_kind := ⟨B.exec, B.bytes, hml.trans e1.symm, hts, findClass_of_methodNamed B.named, hSt, by rw [hheap]; exact hA0, by rw [e2]; exact ⟨rfl, rfl⟩, sc_all, ⟨by show 8 ≤ n + (d + 1) + 0 + 8; omega, by show 400 ≤ 64 * (n + (d + 1) + 0) + 400; omega⟩, B.notSynchronized⟩
          have hsl : ∀ x ∈ c.exceptionTable.toList, (ct_mt mi).2.2.2.2.1.getD [] = [] → False := fun x hx q => by
            rw [hrows] at hx
            cases et : (ct_mt mi).2.2.2.2.1 with
            | none => rw [et] at hx; cases hx
            | some hh =>
              rw [et] at hx q
              have q : hh = [] := q
              subst q
              exact absurd hx (by unfold ai_rows; simp [tableOf])
          have R0 := ai_run_ok (e := e) (below := below) (R := lt_rm (n + (d + 1)) mi) (ws0 := ws0) (r0 := r) (ad0 := ad) (N0 := G.1.1) (n0 := G.2.1.1) (mc := (lt_rm (n + (d + 1)) mi).cells) (ms := (lt_rm (n + (d + 1)) mi).slots) (outs := outs) (cbud := ct_bud) (mt := ct_mt) (rm := lt_rm (n + d)) (callee := lt_call T (lt_meth prog T fuel d)) (ann := ann) (code := code) (hand := hand) (tb := (ct_mt mi).2.2.2.2.1.getD []) (ret := (ct_mt mi).2.2.2.1) (ini := decide ((ct_mt mi).1.name = "<init>")) F hl B.returns (fun q x hx => hsl x hx q) hgood hnk (fun q => (name_of_methodNamed B.named B.method).1.trans (of_decide_eq_true q)) htab
            (fun mj aa' G' o ho => (lt_call_ok hl hT (fun q1 {_ _ _} q4 => ⟨lt_mok hprog q4, ih q1 _ _ _ q4⟩) ho).1)
            (by rw [hrows]; exact hhand) (fun mj => ⟨by show n + d + 0 + 8 + 1 ≤ n + (d + 1) + 0 + 8; omega, by show 64 * (n + d + 0) + 400 + 64 ≤ 64 * (n + (d + 1) + 0) + 400; omega, rfl, rfl⟩) (fun mj aa' G' o ho => (lt_call_ok hl hT (fun q1 {_ _ _} q4 => ⟨lt_mok hprog q4, ih q1 _ _ _ q4⟩) ho).2) hPw (by rw [e2]; exact ⟨Nat.le_refl _, Nat.le_refl _⟩)
            fuel [] false 0 L [] G outs r ad s.heap [] ((lg_sl As ++ List.replicate (nl - (lg_sl As).length) Slot.unset).toArray) [] h (fun f hf => hf) ((show ai_Wd D tyc A sa ws0 r ad G s.heap by rw [hheap]; exact hWd).rel va_S.rf (ai_entry_ok epad hA) trivial) ai_ext.rfl' ai_ext.rfl' (Nat.le_refl _) (Nat.le_refl _) (fun P hP => by cases hP)
          subst hargs
          have e3 : entryFrame m As.toArray (ct_mt mi).2.2.1 = F0 m 0 ((lg_sl As ++ List.replicate (nl - (lg_sl As).length) Slot.unset).toArray) [] := by
            rw [← e1]
            exact lg_entry_eq m As nl
          rw [e3]
          exact W.widen (Nat.zero_le _) (Nat.zero_le _) R0
        unfold ai_cw at body ⊢
        cases et : (ct_mt mi).2.2.2.2.1 with
        | none =>
          rw [et] at body
          exact vx_ofW mok.1 rfl (fun p e s m args below meth c s₁ B hml ht hP => body p e s m args below meth c s₁ B hml (by
            show c.exceptionTable.toList = []
            cases ec : c.exceptionTable.toList with
            | nil => rfl
            | cons x t => exact (ht x (by rw [ec]; exact List.mem_cons_self)).elim) hP)
        | some hh =>
          rw [et] at body
          exact vx_ofWH mok.1 rfl (fun p e s m args below meth c s₁ B hml hP => body p e s m args below meth c s₁ B hml (vx_table (x := (ct_mt mi).1) B (atoms_spec (ws := Cond.codeWith (ct_mt mi).1 (ct_mt mi).2.1 (ct_mt mi).2.2.1 (ct_mt mi).2.2.2.1 hh :: ft_W) B.pre _ List.mem_cons_self)) hP)
/-- marks: by methods -/
noncomputable def lt_mk : List (Nat × List (Nat × ai_AA)) → Nat → Nat → Option ai_AA
  | [], _ => fun _ => none
  | (m, l) :: t, mi => match Nat.beq m mi with
    | true => ai_mark l
    | false => lt_mk t mi
noncomputable def lt_run (mk : List (Nat × List (Nat × ai_AA))) (T : List (Nat × us_C)) (d mi : Nat) (C : us_C) : ai_Q := lf_meth (ct_meth (lt_mk mk)) T 100000 d mi C.2.1 (sm_E (1, [], []) C.1, C.2.2.1, 0, 0)
noncomputable def lt_no9 (mk : List (Nat × List (Nat × ai_AA))) : Bool := mk.all (fun q => q.2.all (fun a => Nat.blt a.1 99999))
theorem lt_mark_no {l : List (Nat × ai_AA)} (h : l.all (fun a => Nat.blt a.1 99999) = true) : ai_mark l 99999 = none := by
  induction l with
  | nil => rfl
  | cons a l ih =>
    rw [List.all_cons, Bool.and_eq_true] at h
    obtain ⟨q, A⟩ := a
    unfold ai_mark
    have h1 : q < 99999 := Nat.le_of_ble_eq_true h.1
    cases e : Nat.beq q 99999 with
    | true => exact absurd (Nat.eq_of_beq_eq_true e) (by omega)
    | false => exact ih h.2
theorem lt_mk_no {mk : List (Nat × List (Nat × ai_AA))} (h : lt_no9 mk = true) (mi : Nat) : lt_mk mk mi 99999 = none := by
  induction mk with
  | nil => rfl
  | cons q t ih =>
    obtain ⟨m, l⟩ := q
    unfold lt_no9 at h
    rw [List.all_cons, Bool.and_eq_true] at h
    unfold lt_mk
    cases Nat.beq m mi with
    | true => exact lt_mark_no h.1
    | false => exact ih h.2
/-- a contract out of an evaluation, contracts proved before being used at the calls -/
theorem lt_new {n d mi : Nat} {mk : List (Nat × List (Nat × ai_AA))} {T : List (Nat × us_C)} {C : us_C} (hT : lt_all n T) (hck : (xs_ck C && lt_no9 mk) = true) (h : xs_get C (lt_run mk T d mi C) = true) : lt_ok (n + d) mi C := by
  rw [xs_get_eq] at h
  rw [xs_ck_eq, Bool.and_eq_true] at hck
  have hprog := ct_hprog (mk := lt_mk mk) (lt_mk_no hck.2)
  unfold fl_get at h
  split at h
  · cases h
  · rename_i outs e
    rw [Bool.and_eq_true] at h
    unfold lt_run at e
    rw [lf_meth_eq ct_hnx] at e
    exact ⟨hck.1, lt_mok hprog e, fun l D tyc A sa hl => sm_join rfl (lt_meth_ok hl hT hprog d mi _ _ _ e) h.1 h.2⟩
