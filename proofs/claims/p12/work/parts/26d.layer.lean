/-! LAYERS: contracts proved before are used at the calls -/
noncomputable def ly_rm (Bn : Nat) (cbud : Nat → Nat × Nat) (d mi : Nat) : Room := { frames := Bn + d + 8, cells := (cbud mi).1, slots := (cbud mi).2, locals := 64 * (Bn + d) + 400 }
noncomputable def ly_rr (Bn B1 D1 : Nat) (tab : Nat → Option us_C) (cbud : Nat → Nat × Nat) (d mi : Nat) : Room := match tab mi with
  | some _ => ly_rm B1 cbud D1 mi
  | none => ly_rm Bn cbud d mi
theorem ly_rr_ok {Bn B1 D1 : Nat} (hB : B1 + D1 ≤ Bn) {tab : Nat → Option us_C} {cbud : Nat → Nat × Nat} {d mi : Nat} : (ly_rr Bn B1 D1 tab cbud d mi).frames + 1 ≤ Bn + (d + 1) + 8 ∧ (ly_rr Bn B1 D1 tab cbud d mi).locals + 64 ≤ 64 * (Bn + (d + 1)) + 400 ∧ (ly_rr Bn B1 D1 tab cbud d mi).cells = (cbud mi).1 ∧ (ly_rr Bn B1 D1 tab cbud d mi).slots = (cbud mi).2 := by
  unfold ly_rr
  cases tab mi with
  | some C => exact ⟨by show B1 + D1 + 8 + 1 ≤ _; omega, by show 64 * (B1 + D1) + 400 + 64 ≤ _; omega, rfl, rfl⟩
  | none => exact ⟨by show Bn + d + 8 + 1 ≤ _; omega, by show 64 * (Bn + d) + 400 + 64 ≤ _; omega, rfl, rfl⟩
noncomputable def ly_call (tab : Nat → Option us_C) (base : Nat → List ai_V → ai_G → ai_Q) (mi : Nat) (aa : List ai_V) (G : ai_G) : ai_Q := match tab mi with
  | some C => us_use C aa G
  | none => base mi aa G
noncomputable def ly_meth (prog : Nat → Option ai_M) (tab : Nat → Option us_C) (cbud : Nat → Nat × Nat) (dflt : Nat → List ai_V) (kind : Nat → Nat → Nat) (fuel : Nat) : Nat → Nat → List ai_V → ai_G → ai_Q
  | 0, _, _, _ => none
  | d + 1, mi, args, G => match prog mi with
    | none => none
    | some (nl, code, hand, bud, ann) => match ai_pad nl args with
      | none => none
      | some L => ai_run code hand bud cbud dflt kind (ly_call tab (ly_meth prog tab cbud dflt kind fuel d)) ann fuel [] false 0 L [] G
theorem ly_call_ok {l : Launch} {D : va_G} {tyc : Nat → ClassId} {A : Nat → Prop} {sa : ai_B} {strs : List ai_Z} {nws Wg : List Cond} {mt : Nat → ai_MT} {cbud : Nat → Nat × Nat} {tab : Nat → Option us_C} {Bn B1 D1 d : Nat} {base : Nat → List ai_V → ai_G → ai_Q}
    (htab : ∀ mi C, tab mi = some C → us_ck C = true ∧ ai_mok Wg (mt mi) ∧ ai_Ct l D tyc A sa strs nws Wg (mt mi) (ly_rm B1 cbud D1 mi) C.2.1 (sm_E (1, [], []) C.1, C.2.2.1, 0, 0) (C.2.2.2.map (sm_out (sm_E (1, [], []) C.1))))
    (hb : ∀ mi {aa : List ai_V} {G : ai_G} {o : List (ai_R × ai_G)}, base mi aa G = some o → ai_mok Wg (mt mi) ∧ ai_Ct l D tyc A sa strs nws Wg (mt mi) (ly_rm Bn cbud d mi) aa G o) {mi : Nat} {aa : List ai_V} {G : ai_G} {o : List (ai_R × ai_G)} (h : ly_call tab base mi aa G = some o) :
    ai_mok Wg (mt mi) ∧ ai_Ct l D tyc A sa strs nws Wg (mt mi) (ly_rr Bn B1 D1 tab cbud d mi) aa G o := by
  unfold ly_call at h
  unfold ly_rr
  cases e : tab mi with
  | some C =>
    rw [e] at h
    obtain ⟨h1, h2, h3⟩ := htab mi C e
    exact ⟨h2, us_ok h1 h3 h⟩
  | none =>
    rw [e] at h
    exact hb mi h
theorem ly_mok {prog : Nat → Option ai_M} {tab : Nat → Option us_C} {cbud : Nat → Nat × Nat} {dflt : Nat → List ai_V} {kind : Nat → Nat → Nat} {fuel : Nat} {Wg nws : List Cond} {strs : List ai_Z} {mt : Nat → ai_MT} (hprog : ∀ mi nl code hand bud ann, prog mi = some (nl, code, hand, bud, ann) → ai_Pm Wg nws strs mt cbud mi nl code hand bud ann) : ∀ {d mi : Nat} {aa : List ai_V} {G : ai_G} {outs : List (ai_R × ai_G)}, ly_meth prog tab cbud dflt kind fuel d mi aa G = some outs → ai_mok Wg (mt mi)
  | 0, mi, aa, G, outs, h => by cases h
  | d + 1, mi, aa, G, outs, h => by
    unfold ly_meth at h
    split at h
    · cases h
    · rename_i nl code hand bud ann ep
      exact (hprog mi nl code hand bud ann ep).2.2.1
set_option maxHeartbeats 1000000 in
theorem ly_meth_ok {l : Launch} {D : va_G} {tyc : Nat → ClassId} {A : Nat → Prop} {sa : ai_B} {strs : List ai_Z} {nws Wg : List Cond} {mt : Nat → ai_MT} {prog : Nat → Option ai_M} {cbud : Nat → Nat × Nat} {dflt : Nat → List ai_V} {kind : Nat → Nat → Nat} {fuel : Nat} {tab : Nat → Option us_C} {Bn B1 D1 : Nat} (hB : B1 + D1 ≤ Bn) (htbl : ∀ mi C, tab mi = some C → us_ck C = true ∧ ai_mok Wg (mt mi) ∧ ai_Ct l D tyc A sa strs nws Wg (mt mi) (ly_rm B1 cbud D1 mi) C.2.1 (sm_E (1, [], []) C.1, C.2.2.1, 0, 0) (C.2.2.2.map (sm_out (sm_E (1, [], []) C.1)))) (hl : l.stackTraces = false) (hgood : ∀ w ∈ Wg, goodWord w = true) (hnk : ∀ w ∈ nws, ai_nk w = true) (hcls : ∀ ci, ci < 13 → ai_cls Wg dflt kind ci)
    (hprog : ∀ mi nl code hand bud ann, prog mi = some (nl, code, hand, bud, ann) → ai_Pm Wg nws strs mt cbud mi nl code hand bud ann) : ∀ (d mi : Nat) (aa : List ai_V) (G : ai_G) (outs : List (ai_R × ai_G)), ly_meth prog tab cbud dflt kind fuel d mi aa G = some outs → ai_Ct l D tyc A sa strs nws Wg (mt mi) (ly_rm Bn cbud d mi) aa G outs := by
  intro d
  induction d with
  | zero => intro mi aa G outs h; cases h
  | succ d ih =>
    intro mi aa G outs h ws0 r ad H0 As hPw hWd hA
    unfold ly_meth at h
    split at h
    · cases h
    · rename_i nl code hand bud ann ep
      obtain ⟨e1, e2, mok, htab, hhand⟩ := hprog mi nl code hand bud ann ep
      split at h
      · cases h
      · rename_i L epad
        have body : ∀ (p : Program) (e : Env) (s : State) (m : MethodId) (args : Array Value) (below : List Frame) (meth : Method) (c : Code) (s₁ : State), BodyLoose p l (mt mi).1 (headSpec (ai_cw (mt mi) :: Wg) (ly_rm Bn cbud (d + 1) mi)) (mt mi).2.1 (mt mi).2.2.1 (mt mi).2.2.2.1 e s m args below meth c s₁ → c.maxLocals = (mt mi).2.2.1 → c.exceptionTable.toList = ai_rows (mt mi).2.2.2.2.1 → (args = As.toArray ∧ s.heap = H0 ∧ ai_St D tyc A sa strs nws s ∧ ∀ q, H0.size ≤ q → A q) →
            W p l e (headSpec (ai_cw (mt mi) :: Wg) (ly_rm Bn cbud (d + 1) mi)).room s m args below meth c s.heap [] 0 0 (vx_MQ below (ai_Qc D tyc A sa ws0 r ad G.1.1 G.2.1.1 outs) (ai_XC D tyc A sa ws0 r ad G.1.1 G.2.1.1 outs) args s (ly_rm Bn cbud (d + 1) mi).cells (ly_rm Bn cbud (d + 1) mi).slots A) (entryFrame m args (mt mi).2.2.1) := by
          intro p e s m args below meth c s₁ B hml hrows ⟨hargs, hheap, hSt, hA0⟩
          have hts : ∀ w ∈ Wg, w.before args s = true := fun w hw => atoms_spec (ws := ai_cw (mt mi) :: Wg) B.pre w (List.mem_cons_of_mem _ hw)
          have F : ai_Fr p (ly_rm Bn cbud (d + 1) mi) s m args meth c D tyc A sa nl (mt mi).2.1 (mt mi).1.cls Wg strs nws bud dflt kind := ⟨B.exec, B.bytes, hml.trans e1.symm, hts, findClass_of_methodNamed B.named, hSt, by rw [hheap]; exact hA0, by rw [e2]; exact ⟨rfl, rfl⟩, hcls, ⟨by show 8 ≤ Bn + (d + 1) + 8; omega, by show 400 ≤ 64 * (Bn + (d + 1)) + 400; omega⟩, B.notSynchronized⟩
          have hsl : ∀ x ∈ c.exceptionTable.toList, (mt mi).2.2.2.2.1.getD [] = [] → False := fun x hx q => by
            rw [hrows] at hx
            cases et : (mt mi).2.2.2.2.1 with
            | none => rw [et] at hx; cases hx
            | some hh =>
              rw [et] at hx q
              have q : hh = [] := q
              subst q
              exact absurd hx (by unfold ai_rows; simp [tableOf])
          have R0 := ai_run_ok (e := e) (below := below) (R := ly_rm Bn cbud (d + 1) mi) (ws0 := ws0) (r0 := r) (ad0 := ad) (N0 := G.1.1) (n0 := G.2.1.1) (mc := (ly_rm Bn cbud (d + 1) mi).cells) (ms := (ly_rm Bn cbud (d + 1) mi).slots) (outs := outs) (cbud := cbud) (mt := mt) (rm := ly_rr Bn B1 D1 tab cbud d) (callee := ly_call tab (ly_meth prog tab cbud dflt kind fuel d)) (ann := ann) (code := code) (hand := hand) (tb := (mt mi).2.2.2.2.1.getD []) (ret := (mt mi).2.2.2.1) (ini := decide ((mt mi).1.name = "<init>")) F hl B.returns (fun q x hx => hsl x hx q) hgood hnk (fun q => (name_of_methodNamed B.named B.method).1.trans (of_decide_eq_true q)) htab
            (fun mj aa' G' o ho => (ly_call_ok htbl (fun q1 {_ _ _} q4 => ⟨ly_mok hprog q4, ih q1 _ _ _ q4⟩) ho).1)
            (by rw [hrows]; exact hhand) (fun mj => ly_rr_ok hB) (fun mj aa' G' o ho => (ly_call_ok htbl (fun q1 {_ _ _} q4 => ⟨ly_mok hprog q4, ih q1 _ _ _ q4⟩) ho).2) hPw (by rw [e2]; exact ⟨Nat.le_refl _, Nat.le_refl _⟩)
            fuel [] false 0 L [] G outs r ad s.heap [] ((lg_sl As ++ List.replicate (nl - (lg_sl As).length) Slot.unset).toArray) [] h (fun f hf => hf) ((show ai_Wd D tyc A sa ws0 r ad G s.heap by rw [hheap]; exact hWd).rel va_S.rf (ai_entry_ok epad hA) trivial) ai_ext.rfl' ai_ext.rfl' (Nat.le_refl _) (Nat.le_refl _) (fun P hP => by cases hP)
          subst hargs
          have e3 : entryFrame m As.toArray (mt mi).2.2.1 = F0 m 0 ((lg_sl As ++ List.replicate (nl - (lg_sl As).length) Slot.unset).toArray) [] := by
            rw [← e1]
            exact lg_entry_eq m As nl
          rw [e3]
          exact W.widen (Nat.zero_le _) (Nat.zero_le _) R0
        unfold ai_cw at body ⊢
        cases et : (mt mi).2.2.2.2.1 with
        | none =>
          rw [et] at body
          exact vx_ofW mok.1 rfl (fun p e s m args below meth c s₁ B hml ht hP => body p e s m args below meth c s₁ B hml (by
            show c.exceptionTable.toList = []
            cases ec : c.exceptionTable.toList with
            | nil => rfl
            | cons x t => exact (ht x (by rw [ec]; exact List.mem_cons_self)).elim) hP)
        | some hh =>
          rw [et] at body
          exact vx_ofWH mok.1 rfl (fun p e s m args below meth c s₁ B hml hP => body p e s m args below meth c s₁ B hml (vx_table (x := (mt mi).1) B (atoms_spec (ws := Cond.codeWith (mt mi).1 (mt mi).2.1 (mt mi).2.2.1 (mt mi).2.2.2.1 hh :: Wg) B.pre _ List.mem_cons_self)) hP)
