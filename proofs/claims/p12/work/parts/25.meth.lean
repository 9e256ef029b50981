/-! METHODS, BY DEPTH OF CALLS -/
noncomputable def ai_rows (t : Option (List (Nat × Nat × Nat × Nat))) : List ExceptionTableEntry := match t with
  | none => []
  | some hh => tableOf hh
noncomputable def ai_rmd (cbud : Nat → Nat × Nat) (d mi : Nat) : Room := { frames := d + 8, cells := (cbud mi).1, slots := (cbud mi).2, locals := 64 * d + 400 }
/-- what the tables say of a method, and of its code -/
noncomputable def ai_Pm (Wg nws : List Cond) (strs : List ai_Z) (mt : Nat → ai_MT) (cbud : Nat → Nat × Nat) (mi nl : Nat) (code : Nat → Option (ClassFile.Instr × Nat × Nat × Nat)) (hand : Nat → Nat → Option (Nat × Nat)) (bud : Nat × Nat) (ann : Nat → Option ai_AA) : Prop :=
  nl = (mt mi).2.2.1 ∧ bud = cbud mi ∧ ai_mok Wg (mt mi) ∧ ai_tab Wg nws strs mt (mt mi).1.cls (decide ((mt mi).1.name = "<init>")) (mt mi).2.2.2.1 (mt mi).2.1 ((mt mi).2.2.2.2.1.getD []) code ∧
  ∀ pc z, match hand pc z with
    | none => ∀ x ∈ ai_rows (mt mi).2.2.2.2.1, covers x pc = false
    | some (k, pcn) => (code pcn = none ∧ ann pcn = none) ∨ ai_hk Wg nws (mt mi).1.cls nl (mt mi).2.1 (ai_rows (mt mi).2.2.2.2.1) pc z k pcn
theorem ai_pad_ok {r : Nat → Int} {ad : Nat → Nat} {N n : Nat} : ∀ {nl : Nat} {aa L : List ai_V} {As : List Value}, ai_pad nl aa = some L → ai_gF r ad N n aa As → L.length = nl ∧ As.length ≤ nl ∧ (∀ v ∈ As, v.category = 1) ∧ ∀ i, ai_lget L i ≠ .inr (.inr none) → ∃ v, As[i]? = some v ∧ ai_gV r ad N n (ai_lget L i) v
  | 0, [], L, As, h, hA => by
    cases h
    cases As with
    | nil => exact ⟨rfl, Nat.le_refl _, fun v hv => (by cases hv), fun i hi => absurd rfl hi⟩
    | cons v t => exact hA.elim
  | 0, _ :: _, _, _, h, _ => by cases h
  | nl + 1, [], L, As, h, hA => by
    unfold ai_pad at h
    split at h
    · rename_i l e
      cases h
      obtain ⟨g1, g2, g3, g4⟩ := ai_pad_ok (As := As) e hA
      cases As with
      | cons v t => exact hA.elim
      | nil => exact ⟨congrArg Nat.succ g1, Nat.zero_le _, fun v hv => (by cases hv), fun i hi => by
        cases i with
        | zero => exact absurd rfl hi
        | succ i =>
          obtain ⟨v, k1, -⟩ := g4 i hi
          cases k1⟩
    · cases h
  | nl + 1, a :: aa, L, As, h, hA => by
    unfold ai_pad at h
    split at h
    · rename_i l e e1
      cases h
      obtain ⟨v, t, rfl, f1, f2⟩ := hA.cons
      obtain ⟨g1, g2, g3, g4⟩ := ai_pad_ok e f2
      refine ⟨congrArg Nat.succ g1, Nat.succ_le_succ g2, fun w hw => ?_, fun i hi => ?_⟩
      · rcases List.mem_cons.mp hw with rfl | hw
        · exact f1.cat.1 e1
        · exact g3 w hw
      · cases i with
        | zero => exact ⟨v, rfl, f1⟩
        | succ i =>
          obtain ⟨w, k1, k2⟩ := g4 i hi
          exact ⟨w, by rw [List.getElem?_cons_succ]; exact k1, k2⟩
    · cases h
theorem ai_args_ok : ∀ {As : List Value} {k i : Nat} {v : Value}, (∀ v ∈ As, v.category = 1) → As[i]? = some v → (k + i, v) ∈ lv_args k As
  | [], _, _, _, _, h => by cases h
  | w :: As, k, 0, v, hc, h => by
    cases h
    exact List.mem_cons_self
  | w :: As, k, i + 1, v, hc, h => by
    have h1 : w.category = 1 := hc _ List.mem_cons_self
    unfold lv_args
    rw [if_neg (by omega)]
    have := ai_args_ok (As := As) (k := k + 1) (i := i) (v := v) (fun u hu => hc u (List.mem_cons_of_mem _ hu)) (by rw [List.getElem?_cons_succ] at h; exact h)
    rw [show k + (i + 1) = k + 1 + i by omega]
    exact List.mem_cons_of_mem _ this
theorem ai_sl_len : ∀ {As : List Value}, (∀ v ∈ As, v.category = 1) → (lg_sl As).length = As.length
  | [], _ => rfl
  | w :: As, hc => by
    have h1 : w.category = 1 := hc _ List.mem_cons_self
    have ih := ai_sl_len (As := As) (fun u hu => hc u (List.mem_cons_of_mem _ hu))
    have e : lg_sl (w :: As) = [.val w] ++ lg_sl As := by
      unfold lg_sl
      rw [List.flatMap_cons, if_neg (by omega)]
    rw [e, List.length_append, ih]
    show 1 + As.length = As.length + 1
    omega
theorem ai_entry_ok {r : Nat → Int} {ad : Nat → Nat} {N n nl : Nat} {aa L : List ai_V} {As : List Value} (h : ai_pad nl aa = some L) (hA : ai_gF r ad N n aa As) : ai_gL r ad N n nl L ((lg_sl As ++ List.replicate (nl - (lg_sl As).length) Slot.unset).toArray) := by
  obtain ⟨g1, g2, g3, g4⟩ := ai_pad_ok h hA
  have hv := lv_entry As (n := nl) (by rw [ai_sl_len g3]; exact g2)
  refine ⟨g1, hv.1, hv.2.1, fun i hi => ?_⟩
  obtain ⟨v, k1, k2⟩ := g4 i hi
  have := hv.2.2 _ (ai_args_ok (k := 0) g3 k1)
  rw [Nat.zero_add] at this
  exact ⟨v, this, k2⟩
theorem ai_meth_some {prog : Nat → Option ai_M} {cbud : Nat → Nat × Nat} {dflt : Nat → List ai_V} {kind : Nat → Nat → Nat} {fuel : Nat} : ∀ {d mi : Nat} {aa : List ai_V} {G : ai_G} {outs : List (ai_R × ai_G)}, ai_meth prog cbud dflt kind fuel d mi aa G = some outs → ∃ q, prog mi = some q
  | 0, mi, aa, G, outs, h => by cases h
  | d + 1, mi, aa, G, outs, h => by
    unfold ai_meth at h
    split at h
    · cases h
    · rename_i q
      exact ⟨_, q⟩
set_option maxHeartbeats 1000000 in
theorem ai_meth_ok {l : Launch} {D : va_G} {tyc : Nat → ClassId} {A : Nat → Prop} {sa : ai_B} {strs : List ai_Z} {nws Wg : List Cond} {mt : Nat → ai_MT} {prog : Nat → Option ai_M} {cbud : Nat → Nat × Nat} {dflt : Nat → List ai_V} {kind : Nat → Nat → Nat} {fuel : Nat} (hl : l.stackTraces = false) (hgood : ∀ w ∈ Wg, goodWord w = true) (hnk : ∀ w ∈ nws, ai_nk w = true) (hcls : ∀ ci, ci < 13 → ai_cls Wg dflt kind ci)
    (hprog : ∀ mi nl code hand bud ann, prog mi = some (nl, code, hand, bud, ann) → ai_Pm Wg nws strs mt cbud mi nl code hand bud ann) : ∀ (d mi : Nat) (aa : List ai_V) (G : ai_G) (outs : List (ai_R × ai_G)), ai_meth prog cbud dflt kind fuel d mi aa G = some outs → ai_Ct l D tyc A sa strs nws Wg (mt mi) (ai_rmd cbud d mi) aa G outs := by
  intro d
  induction d with
  | zero => intro mi aa G outs h; cases h
  | succ d ih =>
    intro mi aa G outs h ws0 r ad H0 As hPw hWd hA
    unfold ai_meth at h
    split at h
    · cases h
    · rename_i nl code hand bud ann ep
      obtain ⟨e1, e2, mok, htab, hhand⟩ := hprog mi nl code hand bud ann ep
      split at h
      · cases h
      · rename_i L epad
        have body : ∀ (p : Program) (e : Env) (s : State) (m : MethodId) (args : Array Value) (below : List Frame) (meth : Method) (c : Code) (s₁ : State), BodyLoose p l (mt mi).1 (headSpec (ai_cw (mt mi) :: Wg) (ai_rmd cbud (d + 1) mi)) (mt mi).2.1 (mt mi).2.2.1 (mt mi).2.2.2.1 e s m args below meth c s₁ → c.maxLocals = (mt mi).2.2.1 → c.exceptionTable.toList = ai_rows (mt mi).2.2.2.2.1 → (args = As.toArray ∧ s.heap = H0 ∧ ai_St D tyc A sa strs nws s ∧ ∀ q, H0.size ≤ q → A q) →
            W p l e (headSpec (ai_cw (mt mi) :: Wg) (ai_rmd cbud (d + 1) mi)).room s m args below meth c s.heap [] 0 0 (vx_MQ below (ai_Qc D tyc A sa ws0 r ad G.1.1 G.2.1.1 outs) (ai_XC D tyc A sa ws0 r ad G.1.1 G.2.1.1 outs) args s (ai_rmd cbud (d + 1) mi).cells (ai_rmd cbud (d + 1) mi).slots A) (entryFrame m args (mt mi).2.2.1) := by
          intro p e s m args below meth c s₁ B hml hrows ⟨hargs, hheap, hSt, hA0⟩
          have hts : ∀ w ∈ Wg, w.before args s = true := fun w hw => atoms_spec (ws := ai_cw (mt mi) :: Wg) B.pre w (List.mem_cons_of_mem _ hw)
          have F : ai_Fr p (ai_rmd cbud (d + 1) mi) s m args meth c D tyc A sa nl (mt mi).2.1 (mt mi).1.cls Wg strs nws bud dflt kind := ⟨B.exec, B.bytes, hml.trans e1.symm, hts, findClass_of_methodNamed B.named, hSt, by rw [hheap]; exact hA0, by rw [e2]; exact ⟨rfl, rfl⟩, hcls, ⟨by show 8 ≤ d + 1 + 8; omega, by show 400 ≤ 64 * (d + 1) + 400; omega⟩, B.notSynchronized⟩
          have hsl : ∀ x ∈ c.exceptionTable.toList, (mt mi).2.2.2.2.1.getD [] = [] → False := fun x hx q => by
            rw [hrows] at hx
            cases et : (mt mi).2.2.2.2.1 with
            | none => rw [et] at hx; cases hx
            | some hh =>
              rw [et] at hx q
              have q : hh = [] := q
              subst q
              exact absurd hx (by unfold ai_rows; simp [tableOf])
          have R0 := ai_run_ok (e := e) (below := below) (R := ai_rmd cbud (d + 1) mi) (ws0 := ws0) (r0 := r) (ad0 := ad) (N0 := G.1.1) (n0 := G.2.1.1) (mc := (ai_rmd cbud (d + 1) mi).cells) (ms := (ai_rmd cbud (d + 1) mi).slots) (outs := outs) (cbud := cbud) (mt := mt) (rm := ai_rmd cbud d) (callee := ai_meth prog cbud dflt kind fuel d) (ann := ann) (code := code) (hand := hand) (tb := (mt mi).2.2.2.2.1.getD []) (ret := (mt mi).2.2.2.1) (ini := decide ((mt mi).1.name = "<init>")) F hl B.returns (fun q x hx => hsl x hx q) hgood hnk (fun q => (name_of_methodNamed B.named B.method).1.trans (of_decide_eq_true q)) htab
            (fun mj aa' G' o ho => by
              obtain ⟨⟨nl', code', hand', bud', ann'⟩, hq⟩ := ai_meth_some ho
              exact (hprog _ _ _ _ _ _ hq).2.2.1)
            (by rw [hrows]; exact hhand) (fun mj => ⟨by show d + 8 + 1 ≤ d + 1 + 8; omega, by show 64 * d + 400 + 64 ≤ 64 * (d + 1) + 400; omega, rfl, rfl⟩) (fun mj aa' G' o ho => ih mj aa' G' o ho) hPw (by rw [e2]; exact ⟨Nat.le_refl _, Nat.le_refl _⟩)
            fuel [] false 0 L [] G outs r ad s.heap [] ((lg_sl As ++ List.replicate (nl - (lg_sl As).length) Slot.unset).toArray) [] h (fun f hf => hf) ((show ai_Wd D tyc A sa ws0 r ad G s.heap by rw [hheap]; exact hWd).rel va_S.rf (ai_entry_ok epad hA) trivial) ai_ext.rfl' ai_ext.rfl' (Nat.le_refl _) (Nat.le_refl _) (fun P hP => by cases hP)
          subst hargs
          have e3 : entryFrame m As.toArray (mt mi).2.2.1 = F0 m 0 ((lg_sl As ++ List.replicate (nl - (lg_sl As).length) Slot.unset).toArray) [] := by
            rw [← e1]
            exact lg_entry_eq m As nl
          rw [e3]
          exact W.widen (Nat.zero_le _) (Nat.zero_le _) R0
        unfold ai_cw at body ⊢
        cases et : (mt mi).2.2.2.2.1 with
        | none =>
          rw [et] at body
          exact vx_ofW mok.1 rfl (fun p e s m args below meth c s₁ B hml ht hP => body p e s m args below meth c s₁ B hml (by
            show c.exceptionTable.toList = []
            cases ec : c.exceptionTable.toList with
            | nil => rfl
            | cons x t => exact (ht x (by rw [ec]; exact List.mem_cons_self)).elim) hP)
        | some hh =>
          rw [et] at body
          exact vx_ofWH mok.1 rfl (fun p e s m args below meth c s₁ B hml hP => body p e s m args below meth c s₁ B hml (vx_table (x := (mt mi).1) B (atoms_spec (ws := Cond.codeWith (mt mi).1 (mt mi).2.1 (mt mi).2.2.1 (mt mi).2.2.2.1 hh :: Wg) B.pre _ List.mem_cons_self)) hP)
