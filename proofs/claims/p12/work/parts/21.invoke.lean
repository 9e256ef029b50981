/-! A CALL -/
theorem ai_take_ok {r : Nat → Int} {ad : Nat → Nat} {N n : Nat} : ∀ {k : Nat} {acc S aa S' : List ai_V} {accC st : List Value}, ai_gF r ad N n acc accC → ai_gF r ad N n S st → ai_take k acc S = some (aa, S') → ∃ As rest, ai_gF r ad N n aa As ∧ ai_gF r ad N n S' rest ∧ accC.reverse ++ st = As.reverse ++ rest ∧ As.length = accC.length + k
  | 0, acc, S, aa, S', accC, st, h1, h2, h => by
    cases h
    exact ⟨accC, st, h1, h2, rfl, rfl⟩
  | k + 1, acc, [], aa, S', accC, st, h1, h2, h => by cases h
  | k + 1, acc, v :: S, aa, S', accC, st, h1, h2, h => by
    obtain ⟨w, t, rfl, g1, g2⟩ := h2.cons
    obtain ⟨As, rest, f1, f2, f3, f4⟩ := ai_take_ok (k := k) (acc := v :: acc) (S := S) (accC := w :: accC) ⟨g1, h1⟩ g2 h
    refine ⟨As, rest, f1, f2, ?_, ?_⟩
    · rw [← f3, List.reverse_cons, List.append_assoc]; rfl
    · rw [f4, List.length_cons]; omega
theorem ai_over {ty : FieldType} {args : Array Value} {first s : State} {o : Option Outcome} {idx : List Nat} (h : (Cond.arrayOver (.array ty)).holds args first o s idx = true) :
    ∃ comp c k, s.vm.findClass (FieldType.array ty).toString = some comp ∧ (s.vm.classes.findIdx? fun x => match x.kind with | .array component _ => component == comp | _ => false) = some c ∧ s.vm.classes[c]? = some k ∧ k.kind = .array comp (.array ty) ∧
      s.vm.findClass ("[" ++ (FieldType.array ty).toString) = some c := by
  simp only [Cond.holds, Cond.value, beq_iff_eq] at h
  cases hc : s.vm.findClass (FieldType.array ty).toString with
  | none => simp [hc] at h
  | some comp =>
    simp only [hc, Option.bind_some, Option.bind_eq_some_iff, Option.map_eq_some_iff] at h
    obtain ⟨c, hi, k, hk, hb⟩ := h
    obtain ⟨hlt, hp, -⟩ := Array.findIdx?_eq_some_iff_getElem.mp hi
    have hkk : s.vm.classes[c] = k := (Array.getElem?_eq_some_iff.mp hk).2
    rw [hkk] at hp
    cases hkind : k.kind with
    | array component ty =>
      rw [hkind] at hb hp
      simp at hb hp
      exact ⟨comp, c, k, rfl, hi, hk, by rw [hkind, hp, hb.1], hb.2⟩
    | _ => rw [hkind] at hb; simp at hb
theorem va_AOA.moved {ty : FieldType} {u U : State} (hvm : u.vm.Alike U.vm) (h : va_AOA ty u) : va_AOA ty U := by
  obtain ⟨comp, c, k, h1, h2, h3, h4, h5⟩ := ai_over h
  obtain ⟨k', hk', he⟩ := hvm.2.2 _ _ h3
  have hi : (U.vm.classes.findIdx? fun (x : Class) => match x.kind with | .array component _ => component == comp | _ => false) = some c := by
    refine (va_idx_bare U.vm comp).symm.trans ?_
    first | rw [hvm.bare_eq] | rw [← hvm.bare_eq]
    exact (va_idx_bare u.vm comp).trans h2
  have hkind : k'.kind = .array comp (.array ty) := by rw [he]; exact h4
  have f1 : U.vm.findClass (FieldType.array ty).toString = some comp := by rw [hvm.findClass]; exact h1
  have f2 : U.vm.findClass ("[" ++ (FieldType.array ty).toString) = some c := by rw [hvm.findClass]; exact h5
  unfold va_AOA Cond.before Cond.holds
  simp only [Cond.value]
  rw [f1, Option.bind_some]
  refine (congrArg (fun o : Option Nat => (o.bind (fun c => (U.vm.classes[c]?).map fun (k : Class) => match k.kind with | .array _ ty' => decide (ty' = FieldType.array ty) && decide (U.vm.findClass ("[" ++ (FieldType.array ty).toString) = some c) | _ => false) == some true)) hi).trans ?_
  simp [hk', hkind, f2]
noncomputable def ai_nk (w : Cond) : Bool := match w with
  | .methodLinkNest _ _ _ _ => true
  | .declares _ => true
  | .castable _ _ => true
  | _ => false
theorem ai_nk_tab {w : Cond} (h : ai_nk w = true) : w.onTables = true := by
  cases w <;> first | rfl | cases h
theorem ai_nk_warm {w : Cond} (h : ai_nk w = true) {s U : State} (hW : s.WarmedH U.vm) (hZ : va_Nw w s) : va_Nw w U := by
  cases w <;> first | cases h; done | exact va_Nw.warmM hW hZ | exact va_Nw.warmD hW hZ | exact va_Nw.warmC hW hZ
theorem ai_St.moved {D : va_G} {tyc : Nat → ClassId} {A : Nat → Prop} {sa : ai_B} {strs : List ai_Z} {nws : List Cond} {s U : State} (hnk : ∀ w ∈ nws, ai_nk w = true) (hW : s.WarmedH U.vm) (hz : s.heap.size ≤ U.heap.size) (hh : ∀ q : Nat, q < s.heap.size → ¬ A q → U.heap[q]? = s.heap[q]?) (h : ai_St D tyc A sa strs nws s) : ai_St D tyc A sa strs nws U := by
  obtain ⟨h1, h2, h3, ⟨h4, h5⟩, h6, h7, h8, h9, h10, h11, ⟨adV, h12⟩, h13, h14⟩ := h
  refine ⟨h1.moved hW.alike, fun i hi => ((h2 i hi).moved hW.alike).kept hh, fun q hq => (h3 q hq).warm hW, ⟨h4.moved hW.alike, h5.moved hW.alike⟩, h6.moved hW.alike, fun z hz' => ?_, fun w hw => ai_nk_warm (hnk w hw) hW (h8 w hw), (h9.moved hW.alike).kept hh, (h10.moved hW.alike).kept hh, fun q hq => (h11 q hq).moved hW.alike, ⟨adV, (h12.moved hW.alike).kept hh⟩, (h13.moved hW.alike).kept hh, (h14.moved hW.alike).kept hh⟩
  obtain ⟨x1, x2, x3⟩ := h7 z hz'
  exact ⟨(x1.moved hW.alike).kept (hh _ x2 x3), Nat.lt_of_lt_of_le x2 hz, x3⟩
/-- what the tables say of a call -/
noncomputable def ai_wc (Wg nws : List Cond) (y : ai_MT) (own : String) (i : ClassFile.Instr) (len b : Nat) : Prop := match i with
  | .invokevirtual idx => len = 3 ∧ y.2.2.2.2.1 = none ∧ b % 64 = y.2.2.2.2.2 + 1 ∧ (∃ T N, vwCl[b / 64]? = some (y.1.cls, T, N)) ∧ Cond.methodLink own idx y.1 ∈ Wg ∧ Cond.instanceMethod y.1 ∈ Wg ∧ Cond.selects y.1.cls y.1 y.1 ∈ Wg
  | .invokespecial idx => len = 3 ∧ y.2.2.2.2.1 = none ∧ y.2.2.2.1 = none ∧ b = y.2.2.2.2.2 + 1 ∧ y.1.name = "<init>" ∧ Cond.instanceMethod y.1 ∈ Wg ∧ (Cond.methodLink own idx y.1 ∈ Wg ∨ ∃ host, Cond.methodLinkNest own idx y.1 host ∈ nws)
  | .invokestatic idx => len = 3 ∧ b = y.2.2.2.2.2 ∧ Cond.static y.1 ∈ Wg ∧ (Cond.methodLink own idx y.1 ∈ Wg ∨ (y.2.2.2.2.1 = none ∧ ∃ host, Cond.methodLinkNest own idx y.1 host ∈ nws))
  | _ => True
section SI
variable {p : Program} {l : Launch} {e : Env} {R : Room} {s : State} {m : MethodId} {args : Array Value} {below : List Frame} {meth : Method} {c : Code} {Q : State → Prop}
variable {D : va_G} {tyc : Nat → ClassId} {A : Nat → Prop} {sa : ai_B} {ws0 : va_W} {nL : Nat} {cc : ByteArray} {own : String} {Wg : List Cond} {strs : List ai_Z} {nws : List Cond} {bud : Nat × Nat} {dflt : Nat → List ai_V} {kind : Nat → Nat → Nat}
variable {r : Nat → Int} {ad : Nat → Nat} {L S : List ai_V} {G : ai_G} {H : Heap} {locs : List Loc} {ls : Array Slot} {st : List Value} {outs : List (ai_R × ai_G)}
theorem ai_mild_ok {outs : List (ai_R × ai_G)} : ai_mild outs = true → ∀ f ∈ outs, ∀ z, f.1 ≠ .inl z := by
  induction outs with
  | nil => intro _ f hf; cases hf
  | cons x l ih =>
    obtain ⟨y, g⟩ := x
    intro h f hf z
    cases y with
    | inl w => cases h
    | inr w =>
      rcases List.mem_cons.mp hf with rfl | hf
      · intro q; cases q
      · exact ih h f hf z
theorem ai_call_inv {mi n nx mi' q : Nat} {aa S' : List ai_V} (h : ai_call mi n nx S = some (.inr (.inl (mi', aa, S', q)))) : mi' = mi ∧ q = nx ∧ ai_take n [] S = some (aa, S') ∧ ai_words S' ≤ 8 := by
  unfold ai_call at h
  split at h
  · rename_i et
    split at h
    · rename_i ew
      cases h
      exact ⟨rfl, rfl, et, Nat.le_of_ble_eq_true ew⟩
    · cases h
  · cases h
theorem ai_vcall_inv {mi n ci nx mi' q : Nat} {hh : ai_H} {aa S' : List ai_V} (h : ai_vcall mi n ci nx S hh = some (.inr (.inl (mi', aa, S', q)))) : mi' = mi ∧ q = nx ∧ ai_take n [] S = some (aa, S') ∧ ai_words S' ≤ 8 ∧ ∃ o t fs, aa = .inr (.inr (some (some o))) :: t ∧ ai_cell hh o = some (.inl (ci, fs)) := by
  unfold ai_vcall at h
  split at h
  · rename_i et
    split at h
    · split at h
      · rename_i ec
        split at h
        · rename_i e1 e2
          cases h
          have e1 := Nat.eq_of_beq_eq_true e1
          subst e1
          exact ⟨rfl, rfl, et, Nat.le_of_ble_eq_true e2, _, _, _, rfl, ec⟩
        · cases h
      · cases h
    · cases h
  · cases h
theorem ai_icall_inv {mi n nx mi' q : Nat} {aa S' : List ai_V} (h : ai_icall mi n nx S = some (.inr (.inl (mi', aa, S', q)))) : mi' = mi ∧ q = nx ∧ ai_take n [] S = some (aa, S') ∧ ai_words S' ≤ 8 ∧ ∃ o t, aa = .inr (.inr (some (some o))) :: t := by
  unfold ai_icall at h
  split at h
  · rename_i et
    split at h
    · split at h
      · rename_i e2
        cases h
        exact ⟨rfl, rfl, et, Nat.le_of_ble_eq_true e2, _, _, rfl⟩
      · cases h
    · cases h
  · cases h
theorem ai_s2_no {o nx : Nat} {y : (Nat × List ai_V × List ai_V × Nat) ⊕ ai_R} (h : ai_s2 o nx L S G = some (.inr y)) : False := by
  unfold ai_s2 at h
  split at h <;> cases h
theorem ai_l2_no {o nx : Nat} {y : (Nat × List ai_V × List ai_V × Nat) ⊕ ai_R} (h : ai_l2 o nx L S G = some (.inr y)) : False := by
  unfold ai_l2 at h
  split at h <;> cases h
theorem ai_copy_no {nx : Nat} {y : (Nat × List ai_V × List ai_V × Nat) ⊕ ai_R} (h : ai_copy nx L S G = some (.inr y)) : False := by
  unfold ai_copy at h
  split at h
  · obtain ⟨E, hh, cs, sl⟩ := G
    dsimp only at h
    split at h
    · split at h
      · split at h <;> cases h
      · cases h
    · cases h
  · cases h
theorem ai_copyw_no {nx : Nat} {y : (Nat × List ai_V × List ai_V × Nat) ⊕ ai_R} (h : ai_copyw nx L S G = some (.inr y)) : False := by
  unfold ai_copyw at h
  split at h
  · obtain ⟨E, hh, cs, sl⟩ := G
    dsimp only at h
    split at h
    · split at h
      · split at h <;> cases h
      · cases h
    · cases h
  · cases h
theorem ai_copyx_no {nx : Nat} {y : (Nat × List ai_V × List ai_V × Nat) ⊕ ai_R} (h : ai_copyx nx L S G = some (.inr y)) : False := by
  unfold ai_copyx at h
  split at h
  · rename_i z e
    cases h
    exact ai_copy_no e
  · exact ai_copyw_no h
set_option maxHeartbeats 1000000 in
theorem ai_invoke_ok {pc len a b mi pc' : Nat} {i : ClassFile.Instr} {aa S' : List ai_V} {y : ai_MT} {rm : Room} (F : ai_Fr p R s m args meth c D tyc A sa nL cc own Wg strs nws bud dflt kind) (hgood : ∀ w ∈ Wg, goodWord w = true) (hnk : ∀ w ∈ nws, ai_nk w = true) (hwc : mi = a → a < 1000 → ai_wc Wg nws y own i len b) (hmok : ai_mok Wg y) (hrm : rm.frames + 1 ≤ R.frames ∧ rm.locals + 64 ≤ R.locals) (hdg : decode cc pc = .ok (i, len))
    (h : ai_step i bud dflt kind pc (pc + len) a b L S G = some (.inr (.inl (mi, aa, S', pc')))) (hcalm : ai_calm i outs = true) (hR : ai_Rel D tyc A s sa ws0 nL r ad L S G H locs ls st) (hPw : ai_Pw tyc ws0) (hC : ai_Ct l D tyc A sa strs nws Wg y rm aa (G.1, G.2.1, 0, 0) outs) (hroom : G.2.2.1 + rm.cells ≤ R.cells ∧ G.2.2.2 + rm.slots ≤ R.slots) :
    mi = a ∧ pc' = pc + 3 ∧ ∃ (As : Array Value) (rest : List Value), ai_gF r ad G.1.1 G.2.1.1 S' rest ∧ ai_Run p l e R s m args below meth c H locs G.2.2.1 G.2.2.2 rm.cells rm.slots (F0 m pc ls st) rest (ai_Qc D tyc A sa ws0 r ad G.1.1 G.2.1.1 outs As) (ai_XC D tyc A sa ws0 r ad G.1.1 G.2.1.1 outs) A := by
  obtain ⟨hx, hb, hml, hts, hown, hSt0, hA, hbud, hcls, hroom0, hlocks⟩ := F
  obtain ⟨hWd, hS, hL, hSt⟩ := hR.wd
  obtain ⟨m1, m2, m3, m4, m5⟩ := hmok
  have hWd0 : ai_Wd D tyc A sa ws0 r ad (G.1, G.2.1, 0, 0) H := hWd
  have hfix : CallFix p m c cc nL s args Wg own := ⟨hx, hb, hml, hown, hts⟩
  have hGws : GoodIn Wg (ai_cw y :: Wg) := goodIn_sub (fun w hw => (List.mem_cons.mp hw).elim (fun q => by rw [q]; exact m4) (fun q => q)) (List.all_eq_true.mpr (fun w hw => (List.mem_cons.mp hw).elim (fun q => by rw [q]; exact hgood _ m4) (fun q => hgood w q)))
  have hgo : ∀ {ws : List Cond}, (∀ w ∈ ws, w ∈ Wg) → GoodIn Wg ws := fun hm => goodIn_sub hm (List.all_eq_true.mpr (fun w hw => hgood w (hm w hw)))
  have hlo : rm.frames + 1 ≤ R.frames ∧ 8 + (y.2.2.1 + 11) + rm.locals ≤ R.locals := ⟨hrm.1, by omega⟩
  have hpre : ∀ (As : List Value), PreS s H (fun a U => a = As.toArray ∧ U.heap = H ∧ ai_St D tyc A sa strs nws U ∧ ∀ q, H.size ≤ q → A q) As := fun As =>
    ⟨fun a U g mk ⟨h1, h2, h3, h4⟩ => ⟨h1, h2, h3.moved hnk (show U.WarmedH U.vm from State.WarmedH.refl U) (Nat.le_refl _) (fun q _ _ => rfl), h4⟩, fun U hU hW => ⟨rfl, hU, hSt0.moved hnk hW (by rw [hU]; exact hS.1) (fun q h1 h2 => by rw [hU]; exact hS.2.1 q h1 h2), fun q hq => hA q (Nat.le_trans hS.1 hq)⟩⟩
  cases i
  case invokevirtual idx =>
    delta ai_step at h
    dsimp only at h
    split at h
    · rename_i ea
      obtain ⟨em, ep, et, ew, o, ta, fs, rfl, eo⟩ := ai_vcall_inv h
      obtain ⟨rfl, w2, w3, ⟨T, Nf, w4⟩, w5, w6, w7⟩ := hwc em (Nat.le_of_ble_eq_true ea)
      subst em; subst ep
      obtain ⟨As, rest, g1, g2, g3, g4⟩ := ai_take_ok (acc := []) (accC := []) (r := r) (ad := ad) (N := G.1.1) (n := G.2.1.1) trivial hSt et
      refine ⟨rfl, rfl, As.toArray, rest, g2, ?_⟩
      obtain ⟨t, rfl, ho, g5⟩ := ai_gF.ref g1
      have hlen : t.length = y.2.2.2.2.2 := by
        have : t.length + 1 = 0 + Nat.mod b 64 := g4
        have e2 : Nat.mod b 64 = b % 64 := rfl
        omega
      have hstk : st = t.reverse ++ .ref (ad o) :: rest := by
        have : [].reverse ++ st = (Value.ref (ad o) :: t).reverse ++ rest := g3
        rw [List.reverse_cons, List.append_assoc] at this
        exact this
      have hMet := hC ws0 r ad H (Value.ref (ad o) :: t) hPw hWd0 g1
      obtain ⟨ws, hP, hD, hE, hH, hO, hsa⟩ := hWd
      have h16 : 16 ≤ o := ai_old hO eo (fun x q => by cases q)
      obtain ⟨x, hw, hg⟩ := hH.at h16 ho eo
      obtain ⟨vs, rfl, -⟩ := hg
      have hrec := va_recv hSt0.1 hP w4 hw
      unfold ai_cw at hMet hGws
      rw [w2] at hMet hGws
      exact ai_Run.ofX (vx_runV (C := y.1.cls) (index := idx) (n := y.2.2.2.2.2) hfix hMet (cwV _ hts (hgo (fun w hw => by
        rcases List.mem_append.mp hw with hw | hw
        · simp only [List.mem_cons, List.not_mem_nil, or_false] at hw
          rcases hw with rfl | rfl | rfl | rfl
          · exact w5
          · exact w6
          · exact w7
          · exact m5
        · exact (hGws w hw).1)) rfl rfl rfl ⟨rfl, m2⟩ hlo) ⟨(hpre _).1, hrec, (hpre _).2⟩ rfl hlen hL.2.1 hstk (by have := ai_words_ok g2; show 2 * 0 + _ ≤ 8; omega) hdg hroom)
    · cases h
  case invokespecial idx =>
    delta ai_step at h
    dsimp only at h
    split at h
    · split at h
      · split at h <;> cases h
      · cases h
    · split at h
      · rename_i ea
        obtain ⟨em, ep, et, ew, o, ta, rfl⟩ := ai_icall_inv h
        obtain ⟨rfl, w2, w3, w4, w5, w6, w7⟩ := hwc em (Nat.le_of_ble_eq_true ea)
        subst em; subst ep
        obtain ⟨As, rest, g1, g2, g3, g4⟩ := ai_take_ok (acc := []) (accC := []) (r := r) (ad := ad) (N := G.1.1) (n := G.2.1.1) trivial hSt et
        refine ⟨rfl, rfl, As.toArray, rest, g2, ?_⟩
        obtain ⟨t, rfl, ho, g5⟩ := ai_gF.ref g1
        have hlen : t.length = y.2.2.2.2.2 := by
          have : t.length + 1 = 0 + b := g4
          omega
        have hstk : st = t.reverse ++ .ref (ad o) :: rest := by
          have : [].reverse ++ st = (Value.ref (ad o) :: t).reverse ++ rest := g3
          rw [List.reverse_cons, List.append_assoc] at this
          exact this
        have hMet := hC ws0 r ad H (Value.ref (ad o) :: t) hPw hWd0 g1
        unfold ai_cw at hMet hGws
        rw [w2, w3] at hMet
        rw [w2, w3] at hGws
        have hMet0 := ai_Met0 hMet (fun E st t ⟨f, hf, z, hz, _⟩ => ai_mild_ok hcalm f hf z hz)
        rcases w7 with w7 | ⟨host, w7⟩
        · exact ai_Run.ofC (W.runI (index := idx) (n := y.2.2.2.2.2) hfix hMet0 (cwI _ hts hGws rfl rfl rfl (hts _ m5) (hts _ w7) (hts _ w6) w5 m2 hlo) (hpre _) rfl hlen hL.2.1 hstk (by have := ai_words_ok g2; show 2 * 0 + _ ≤ 8; omega) hdg hroom)
        · exact ai_Run.ofA (va_runIN (index := idx) (n := y.2.2.2.2.2) hfix hMet0 ⟨va_cnB _ hts hGws rfl rfl rfl (hSt0.2.2.2.2.2.2.1 _ w7) (hts _ m5) m2 hlo, w5, hts _ w6⟩ (hpre _) rfl hlen hL.2.1 hstk (by have := ai_words_ok g2; show 2 * 0 + _ ≤ 8; omega) hdg hroom)
      · cases h
  case invokestatic idx =>
    delta ai_step at h
    dsimp only at h
    split at h
    · rename_i ea
      obtain ⟨em, ep, et, ew⟩ := ai_call_inv h
      obtain ⟨rfl, w4, w6, w7⟩ := hwc em (Nat.le_of_ble_eq_true ea)
      subst em; subst ep
      obtain ⟨As, rest, g1, g2, g3, g4⟩ := ai_take_ok (acc := []) (accC := []) (r := r) (ad := ad) (N := G.1.1) (n := G.2.1.1) trivial hSt et
      refine ⟨rfl, rfl, As.toArray, rest, g2, ?_⟩
      have hlen : As.length = y.2.2.2.2.2 := by
        have : As.length = 0 + b := g4
        omega
      have hstk : st = As.reverse ++ rest := g3
      have hMet := hC ws0 r ad H As hPw hWd0 g1
      cases ey : y.2.2.2.2.1 with
      | none =>
        unfold ai_cw at hMet hGws
        rw [ey] at hMet hGws
        rcases w7 with w7 | ⟨-, host, w7⟩
        · exact ai_Run.ofX (vx_runS (index := idx) (n := y.2.2.2.2.2) hfix hMet ⟨callB_of _ hts hGws rfl rfl rfl (hts _ m5) (hts _ w7) m2 hlo, hts _ w6⟩ (hpre _) rfl hlen hL.2.1 hstk (by have := ai_words_ok g2; show 2 * 0 + _ ≤ 8; omega) hdg hroom)
        · have hMet0 := ai_Met0 hMet (fun E st t ⟨f, hf, z, hz, _⟩ => ai_mild_ok hcalm f hf z hz)
          exact ai_Run.ofA (va_runSN (index := idx) (n := y.2.2.2.2.2) hfix hMet0 ⟨va_cnB _ hts hGws rfl rfl rfl (hSt0.2.2.2.2.2.2.1 _ w7) (hts _ m5) m2 hlo, hts _ w6, trivial⟩ (hpre _) rfl hlen hL.2.1 hstk (by have := ai_words_ok g2; show 2 * 0 + _ ≤ 8; omega) hdg hroom)
      | some hh =>
        unfold ai_cw at hMet hGws
        rw [ey] at hMet hGws
        rcases w7 with w7 | ⟨q, -⟩
        · exact ai_Run.ofX (vx_runSX (index := idx) (n := y.2.2.2.2.2) hfix hMet (vx_cwSW _ hts (hgo (fun w hw => by
            rcases List.mem_append.mp hw with hw | hw
            · simp only [List.mem_cons, List.not_mem_nil, or_false] at hw
              rcases hw with rfl | rfl | rfl
              · exact w7
              · exact w6
              · exact m5
            · exact (hGws w hw).1)) rfl rfl rfl m2 hlo) (hpre _) rfl hlen hL.2.1 hstk (by have := ai_words_ok g2; show 2 * 0 + _ ≤ 8; omega) hdg hroom)
        · rw [ey] at q; cases q
    · split at h
      · split at h
        · exact (ai_s2_no h).elim
        · exact (ai_s2_no h).elim
        · split at h
          · exact (ai_s2_no h).elim
          · cases h
        · split at h
          · exact (ai_l2_no h).elim
          · cases h
        · exact (ai_copyx_no h).elim
        · cases h
      · cases h
  all_goals cases hcalm
end SI
