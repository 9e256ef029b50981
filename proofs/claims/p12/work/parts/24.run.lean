/-! A METHOD'S RUN -/
noncomputable def ai_meas (up : Bool) (v : Int) : Nat := match up with
  | true => (ai_hi64 - v).toNat
  | false => (v - ai_lo64).toNat
theorem ai_gE.ext {r r' : Nat → Int} {E : ai_E} (h : ai_gE r E) (hx : ai_ext E.1 r r') : ai_gE r' E := by
  obtain ⟨h1, h2, h3, h4, h5⟩ := h
  refine ⟨by rw [hx 0 h2]; exact h1, h2, fun t ht => by rw [hx t ht]; exact h3 t ht, fun q hq => ?_, fun q hq => ?_⟩
  · have := h4 q hq
    rw [hx q.1 this.1]
    exact this
  · obtain ⟨g1, g2, g3, g4⟩ := h5 q hq
    exact ⟨g1, g2, g3, by rw [hx _ g1, hx.vx g2, hx.vx g3]; exact g4⟩
theorem ai_act_ok {pc : Nat} {P : ai_P} : ∀ {l : List ai_P}, ai_act l pc = some P → P ∈ l ∧ P.1 = pc
  | [], h => by cases h
  | a :: l, h => by
    unfold ai_act at h
    split at h
    · rename_i e
      cases h
      exact ⟨List.mem_cons_self, Nat.eq_of_beq_eq_true e⟩
    · obtain ⟨g1, g2⟩ := ai_act_ok (l := l) h
      exact ⟨List.mem_cons_of_mem _ g1, g2⟩
theorem ai_many_ok {go : ai_F → ai_Q} : ∀ {l : List ai_F} {os : List (ai_R × ai_G)}, ai_many go l = some os → ∀ f ∈ l, ∃ o, go f = some o ∧ ∀ g ∈ o, g ∈ os
  | [], _, _, f, hf => by cases hf
  | f :: l, os, h, f', hf => by
    unfold ai_many at h
    cases l with
    | nil =>
      rcases List.mem_cons.mp hf with rfl | hf
      · exact ⟨os, h, fun g hg => hg⟩
      · cases hf
    | cons f2 l2 =>
      dsimp only at h
      split at h
      · cases h
      · rename_i a e1
        split at h
        · cases h
        · rename_i b e2
          cases h
          rcases List.mem_cons.mp hf with rfl | hf
          · exact ⟨a, e1, fun g hg => List.mem_append_left _ hg⟩
          · obtain ⟨o, g1, g2⟩ := ai_many_ok e2 f' hf
            exact ⟨o, g1, fun g hg => List.mem_append_right _ (g2 g hg)⟩
theorem ai_each_ok {go : ai_R × ai_G → ai_Q} : ∀ {l : List (ai_R × ai_G)} {os : List (ai_R × ai_G)}, ai_each go l = some os → ∀ f ∈ l, ∃ o, go f = some o ∧ ∀ g ∈ o, g ∈ os
  | [], _, _, f, hf => by cases hf
  | f :: l, os, h, f', hf => by
    unfold ai_each at h
    cases l with
    | nil =>
      rcases List.mem_cons.mp hf with rfl | hf
      · exact ⟨os, h, fun g hg => hg⟩
      · cases hf
    | cons f2 l2 =>
      dsimp only at h
      split at h
      · cases h
      · rename_i a e1
        split at h
        · cases h
        · rename_i b e2
          cases h
          rcases List.mem_cons.mp hf with rfl | hf
          · exact ⟨a, e1, fun g hg => List.mem_append_left _ hg⟩
          · obtain ⟨o, g1, g2⟩ := ai_each_ok e2 f' hf
            exact ⟨o, g1, fun g hg => List.mem_append_right _ (g2 g hg)⟩
theorem ai_cov_ok {y : ai_Y} : ∀ {k t : Nat}, ai_cov y t k = true → ∀ u, t ≤ u → u < t + k → ai_ylook y u ≠ none
  | 0, t, _, u, h1, h2 => by omega
  | k + 1, t, h, u, h1, h2 => by
    unfold ai_cov at h
    split at h
    · rename_i x e
      by_cases q : u = t
      · subst q
        rw [e]
        exact fun q => by cases q
      · exact ai_cov_ok h u (by omega) (by omega)
    · cases h
theorem ai_near_ok {up : Bool} {t : Nat} {y : ai_Y} (h : ai_near up t y = true) : ∃ c, ai_ylook y t = some (t, c) ∧ (up = true → 1 ≤ c) ∧ (up = false → c ≤ -1) := by
  unfold ai_near at h
  split at h
  · rename_i u c e
    split at h
    · rename_i eb
      have eb := Nat.eq_of_beq_eq_true eb
      subst eb
      refine ⟨c, e, fun q => ?_, fun q => ?_⟩
      · subst q; exact ai_le_iff.mp h
      · subst q; exact ai_le_iff.mp h
    · cases h
  · cases h
theorem ai_lget_getv {a : ai_V} : ∀ {L : List ai_V} {i : Nat}, ai_getv L i = some a → ai_lget L i = a
  | [], _, h => by cases h
  | v :: l, 0, h => by cases h; rfl
  | v :: l, i + 1, h => ai_lget_getv (L := l) (i := i) h
theorem ai_setv_n {a : ai_V} : ∀ {L : List ai_V} {i : Nat}, (ai_setv L i a).length = L.length
  | [], _ => rfl
  | v :: l, 0 => rfl
  | v :: l, i + 1 => congrArg Nat.succ (ai_setv_n (L := l) (i := i))
theorem ai_lget_setv {a : ai_V} : ∀ {L : List ai_V} {i j : Nat}, ai_lget (ai_setv L i a) j = ai_lget L j ∨ (j = i ∧ ai_lget (ai_setv L i a) j = a)
  | [], _, _ => Or.inl rfl
  | v :: l, 0, 0 => Or.inr ⟨rfl, rfl⟩
  | v :: l, 0, j + 1 => Or.inl rfl
  | v :: l, i + 1, 0 => Or.inl rfl
  | v :: l, i + 1, j + 1 => (ai_lget_setv (L := l) (i := i) (j := j)).imp (fun q => q) (fun q => ⟨congrArg Nat.succ q.1, q.2⟩)
theorem ai_opt_mem {o : Option ai_E} {E : ai_E} {pc : Nat} {L S : List ai_V} {h : ai_H × Nat × Nat} (e : o = some E) : (pc, L, S, (E, h)) ∈ ai_opt o pc L S h := by
  subst e
  exact List.mem_cons_self
section SL
variable {D : va_G} {tyc : Nat → ClassId} {A : Nat → Prop} {s : State} {sa : ai_B} {ws0 : va_W} {nL : Nat} {r : Nat → Int} {ad : Nat → Nat} {L S : List ai_V} {G : ai_G} {H : Heap} {locs : List Loc} {ls : Array Slot} {st : List Value} {pc : Nat}
theorem ai_slit_E {E E1 : ai_E} {h : ai_H × Nat × Nat} (hR : ai_Rel D tyc A s sa ws0 nL r ad L S (E, h) H locs ls st) (e2 : ai_gE r E1) (e3 : E1.1 = E.1) : ai_Rel D tyc A s sa ws0 nL r ad L S (E1, h) H locs ls st := by
  obtain ⟨ws, g1, g2, g3, g4, g5, g6, g7, g8, g9⟩ := hR
  refine ⟨ws, g1, g2, g3, e2, ?_, ?_, g7, ?_, ?_⟩
  · show ai_gH tyc r ad E1.1 ws0 h.1 ws
    rw [e3]; exact g5
  · show ai_gO sa.2 r ad E1.1 h.1
    rw [e3]; exact g6
  · show ai_gL r ad E1.1 h.1.1 nL L ls
    rw [e3]; exact g8
  · show ai_gF r ad E1.1 h.1.1 S st
    rw [e3]; exact g9
theorem ai_slit_L {E : ai_E} {h : ai_H × Nat × Nat} {i : Nat} {x : ai_X} {v : Int} (hR : ai_Rel D tyc A s sa ws0 nL r ad L S (E, h) H locs ls st) (hl : ai_lget L i = .inl x) (hv : ai_vx r x = ai_vx r (0, v)) : ai_Rel D tyc A s sa ws0 nL r ad (ai_setv L i (.inl (0, v))) S (E, h) H locs ls st := by
  obtain ⟨ws, g1, g2, g3, g4, g5, g6, g7, g8, g9⟩ := hR
  obtain ⟨w, w1, w2⟩ := g8.2.2.2 i (by rw [hl]; exact fun q => by cases q)
  rw [hl] at w2
  obtain ⟨w3, i32, rfl, w4⟩ := w2
  refine ⟨ws, g1, g2, g3, g4, g5, g6, g7, ⟨ai_setv_n.trans g8.1, g8.2.1, g8.2.2.1, fun j hj => ?_⟩, g9⟩
  rcases ai_lget_setv (a := .inl (0, v)) (L := L) (i := i) (j := j) with q | ⟨rfl, q⟩
  · rw [q] at hj ⊢
    exact g8.2.2.2 j hj
  · rw [q]
    exact ⟨_, w1, g4.2.1, i32, rfl, w4.trans hv⟩
theorem ai_enum_ok {E : ai_E} {h : ai_H × Nat × Nat} {i : Nat} {x : ai_X} (hR : ai_Rel D tyc A s sa ws0 nL r ad L S (E, h) H locs ls st) (hl : ai_lget L i = .inl x) (hx : x.1 < E.1) : ∀ {n : Nat} {u : Int}, u ≤ ai_vx r x → ai_vx r x < u + n → ∃ f ∈ ai_enum E x i pc L S h n u, f.1 = pc ∧ f.2.2.1 = S ∧ ai_Rel D tyc A s sa ws0 nL r ad f.2.1 f.2.2.1 f.2.2.2 H locs ls st ∧ f.2.2.2.1.1 = E.1 ∧ f.2.2.2.2 = h
  | 0, u, h1, h2 => by omega
  | n + 1, u, h1, h2 => by
    have hE : ai_gE r E := hR.env
    have v0 : ai_vx r (0, u) = u := by
      show r 0 + u = u
      rw [hE.1]; omega
    by_cases q : ai_vx r x = u
    · obtain ⟨E1, e1, e2, e3⟩ := ai_same_ok hE hx (y := (0, u)) hE.2.1 (by rw [v0]; exact q)
      exact ⟨_, List.mem_append_left _ (ai_opt_mem e1), rfl, rfl, ai_slit_E (ai_slit_L hR hl (by rw [v0]; exact q)) e2 e3, e3, rfl⟩
    · obtain ⟨f, g1, g2⟩ := ai_enum_ok hR hl hx (n := n) (u := u + 1) (by omega) (by omega)
      exact ⟨f, List.mem_append_right _ g1, g2⟩
/-- a state at a mark with a cut is one of those that it is put into -/
theorem ai_slit_ok {cut : Option (Nat × Int)} (hR : ai_Rel D tyc A s sa ws0 nL r ad L S G H locs ls st) : ∃ f ∈ ai_slit cut pc L S G, f.1 = pc ∧ f.2.2.1 = S ∧ ai_Rel D tyc A s sa ws0 nL r ad f.2.1 f.2.2.1 f.2.2.2 H locs ls st ∧ f.2.2.2.1.1 = G.1.1 ∧ f.2.2.2.2 = G.2 := by
  have same : (pc, L, S, G) ∈ [(pc, L, S, G)] := List.mem_cons_self
  cases cut with
  | none => exact ⟨_, same, rfl, rfl, hR, rfl, rfl⟩
  | some q =>
    obtain ⟨i, v⟩ := q
    have lw : ∀ {i : Nat} {x : ai_X}, ai_getv L i = some (.inl x) → x.1 < G.1.1 := fun {i x} ex => by
      obtain ⟨ws, g1, g2, g3, g4, g5, g6, g7, g8, g9⟩ := hR
      have hl : ai_lget L i = .inl x := ai_lget_getv ex
      obtain ⟨w, w1, w2⟩ := g8.2.2.2 i (by rw [hl]; exact fun q => by cases q)
      rw [hl] at w2
      exact w2.1
    have v0 : ∀ u : Int, ai_vx r (0, u) = u := fun u => by
      show r 0 + u = u
      rw [hR.env.1]; omega
    unfold ai_slit
    dsimp only
    split
    · split
      · rename_i x ex
        have w3 := lw ex
        obtain ⟨E, h⟩ := G
        dsimp only
        have hE : ai_gE r E := hR.env
        by_cases hv : ai_vx r x = ai_vx r (0, v)
        · obtain ⟨E1, e1, e2, e3⟩ := ai_same_ok hE w3 (y := (0, v)) hE.2.1 hv
          exact ⟨_, List.mem_append_left _ (ai_opt_mem e1), rfl, rfl, ai_slit_E (ai_slit_L hR (ai_lget_getv ex) hv) e2 e3, e3, rfl⟩
        · obtain ⟨E1, e1, e2, e3⟩ := ai_differ_ok hE w3 (y := (0, v)) hE.2.1 hv
          exact ⟨_, List.mem_append_right _ (ai_opt_mem e1), rfl, rfl, ai_slit_E hR e2 e3, e3, rfl⟩
      · exact ⟨_, same, rfl, rfl, hR, rfl, rfl⟩
    · split
      · rename_i x ex
        have w3 := lw ex
        obtain ⟨E, h⟩ := G
        dsimp only
        have hE : ai_gE r E := hR.env
        by_cases c1 : ai_vx r x < 0
        · obtain ⟨E1, e1, e2, e3⟩ := ai_leq_ok hE w3 (y := (0, 0)) (k := -1) hE.2.1 (by rw [v0]; omega)
          exact ⟨_, List.mem_append_left _ (ai_opt_mem e1), rfl, rfl, ai_slit_E hR e2 e3, e3, rfl⟩
        · by_cases c2 : v < ai_vx r x
          · obtain ⟨E1, e1, e2, e3⟩ := ai_leq_ok hE (x := (0, v)) (y := x) (k := -1) hE.2.1 w3 (by rw [v0]; omega)
            exact ⟨_, List.mem_append_right _ (List.mem_append_left _ (ai_opt_mem e1)), rfl, rfl, ai_slit_E hR e2 e3, e3, rfl⟩
          · obtain ⟨f, g1, g2, g3, g4, g5, g6⟩ := ai_enum_ok (pc := pc) hR (ai_lget_getv ex) w3 (n := v.toNat + 1) (u := 0) (by omega) (by omega)
            exact ⟨f, List.mem_append_right _ (List.mem_append_right _ g1), g2, g3, g4, g5, g6⟩
      · exact ⟨_, same, rfl, rfl, hR, rfl, rfl⟩
end SL
/-- what the table of a method with handlers says of an exception at a place -/
noncomputable def ai_hk (Wg nws : List Cond) (own : String) (nL : Nat) (cc : ByteArray) (tb : List ExceptionTableEntry) (pc z k pcn : Nat) : Prop :=
  k < nL ∧ ∃ pre x suf nm, tb = pre ++ x :: suf ∧ (∀ w ∈ pre, covers w pc = false ∨ (w.catchType ≠ 0 ∧ ∃ nm, Cond.classLink own w.catchType nm ∈ Wg ∧ (ai_exn z, nm) ∈ ai_ncs)) ∧ covers x pc = true ∧ x.catchType ≠ 0 ∧ Cond.classLink own x.catchType nm ∈ Wg ∧ Cond.castable (ai_exn z) nm ∈ nws ∧
    ((decode cc x.handlerPc = .ok (.astore k, 2) ∧ pcn = x.handlerPc + 2) ∨ ∃ j : Fin 4, (j : Nat) = k ∧ decode cc x.handlerPc = .ok (.astore_n j, 1) ∧ pcn = x.handlerPc + 1)
section SX
variable {p : Program} {l : Launch} {e : Env} {R : Room} {s : State} {m : MethodId} {args : Array Value} {below : List Frame} {meth : Method} {c : Code} {Q : State → Prop}
variable {D : va_G} {tyc : Nat → ClassId} {A : Nat → Prop} {sa : ai_B} {ws0 : va_W} {nL : Nat} {cc : ByteArray} {own : String} {Wg : List Cond} {strs : List ai_Z} {nws : List Cond} {bud : Nat × Nat} {dflt : Nat → List ai_V} {kind : Nat → Nat → Nat} {ini : Bool} {ret : Option FieldType} {tb : List (Nat × Nat × Nat × Nat)}
variable {r0 : Nat → Int} {ad0 : Nat → Nat} {N0 n0 mc ms : Nat} {outs : List (ai_R × ai_G)}
variable {code : Nat → Option (ClassFile.Instr × Nat × Nat × Nat)} {hand : Nat → Nat → Option (Nat × Nat)} {cbud : Nat → Nat × Nat} {callee : Nat → List ai_V → ai_G → ai_Q} {ann : Nat → Option ai_AA} {mt : Nat → ai_MT} {rm : Nat → Room}
/-- a loop that is under way: from its head, nearer to the end, all is well -/
noncomputable def ai_Hy (p : Program) (l : Launch) (e : Env) (R : Room) (s : State) (m : MethodId) (args : Array Value) (below : List Frame) (meth : Method) (c : Code) (Q : State → Prop) (D : va_G) (tyc : Nat → ClassId) (A : Nat → Prop) (sa : ai_B) (ws0 : va_W) (nL : Nat) (N0 n0 : Nat) (r : Nat → Int) (ad : Nat → Nat) (P : ai_P) : Prop := match P with
  | (pc, base, t, up, L', S', G') => (0 < base ∧ base ≤ G'.1.1 ∧ t < G'.1.1 ∧ N0 ≤ base ∧ n0 ≤ G'.2.1.1) ∧ ((∀ a ∈ L', ai_wfV G'.1.1 G'.2.1.1 a) ∧ (∀ a ∈ S', ai_wfV G'.1.1 G'.2.1.1 a) ∧ ∀ k d, k < G'.2.1.1 → ai_cell G'.2.1 k = some d → ai_wfC G'.1.1 G'.2.1.1 d) ∧
    (∀ q ∈ G'.1.2.1, base ≤ q.1 → ai_look G'.1.2.1 q.1 = q.2) ∧ (∀ q ∈ G'.1.2.2, q.2.1 < base ∧ q.2.2.1.1 < base ∧ q.2.2.2.1 < base) ∧ ai_gE r G'.1 ∧
    ∀ (r2 : Nat → Int) (ad2 : Nat → Nat), (∀ u, u < base → r2 u = r u) → (∀ q, q < G'.2.1.1 → ad2 q = ad q) → ai_meas up (r2 t) < ai_meas up (r t) → ∀ (H : Heap) (locs : List Loc) (ls : Array Slot) (st : List Value), ai_Rel D tyc A s sa ws0 nL r2 ad2 L' S' G' H locs ls st → W p l e R s m args below meth c H locs G'.2.2.1 G'.2.2.2 Q (F0 m pc ls st)
theorem ai_Hy.ext {r r' : Nat → Int} {ad ad' : Nat → Nat} {P : ai_P} (h : ai_Hy p l e R s m args below meth c Q D tyc A sa ws0 nL N0 n0 r ad P) (hr : ai_ext P.2.2.2.2.2.2.1.1 r r') (ha : ai_ext P.2.2.2.2.2.2.2.1.1 ad ad') : ai_Hy p l e R s m args below meth c Q D tyc A sa ws0 nL N0 n0 r' ad' P := by
  obtain ⟨pc, base, t, up, L', S', G'⟩ := P
  obtain ⟨⟨h1, h2, h3, h4, h5⟩, h6, h7, h8, h9, h10⟩ := h
  refine ⟨⟨h1, h2, h3, h4, h5⟩, h6, h7, h8, h9.ext hr, fun r2 ad2 g1 g2 g3 => h10 r2 ad2 (fun u hu => (g1 u hu).trans (hr u (Nat.lt_of_lt_of_le hu h2))) (fun q hq => (g2 q hq).trans (ha q hq)) ?_⟩
  rw [← hr t h3]
  exact g3
/-- what the tables of a method's code say -/
noncomputable def ai_tab (Wg nws : List Cond) (strs : List ai_Z) (mt : Nat → ai_MT) (own : String) (ini : Bool) (ret : Option FieldType) (cc : ByteArray) (tb : List (Nat × Nat × Nat × Nat)) (code : Nat → Option (ClassFile.Instr × Nat × Nat × Nat)) : Prop :=
  ∀ pc i len a b, code pc = some (i, len, a, b) → decode cc pc = .ok (i, len) ∧ ai_chk pc i len a b = true ∧ ai_wd Wg strs own ini i a b ∧ ai_we Wg nws own ret cc tb pc i len a b ∧ (a < 1000 → ai_wc Wg nws (mt a) own i len b)
set_option maxHeartbeats 4000000 in
theorem ai_run_ok (F : ai_Fr p R s m args meth c D tyc A sa nL cc own Wg strs nws bud dflt kind) (hl : l.stackTraces = false) (hret : meth.sig.returnType = ret) (htb : tb = [] → ∀ x ∈ c.exceptionTable.toList, False) (hgood : ∀ w ∈ Wg, goodWord w = true) (hnk : ∀ w ∈ nws, ai_nk w = true) (hini : ini = true → meth.name = "<init>")
    (hcode : ai_tab Wg nws strs mt own ini ret cc tb code) (hmt : ∀ mi aa G o, callee mi aa G = some o → ai_mok Wg (mt mi))
    (hhand : ∀ pc z, match hand pc z with | none => ∀ x ∈ c.exceptionTable.toList, covers x pc = false | some (k, pcn) => (code pcn = none ∧ ann pcn = none) ∨ ai_hk Wg nws own nL cc c.exceptionTable.toList pc z k pcn)
    (hrm : ∀ mi, (rm mi).frames + 1 ≤ R.frames ∧ (rm mi).locals + 64 ≤ R.locals ∧ (rm mi).cells = (cbud mi).1 ∧ (rm mi).slots = (cbud mi).2)
    (hcall : ∀ mi aa G o, callee mi aa G = some o → ai_Ct l D tyc A sa strs nws Wg (mt mi) (rm mi) aa G o) (hPw : ai_Pw tyc ws0) (hm : bud.1 ≤ mc ∧ bud.2 ≤ ms) : ∀ (n : Nat) (act : List ai_P) (skip : Bool) (pc : Nat) (L S : List ai_V) (G : ai_G) (os : List (ai_R × ai_G)) (r : Nat → Int) (ad : Nat → Nat) (H : Heap) (locs : List Loc) (ls : Array Slot) (st : List Value),
    ai_run code hand bud cbud dflt kind callee ann n act skip pc L S G = some os → (∀ f ∈ os, f ∈ outs) → ai_Rel D tyc A s sa ws0 nL r ad L S G H locs ls st → ai_ext N0 r0 r → ai_ext n0 ad0 ad → N0 ≤ G.1.1 → n0 ≤ G.2.1.1 →
    (∀ P ∈ act, P.2.2.2.2.2.2.1.1 ≤ G.1.1 ∧ P.2.2.2.2.2.2.2.1.1 ≤ G.2.1.1 ∧ ai_Hy p l e R s m args below meth c (vx_MQ below (ai_Qc D tyc A sa ws0 r0 ad0 N0 n0 outs) (ai_XC D tyc A sa ws0 r0 ad0 N0 n0 outs) args s mc ms A) D tyc A sa ws0 nL N0 n0 r ad P) →
    W p l e R s m args below meth c H locs G.2.2.1 G.2.2.2 (vx_MQ below (ai_Qc D tyc A sa ws0 r0 ad0 N0 n0 outs) (ai_XC D tyc A sa ws0 r0 ad0 N0 n0 outs) args s mc ms A) (F0 m pc ls st) := by
  intro n
  induction n with
  | zero => intro act skip pc L S G os r ad H locs ls st h; cases h
  | succ n ih =>
    intro act skip pc L S G os r ad H locs ls st h hos hR h1 h2 h3 h4 hact
    have hb0 : 0 < G.1.1 := hR.env.2.1
    unfold ai_run at h
    split at h
    · -- a marked place
      rename_i An cut gd eA
      split at h
      · -- again at the head
        rename_i eag
        unfold ai_again at eag
        split at eag
        · cases eag
        · rename_i pc0 base t up L' S' G' ea
          obtain ⟨hP, rfl⟩ := ai_act_ok ea
          obtain ⟨p1, p2, ⟨q1, q2, q3, q4, q5⟩, ⟨q6, q7, q8⟩, q9, q10, q11, q12⟩ := hact _ hP
          split at eag
          · rename_i y ey
            have en := eag
            have p1 : G'.1.1 ≤ G.1.1 := p1
            obtain ⟨r2, g1, g2, g3, g4, g5, g6⟩ := ai_in_ok ey hR q1 (Nat.le_trans q2 p1) q2 q6 q7 q8 (fun q hq => ⟨(q11.2.2.2.1 q hq).1, fun _ => (q11.2.2.2.1 q hq).2, q9 q hq⟩) (fun q hq => ⟨(q10 q hq).1, (q10 q hq).2.1, (q10 q hq).2.2, (q11.2.2.2.2 q hq).2.2.2⟩) r (fun u hu1 hu2 _ => ⟨q11.2.2.1 u hu2, fun q hq e => by rw [← e]; exact (q11.2.2.2.1 q hq).2⟩)
            obtain ⟨cc9, c1, c2, c3⟩ := ai_near_ok en
            have hrt : r2 t = r t + cc9 := g2 t _ c1
            have hme : ai_meas up (r2 t) < ai_meas up (r t) := by
              have b1 := (hR.env.2.2.1 t (Nat.lt_of_lt_of_le q3 p1))
              have b2 := (g3.env.2.2.1 t q3)
              unfold ai_meas
              cases up with
              | true =>
                have := c2 rfl
                show (ai_hi64 - r2 t).toNat < (ai_hi64 - r t).toNat
                omega
              | false =>
                have := c3 rfl
                show (r2 t - ai_lo64).toNat < (r t - ai_lo64).toNat
                omega
            rw [← g5, ← g6]
            exact q12 r2 ad g1 (fun _ _ => rfl) hme H locs ls st g3
          · cases eag
      · -- at the head for the first time
        split at h
        · cases h
        · rename_i L' G' eg
          obtain ⟨a1, a2, a3, a4, a5, a6, a7⟩ := ai_gen_ok eg hR
          split at h
          · cases h
          · rename_i y ey
            split at h
            · cases h
            · rename_i ec
              split at h
              · rename_i t et
                have hG : ai_base G = G.1.1 := rfl
                rw [hG] at h ey ec
                have htN : t < G'.1.1 := by
                  have hne : ai_lget L' An.2.2.2.2.1 ≠ .inr (.inr none) := by rw [et]; exact fun q => by cases q
                  have := a3 _ (ai_lget_mem hne)
                  rw [et] at this
                  exact this
                obtain ⟨r2, g1, g2, g3, g4, g5, g6⟩ := ai_in_ok ey hR hb0 (Nat.le_refl _) a1 a3 a4 a5 a6 a7 (fun _ => 0) (fun u hu1 hu2 e => absurd e (ai_cov_ok ec u hu1 (by have e9 : Nat.sub G'.1.1 G.1.1 = G'.1.1 - G.1.1 := rfl; omega)))
                have key : ∀ (k : Nat) (r2 : Nat → Int) (ad2 : Nat → Nat) (H : Heap) (locs : List Loc) (ls : Array Slot) (st : List Value), ai_meas An.2.2.2.2.2 (r2 t) = k → (∀ u, u < G.1.1 → r2 u = r u) → (∀ q, q < G'.2.1.1 → ad2 q = ad q) → ai_Rel D tyc A s sa ws0 nL r2 ad2 L' S G' H locs ls st →
                    W p l e R s m args below meth c H locs G'.2.2.1 G'.2.2.2 (vx_MQ below (ai_Qc D tyc A sa ws0 r0 ad0 N0 n0 outs) (ai_XC D tyc A sa ws0 r0 ad0 N0 n0 outs) args s mc ms A) (F0 m pc ls st) := by
                  intro k
                  induction k using Nat.strongRecOn with
                  | _ k ihk =>
                    intro r2 ad2 H locs ls st hk hr2 had2 hR2
                    obtain ⟨⟨pcf, Lf, Sf, Ef, hf2⟩, hf, k1, k2, k3, k4, k5⟩ := ai_slit_ok (cut := cut) (pc := pc) hR2
                    obtain ⟨of, o1, o2⟩ := ai_many_ok h _ hf
                    have k1 : pcf = pc := k1
                    have k2 : Sf = S := k2
                    have k4 : Ef.1 = G'.1.1 := k4
                    have k5 : hf2 = G'.2 := k5
                    subst k1
                    subst k2
                    subst k5
                    have k3 : ai_Rel D tyc A s sa ws0 nL r2 ad2 Lf Sf (Ef, G'.2) H locs ls st := k3
                    refine ih _ true pcf Lf Sf (Ef, G'.2) of r2 ad2 H locs ls st o1 (fun g hg => hos g (o2 g hg)) k3 (fun u hu => (hr2 u (Nat.lt_of_lt_of_le hu h3)).trans (h1 u hu)) (fun q hq => (had2 q (by omega)).trans (h2 q hq)) (by show N0 ≤ Ef.1; rw [k4]; exact Nat.le_trans h3 a1) (by show n0 ≤ G'.2.1.1; omega) (fun P hP => ?_)
                    show P.2.2.2.2.2.2.1.1 ≤ Ef.1 ∧ P.2.2.2.2.2.2.2.1.1 ≤ G'.2.1.1 ∧ _
                    rw [k4]
                    rcases List.mem_cons.mp hP with rfl | hP
                    · refine ⟨Nat.le_refl _, Nat.le_refl _, ⟨hb0, a1, htN, h3, by omega⟩, ⟨a3, a4, a5⟩, fun q hq => (a6 q hq).2.2, fun q hq => ⟨(a7 q hq).1, (a7 q hq).2.1, (a7 q hq).2.2.1⟩, hR2.env, fun r3 ad3 k1 k2 k3 H3 locs3 ls3 st3 hR3 => ?_⟩
                      exact ihk _ (by rw [← hk]; exact k3) r3 ad3 H3 locs3 ls3 st3 rfl (fun u hu => (k1 u hu).trans (hr2 u hu)) (fun q hq => (k2 q hq).trans (had2 q hq)) hR3
                    · obtain ⟨b1, b2, b3⟩ := hact P hP
                      exact ⟨Nat.le_trans b1 a1, by omega, b3.ext (fun u hu => hr2 u (Nat.lt_of_lt_of_le hu b1)) (fun q hq => had2 q (by omega))⟩
                rw [← g5, ← g6]
                exact key _ r2 ad H locs ls st rfl g1 (fun _ _ => rfl) g3
              · cases h
    · -- an instruction
      split at h
      · cases h
      · rename_i i len a b ec
        obtain ⟨d1, d2, d3, d4, d5⟩ := hcode pc i len a b ec
        split at h
        · cases h
        · rename_i fs es
          refine ai_step_ok F hini d2 d3 d1 es hR (fun f hf => ?_)
          obtain ⟨o, e1, e2⟩ := ai_many_ok h f hf
          intro r' ad' x1 x2 x3 x4 H1 locs1 ls1 st1 hR1
          exact ih act false f.1 f.2.1 f.2.2.1 f.2.2.2 o r' ad' H1 locs1 ls1 st1 e1 (fun g hg => hos g (e2 g hg)) hR1 (h1.trans x1 h3) (h2.trans x2 h4) (Nat.le_trans h3 x3) (Nat.le_trans h4 x4) (fun P hP => by
            obtain ⟨b1, b2, b3⟩ := hact P hP
            exact ⟨Nat.le_trans b1 x3, Nat.le_trans b2 x4, b3.ext (x1.mono b1) (x2.mono b2)⟩)
        · rename_i mi aa S' pc' es
          obtain ⟨E, hh, cs, sl⟩ := G
          dsimp only at h
          cases eb : cbud mi with
          | mk bc bs =>
          rw [eb] at h
          dsimp only at h
          split at h
          · rename_i eb1 eb2
            have eb1 := Nat.le_of_ble_eq_true eb1
            have eb2 := Nat.le_of_ble_eq_true eb2
            split at h
            · cases h
            · rename_i co eco
              split at h
              · cases h
              · rename_i ecalm
                obtain ⟨hx, hb, hml, hts, hown, hSt0, hA, hbud, hcls, hroom0, hlocks⟩ := F
                obtain ⟨m1, m2, m3, m4⟩ := hrm mi
                rw [eb] at m3 m4
                have m3 : (rm mi).cells = bc := m3
                have m4 : (rm mi).slots = bs := m4
                obtain ⟨hmi, hpc, As, rest, hrest, hRun⟩ := ai_invoke_ok (e := e) (below := below) (y := mt mi) (rm := rm mi) ⟨hx, hb, hml, hts, hown, hSt0, hA, hbud, hcls, hroom0, hlocks⟩ hgood hnk (fun q q2 => by rw [q]; exact d5 q2) (hmt _ _ _ _ eco) ⟨m1, m2⟩ d1 es ecalm hR hPw (hcall _ _ _ _ eco) (by rw [m3, m4, ← hbud.1, ← hbud.2]; exact ⟨eb1, eb2⟩)
                subst hpc
                rw [m3, m4] at hRun
                obtain ⟨hWd, hS, hL, hSt⟩ := hR.wd
                have hact' : ∀ {r' : Nat → Int} {ad' : Nat → Nat} {G1 : ai_G}, ai_ext E.1 r r' → ai_ext hh.1 ad ad' → E.1 ≤ G1.1.1 → hh.1 ≤ G1.2.1.1 → ∀ P ∈ act, P.2.2.2.2.2.2.1.1 ≤ G1.1.1 ∧ P.2.2.2.2.2.2.2.1.1 ≤ G1.2.1.1 ∧ ai_Hy p l e R s m args below meth c (vx_MQ below (ai_Qc D tyc A sa ws0 r0 ad0 N0 n0 outs) (ai_XC D tyc A sa ws0 r0 ad0 N0 n0 outs) args s mc ms A) D tyc A sa ws0 nL N0 n0 r' ad' P := fun {r' ad' G1} x1 x2 x3 x4 P hP => by
                  obtain ⟨b1, b2, b3⟩ := hact P hP
                  exact ⟨Nat.le_trans b1 x3, Nat.le_trans b2 x4, b3.ext (x1.mono b1) (x2.mono b2)⟩
                refine ai_back_ok hRun hS (fun f hf x hx9 r' ad' x1 x2 x3 x4 H1 locs1 v hW1 hS1 hv => ?_) (fun f hf z hz r' ad' x1 x2 x3 x4 H1 locs1 q ce hW1 hS1 hq hcv hcl => ?_)
                · obtain ⟨o, e1, e2⟩ := ai_each_ok h f hf
                  obtain ⟨fx, E1, h9, c9, s9⟩ := f
                  have hx9 : fx = .inr x := hx9
                  subst hx9
                  dsimp only at e1
                  have hL1 := hL.mono x1 x2 x3 x4
                  have hr1 := hrest.mono x1 x2 x3 x4
                  have hW2 : ai_Wd D tyc A sa ws0 r' ad' (E1, h9, cs + bc, sl + bs) H1 := hW1
                  cases x with
                  | none =>
                    have hv : v = none := hv
                    subst hv
                    exact ih act false (pc + 3) L S' (E1, h9, cs + bc, sl + bs) o r' ad' H1 locs1 ls rest e1 (fun g hg => hos g (e2 g hg)) (hW2.rel hS1 hL1 hr1) (h1.trans x1 h3) (h2.trans x2 h4) (Nat.le_trans h3 x3) (Nat.le_trans h4 x4) (hact' x1 x2 x3 x4)
                  | some a =>
                    obtain ⟨w, rfl, hw⟩ := hv
                    exact ih act false (pc + 3) L (a :: S') (E1, h9, cs + bc, sl + bs) o r' ad' H1 locs1 ls (w :: rest) e1 (fun g hg => hos g (e2 g hg)) (hW2.rel hS1 hL1 ⟨hw, hr1⟩) (h1.trans x1 h3) (h2.trans x2 h4) (Nat.le_trans h3 x3) (Nat.le_trans h4 x4) (hact' x1 x2 x3 x4)
                · obtain ⟨o, e1, e2⟩ := ai_each_ok h f hf
                  obtain ⟨fx, E1, h9, c9, s9⟩ := f
                  have hz : fx = .inl z := hz
                  subst hz
                  dsimp only at e1
                  have hL1 := hL.mono x1 x2 x3 x4
                  have hW2 : ai_Wd D tyc A sa ws0 r' ad' (E1, h9, cs + bc, sl + bs) H1 := hW1
                  have hh9 := hhand pc z
                  cases eh : hand pc z with
                  | none =>
                    rw [eh] at e1 hh9
                    dsimp only at e1
                    cases e1
                    exact vx_out hh9 hlocks hq hcv hcl (fun t ht _ => ⟨_, hos _ (e2 _ List.mem_cons_self), z, rfl, rfl, r', ad', h1.trans x1 h3, h2.trans x2 h4, Nat.le_trans h3 x3, Nat.le_trans h4 x4, by rw [ht]; exact hW2, hS1.F ht, trivial⟩) hS1.2.2 (by show cs + bc ≤ mc; omega) (by show sl + bs ≤ ms; omega)
                  | some kp =>
                    obtain ⟨k, pcn⟩ := kp
                    rw [eh] at e1 hh9
                    dsimp only at e1 hh9
                    rcases hh9 with ⟨z1, z2⟩ | ⟨hk, pre, x, suf, nm, t1, t2, t3, t4, t5, t6, t7⟩
                    · exfalso
                      cases n with
                      | zero => cases e1
                      | succ n =>
                        unfold ai_run at e1
                        rw [z1, z2] at e1
                        cases e1
                    · refine vx_catch (rest := rest) hown pre x suf t1 (fun w hw => (t2 w hw).imp (fun q => q) (fun ⟨q1, nm', q2, q3⟩ => ⟨q1, nm', hts _ q2, hSt0.2.2.2.2.2.2.2.2.2.1 _ q3⟩)) t3 t4 (hts _ t5) (va_Nw.use (ai_nk_tab (hnk _ t6)) (hSt0.2.2.2.2.2.2.1 _ t6)) hq hcv hcl ?_
                      have go : ∀ ls' : Array Slot, lv_has ls' nL ((k, Value.ref q) :: (ai_pairs ls L).filter (fun q => !(q.1 == k) && !(q.1 + 1 == k && q.2.category == 2))) → W p l e R s m args below meth c H1 locs1 (cs + bc) (sl + bs) (vx_MQ below (ai_Qc D tyc A sa ws0 r0 ad0 N0 n0 outs) (ai_XC D tyc A sa ws0 r0 ad0 N0 n0 outs) args s mc ms A) (F0 m pcn ls' []) := fun ls' hl' =>
                        ih act false pcn (ai_lset L k (.inr (.inr none))) [] (E1, h9, cs + bc, sl + bs) o r' ad' H1 locs1 ls' [] e1 (fun g hg => hos g (e2 g hg)) (hW2.rel hS1 (hL1.set' hk trivial hl') trivial) (h1.trans x1 h3) (h2.trans x2 h4) (Nat.le_trans h3 x3) (Nat.le_trans h4 x4) (hact' x1 x2 x3 x4)
                      rcases t7 with ⟨u1, rfl⟩ | ⟨j, u0, u1, rfl⟩
                      · exact lv_astore hx hb u1 (ai_pairs_has hL) hk rfl go
                      · exact lv_astore_n hx hb u1 u0 (ai_pairs_has hL) hk rfl go
          · cases h
        · rename_i x es
          split at h
          · rename_i een
            cases h
            exact ai_end_ok F hl hret htb d4 (fun w hw => ai_nk_tab (hnk w hw)) d1 een es hR (hos _ List.mem_cons_self) h1 h2 h3 h4 hm
          · cases h
end SX
