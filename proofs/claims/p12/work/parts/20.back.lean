/-! BEHIND A CALL -/
noncomputable def ai_Run (p : Program) (l : Launch) (e : Env) (R : Room) (s : State) (m : MethodId) (args : Array Value) (below : List Frame) (meth : Method) (c : Code) (H : Heap) (locs : List Loc) (cells slots mc ms : Nat) (g : JFrame) (rest : List Value) (Qa : State → Outcome → State → Prop) (XC : String → State → State → Prop) (free : Addr → Prop) : Prop :=
  ∀ T : State, T.heap = H → Stand p l e R s m args below meth c T locs cells slots →
    (∃ (v : Option Value) (st₀ t T' : State) (L : List Loc), st₀.heap = H ∧ Stand p l e R s m args below meth c T' (locs ++ L) (cells + mc) (slots + ms) ∧ (∀ q ∈ L, free q.base) ∧ T'.heap = t.heap ∧ Qa st₀ (.returned v) t ∧
      Goes p e below T g T' { g with pc := g.pc + 3, stack := v.toList ++ rest }) ∨
    (∃ (q : Addr) (st₀ t T' : State) (L : List Loc) (E : String) (ce : Cell), st₀.heap = H ∧ Stand p l e R s m args below meth c T' (locs ++ L) (cells + mc) (slots + ms) ∧ (∀ z ∈ L, free z.base) ∧ T'.heap = t.heap ∧ XC E st₀ t ∧ t.heap[q]? = some ce ∧ ce.vm = .none ∧ s.vm.findClass E = some ce.cls ∧
      Steps p.tables e below (T.setTop g) ((T'.setTop { g with stack := rest }).pushFrame (.throwing q)))
section SB
variable {p : Program} {l : Launch} {e : Env} {R : Room} {s : State} {m : MethodId} {args : Array Value} {below : List Frame} {meth : Method} {c : Code} {Q : State → Prop}
variable {D : va_G} {tyc : Nat → ClassId} {A : Nat → Prop} {sa : ai_B} {ws0 : va_W}
variable {r : Nat → Int} {ad : Nat → Nat} {H : Heap} {locs : List Loc} {ls : Array Slot} {st rest : List Value} {N n : Nat} {outs : List (ai_R × ai_G)} {cells slots mc ms pc : Nat} {g : JFrame} {Qa : State → Outcome → State → Prop} {XC : String → State → State → Prop} {free : Addr → Prop}
theorem ai_Run.ofX (h : vx_Run p l e R s m args below meth c H locs cells slots mc ms g rest Qa XC free) : ai_Run p l e R s m args below meth c H locs cells slots mc ms g rest Qa XC free := fun T hT X => by
  rcases h T hT X with ⟨v, st₀, t, T', L, h0, X', hL, e1, e2, hq, st⟩ | ⟨q, st₀, t, T', L, E, ce, h0, X', hL, e1, e2, hx, hce, hcv, hcl, st⟩
  · exact Or.inl ⟨v, st₀, t, T', L, h0, X', hL, e1, hq, st⟩
  · exact Or.inr ⟨q, st₀, t, T', L, E, ce, h0, X', hL, e1, hx, hce, hcv, hcl, st⟩
theorem ai_Run.ofC (h : CallRun p l e R s m args below meth c H locs cells slots mc ms g rest Qa free) : ai_Run p l e R s m args below meth c H locs cells slots mc ms g rest Qa XC free := fun T hT X => Or.inl (h T hT X)
theorem ai_Run.ofA (h : va_Run p l e R s m args below meth c H locs cells slots mc ms g rest Qa free) : ai_Run p l e R s m args below meth c H locs cells slots mc ms g rest Qa XC free := fun T hT X => by
  obtain ⟨v, st₀, t, T', L, h0, X', hL, e1, e2, hq, st⟩ := h T hT X
  exact Or.inl ⟨v, st₀, t, T', L, h0, X', hL, e1, hq, st⟩
theorem ai_keep {st₀ t T' : State} {L : List Loc} (h0 : st₀.heap = H) (e1 : T'.heap = t.heap) (hS : va_S A s.heap H locs) (hL : ∀ q ∈ L, A q.base) (hF : va_F A st₀ t) : va_S A s.heap T'.heap (locs ++ L) := by
  obtain ⟨hz, hk⟩ := hF
  rw [h0] at hz hk
  exact ⟨Nat.le_trans hS.1 (by rw [e1]; exact hz), fun q h1 h2 => by rw [e1, hk q (Nat.lt_of_lt_of_le h1 hS.1) h2]; exact hS.2.1 q h1 h2, fun q hq => by
      rcases List.mem_append.mp hq with h | h
      · exact hS.2.2 q h
      · exact hL q h⟩
theorem ai_back_ok {a : Array Value} (hr : ai_Run p l e R s m args below meth c H locs cells slots mc ms (F0 m pc ls st) rest (ai_Qc D tyc A sa ws0 r ad N n outs a) (ai_XC D tyc A sa ws0 r ad N n outs) A) (hS : va_S A s.heap H locs)
    (kk : ∀ f ∈ outs, ∀ x, f.1 = .inr x → ∀ (r' : Nat → Int) (ad' : Nat → Nat), ai_ext N r r' → ai_ext n ad ad' → N ≤ f.2.1.1 → n ≤ f.2.2.1.1 → ∀ (H1 : Heap) (locs1 : List Loc) (v : Option Value), ai_Wd D tyc A sa ws0 r' ad' f.2 H1 → va_S A s.heap H1 locs1 → ai_gR' r' ad' f.2.1.1 f.2.2.1.1 x v → W p l e R s m args below meth c H1 locs1 (cells + mc) (slots + ms) Q (F0 m (pc + 3) ls (v.toList ++ rest)))
    (kx : ∀ f ∈ outs, ∀ z, f.1 = .inl z → ∀ (r' : Nat → Int) (ad' : Nat → Nat), ai_ext N r r' → ai_ext n ad ad' → N ≤ f.2.1.1 → n ≤ f.2.2.1.1 → ∀ (H1 : Heap) (locs1 : List Loc) (q : Addr) (ce : Cell), ai_Wd D tyc A sa ws0 r' ad' f.2 H1 → va_S A s.heap H1 locs1 → H1[q]? = some ce → ce.vm = .none → s.vm.findClass (ai_exn z) = some ce.cls → vx_W p l e R s m args below meth c H1 locs1 (cells + mc) (slots + ms) Q (F0 m pc ls rest) q) :
    W p l e R s m args below meth c H locs cells slots Q (F0 m pc ls st) := by
  intro T hT X
  rcases hr T hT X with ⟨v, st₀, t, T', L, h0, X', hL, e1, ⟨f, hf, x, v', hx, hv, r', ad', g1, g2, g3, g4, g5, g6, g7⟩, stp⟩ | ⟨q, st₀, t, T', L, E, ce, h0, X', hL, e1, ⟨f, hf, z, hz, hE, r', ad', g1, g2, g3, g4, g5, g6, -⟩, hce, hcv, hcl, stp⟩
  · cases hv
    obtain ⟨t2, a1, b1⟩ := kk f hf x hx r' ad' g1 g2 g3 g4 T'.heap (locs ++ L) v (by rw [e1]; exact g5) (ai_keep h0 e1 hS hL g6) g7 T' rfl X'
    exact ⟨t2, stp t2 a1, b1⟩
  · subst hE
    obtain ⟨t2, a1, b1⟩ := kx f hf z hz r' ad' g1 g2 g3 g4 T'.heap (locs ++ L) q ce (by rw [e1]; exact g5) (ai_keep h0 e1 hS hL g6) (by rw [e1]; exact hce) hcv hcl T' rfl X'
    exact ⟨t2, stp.trans a1, b1⟩
end SB
/-! WHAT A METHOD OWES -/
/-- a method: its name, code, locals, what it returns, its table (none: it has none), its parameters -/
abbrev ai_MT : Type := MethodName × ByteArray × Nat × Option FieldType × Option (List (Nat × Nat × Nat × Nat)) × Nat
noncomputable def ai_cw (y : ai_MT) : Cond := match y.2.2.2.2.1 with
  | none => Cond.code y.1 y.2.1 y.2.2.1 y.2.2.2.1
  | some hh => Cond.codeWith y.1 y.2.1 y.2.2.1 y.2.2.2.1 hh
/-- what the tables say of a method -/
noncomputable def ai_mok (Wg : List Cond) (y : ai_MT) : Prop := plainName y.1.cls = true ∧ (y.1.cls ≠ "java/lang/invoke/MethodHandle" ∧ y.1.cls ≠ "java/lang/invoke/VarHandle" ∧ (parseMethodDescriptor y.1.desc).map (fun d => d.parameters.length) = some y.2.2.2.2.2) ∧ y.2.2.1 ≤ 45 ∧ ai_cw y ∈ Wg ∧ Cond.initialized y.1.cls ∈ Wg
/-- an array of ints that stands at a place of the world -/
noncomputable def ai_ia (tyc : Nat → ClassId) (ws : va_W) (k n : Nat) (f : Nat → Int32) : Prop := ∃ a, ws[k]? = some (a, .inl (tyc 0, n, .inl f))
/-- the reference's code words from a place to another one, begun with so many numbers on its stack: one is left, never too few or too many -/
noncomputable def pw_cv (f : Nat → Int) : Nat → Nat → Nat → Nat → Prop
  | 0, i, j, d => i = j ∧ d = 1
  | n + 1, i, j, d => (i = j ∧ d = 1) ∨ (i < j ∧ ((f i = 0 ∧ i + 1 < j ∧ d < 110 ∧ pw_cv f n (i + 2) j (d + 1)) ∨ (20 ≤ f i ∧ f i ≤ 24 ∧ d < 110 ∧ pw_cv f n (i + 1) j (d + 1)) ∨ (f i = 9 ∧ 1 ≤ d ∧ d ≤ 110 ∧ pw_cv f n (i + 1) j d) ∨ (1 ≤ f i ∧ f i ≤ 8 ∧ 2 ≤ d ∧ d ≤ 110 ∧ pw_cv f n (i + 1) j (d - 1))))
/-- the reference's offers: clauses, from, to, codes -/
noncomputable def pw_ok (f1 f2 f3 f4 : Nat → Int32) : Prop := ∀ m, m < 4 → (0 ≤ (f1 m).toInt ∧ (f1 m).toInt ≤ 8) ∧ ∀ k : Nat, (k : Int) < (f1 m).toInt → ∃ i j : Nat, (f2 (8 * m + k)).toInt = (i : Int) ∧ (f3 (8 * m + k)).toInt = (j : Int) ∧ i ≤ j ∧ j ≤ 400 ∧ pw_cv (fun q => (f4 (400 * m + q)).toInt) 400 i j 0
/-- what holds of cells that the domain leaves alone: offers' codes stand there, and are in order (cells 286, 288, 289, 290 of the world, where it stands) -/
noncomputable def ai_Pq (tyc : Nat → ClassId) (ws : va_W) : Prop := ws[274]? ≠ none → ∃ f1 f2 f3 f4, ai_ia tyc ws 270 5 f1 ∧ ai_ia tyc ws 272 40 f2 ∧ ai_ia tyc ws 273 40 f3 ∧ ai_ia tyc ws 274 2000 f4 ∧ pw_ok f1 f2 f3 f4
/-- the class's codes, the reference's clauses' kinds -/
noncomputable def ai_xs : List (Nat × Nat) := [(31, 200), (37, 200), (43, 200), (49, 200), (271, 40)]
noncomputable def ai_Px (tyc : Nat → ClassId) (ws : va_W) : Prop := ∀ p ∈ ai_xs, ws[p.1]? ≠ none → ∃ f, ai_ia tyc ws p.1 p.2 f
noncomputable def ai_Pw (tyc : Nat → ClassId) (ws : va_W) : Prop := ai_Pq tyc ws ∧ ai_Px tyc ws
theorem ai_xs_lt {p : Nat × Nat} (h : p ∈ ai_xs) : 30 < p.1 ∧ p.1 < 274 := by
  have w : ai_xs.all (fun p => Nat.blt 30 p.1 && Nat.blt p.1 274) = true := by decide
  have g := List.all_eq_true.mp w p h
  rw [Bool.and_eq_true] at g
  exact ⟨Nat.le_of_ble_eq_true g.1, Nat.le_of_ble_eq_true g.2⟩
theorem ai_Pw.nil {tyc : Nat → ClassId} : ai_Pw tyc [] := ⟨fun h => absurd rfl h, fun _ _ h => absurd List.getElem?_nil h⟩
theorem ai_Px.same {tyc : Nat → ClassId} {ws ws' : va_W} (h : ai_Px tyc ws) (g : ∀ p ∈ ai_xs, ws'[p.1]? = ws[p.1]?) : ai_Px tyc ws' := fun p hp hne => by
  obtain ⟨f, a, e⟩ := h p hp (by rw [← g p hp]; exact hne)
  exact ⟨f, a, (g p hp).trans e⟩
/-- a write to an array of ints -/
theorem ai_Px.st {tyc : Nat → ClassId} {ws ws' : va_W} {q n : Nat} {f f' : Nat → Int32} (h : ai_Px tyc ws) (hw : ai_ia tyc ws q n f) (h1 : ai_ia tyc ws' q n f') (g : ∀ x, x ≠ q → ws'[x]? = ws[x]?) : ai_Px tyc ws' := fun p hp hne => by
  obtain ⟨u, w⟩ := p
  by_cases e : u = q
  · subst e
    obtain ⟨a, ha⟩ := hw
    obtain ⟨f0, a0, k0⟩ := h (u, w) hp (by
      show ws[u]? ≠ none
      rw [ha]
      intro z
      cases z)
    have k0 : ws[u]? = some (a0, .inl (tyc 0, w, .inl f0)) := k0
    rw [ha] at k0
    cases k0
    exact ⟨f', h1⟩
  · have g1 := g u e
    obtain ⟨f0, a0, k0⟩ := h (u, w) hp (by
      show ws[u]? ≠ none
      rw [← g1]
      exact hne)
    exact ⟨f0, a0, g1.trans k0⟩
/-- a write to an array of longs -/
theorem ai_Px.stl {tyc : Nat → ClassId} {ws ws' : va_W} {q n : Nat} {ty : ClassId} {f : Nat → Int64} {a : Nat} (h : ai_Px tyc ws) (hw : ws[q]? = some (a, .inl (ty, n, .inr (.inl f)))) (g : ∀ x, x ≠ q → ws'[x]? = ws[x]?) : ai_Px tyc ws' := fun p hp hne => by
  obtain ⟨u, w⟩ := p
  by_cases e : u = q
  · subst e
    exfalso
    obtain ⟨f0, a0, k0⟩ := h (u, w) hp (by
      show ws[u]? ≠ none
      rw [hw]
      intro z
      cases z)
    have k0 : ws[u]? = some (a0, .inl (tyc 0, w, .inl f0)) := k0
    rw [hw] at k0
    cases k0
  · have g1 := g u e
    obtain ⟨f0, a0, k0⟩ := h (u, w) hp (by
      show ws[u]? ≠ none
      rw [← g1]
      exact hne)
    exact ⟨f0, a0, g1.trans k0⟩
theorem ai_Pq.same {tyc : Nat → ClassId} {ws ws' : va_W} (h : ai_Pq tyc ws) (h1 : ws'[270]? = ws[270]?) (h2 : ws'[272]? = ws[272]?) (h3 : ws'[273]? = ws[273]?) (h4 : ws'[274]? = ws[274]?) : ai_Pq tyc ws' := fun g => by
  obtain ⟨f1, f2, f3, f4, ⟨a1, g1⟩, ⟨a2, g2⟩, ⟨a3, g3⟩, ⟨a4, g4⟩, g5⟩ := h (by rw [← h4]; exact g)
  exact ⟨f1, f2, f3, f4, ⟨a1, h1.trans g1⟩, ⟨a2, h2.trans g2⟩, ⟨a3, h3.trans g3⟩, ⟨a4, h4.trans g4⟩, g5⟩
theorem ai_Pw.same {tyc : Nat → ClassId} {ws ws' : va_W} (h : ai_Pw tyc ws) (h1 : ws'[270]? = ws[270]?) (h2 : ws'[272]? = ws[272]?) (h3 : ws'[273]? = ws[273]?) (h4 : ws'[274]? = ws[274]?) (g : ∀ p ∈ ai_xs, ws'[p.1]? = ws[p.1]?) : ai_Pw tyc ws' := ⟨h.1.same h1 h2 h3 h4, h.2.same g⟩
noncomputable def ai_Ct (l : Launch) (D : va_G) (tyc : Nat → ClassId) (A : Nat → Prop) (sa : ai_B) (strs : List ai_Z) (nws Wg : List Cond) (y : ai_MT) (rm : Room) (aa : List ai_V) (G : ai_G) (outs : List (ai_R × ai_G)) : Prop :=
  ∀ (ws0 : va_W) (r : Nat → Int) (ad : Nat → Nat) (H0 : Heap) (As : List Value), ai_Pw tyc ws0 → ai_Wd D tyc A sa ws0 r ad G H0 → ai_gF r ad G.1.1 G.2.1.1 aa As →
    vx_Met l y.1 (ai_cw y :: Wg) rm (fun a U => a = As.toArray ∧ U.heap = H0 ∧ ai_St D tyc A sa strs nws U ∧ ∀ q, H0.size ≤ q → A q) (ai_Qc D tyc A sa ws0 r ad G.1.1 G.2.1.1 outs) (ai_XC D tyc A sa ws0 r ad G.1.1 G.2.1.1 outs) rm.cells rm.slots A
theorem ai_Met0 {l : Launch} {y : MethodName} {ws : List Cond} {rm : Room} {Pc : Array Value → State → Prop} {Qc : Array Value → State → Outcome → State → Prop} {XC : String → State → State → Prop} {mc ms : Nat} {free : Addr → Prop} (h : vx_Met l y ws rm Pc Qc XC mc ms free) (hX : ∀ E st t, ¬ XC E st t) : Met l y ws rm Pc Qc mc ms free := by
  have e : vx_Q Qc XC mc ms free = fun a st o t => Qc a st o t ∧ ∃ L, FrameEnd st o t L mc ms ∧ ∀ q ∈ L, free q.base := by
    funext a st o t
    refine propext ⟨fun h => ?_, fun h => Or.inl h⟩
    rcases h with h | ⟨q, -, E, ce, L, hx, -⟩
    · exact h
    · exact (hX _ _ _ hx).elim
  unfold vx_Met at h
  rw [e] at h
  exact h
