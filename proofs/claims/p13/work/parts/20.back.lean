/-! BEHIND A CALL -/
noncomputable def ai_Run (p : Program) (l : Launch) (e : Env) (R : Room) (s : State) (m : MethodId) (args : Array Value) (below : List Frame) (meth : Method) (c : Code) (H : Heap) (locs : List Loc) (cells slots mc ms : Nat) (g : JFrame) (rest : List Value) (Qa : State → Outcome → State → Prop) (XC : String → State → State → Prop) (free : Addr → Prop) : Prop :=
  ∀ T : State, T.heap = H → Stand p l e R s m args below meth c T locs cells slots →
    (∃ (v : Option Value) (st₀ t T' : State) (L : List Loc), st₀.heap = H ∧ Stand p l e R s m args below meth c T' (locs ++ L) (cells + mc) (slots + ms) ∧ (∀ q ∈ L, free q.base) ∧ T'.heap = t.heap ∧ Qa st₀ (.returned v) t ∧
      Goes p e below T g T' { g with pc := g.pc + 3, stack := v.toList ++ rest }) ∨
    (∃ (q : Addr) (st₀ t T' : State) (L : List Loc) (E : String) (ce : Cell), st₀.heap = H ∧ Stand p l e R s m args below meth c T' (locs ++ L) (cells + mc) (slots + ms) ∧ (∀ z ∈ L, free z.base) ∧ T'.heap = t.heap ∧ XC E st₀ t ∧ t.heap[q]? = some ce ∧ ce.vm = .none ∧ s.vm.findClass E = some ce.cls ∧
      Steps p.tables e below (T.setTop g) ((T'.setTop { g with stack := rest }).pushFrame (.throwing q)))
section SB
variable {p : Program} {l : Launch} {e : Env} {R : Room} {s : State} {m : MethodId} {args : Array Value} {below : List Frame} {meth : Method} {c : Code} {Q : State → Prop}
variable {D : va_G} {tyc : Nat → ClassId} {A : Nat → Prop} {sa : ai_B} {ws0 : va_W}
variable {r : Nat → Int} {ad : Nat → Nat} {H : Heap} {locs : List Loc} {ls : Array Slot} {st rest : List Value} {N n : Nat} {outs : List (ai_R × ai_G)} {cells slots mc ms pc : Nat} {g : JFrame} {Qa : State → Outcome → State → Prop} {XC : String → State → State → Prop} {free : Addr → Prop}
theorem ai_Run.ofX (h : vx_Run p l e R s m args below meth c H locs cells slots mc ms g rest Qa XC free) : ai_Run p l e R s m args below meth c H locs cells slots mc ms g rest Qa XC free := fun T hT X => by
  rcases h T hT X with ⟨v, st₀, t, T', L, h0, X', hL, e1, e2, hq, st⟩ | ⟨q, st₀, t, T', L, E, ce, h0, X', hL, e1, e2, hx, hce, hcv, hcl, st⟩
  · exact Or.inl ⟨v, st₀, t, T', L, h0, X', hL, e1, hq, st⟩
  · exact Or.inr ⟨q, st₀, t, T', L, E, ce, h0, X', hL, e1, hx, hce, hcv, hcl, st⟩
theorem ai_Run.ofC (h : CallRun p l e R s m args below meth c H locs cells slots mc ms g rest Qa free) : ai_Run p l e R s m args below meth c H locs cells slots mc ms g rest Qa XC free := fun T hT X => Or.inl (h T hT X)
theorem ai_Run.ofA (h : va_Run p l e R s m args below meth c H locs cells slots mc ms g rest Qa free) : ai_Run p l e R s m args below meth c H locs cells slots mc ms g rest Qa XC free := fun T hT X => by
  obtain ⟨v, st₀, t, T', L, h0, X', hL, e1, e2, hq, st⟩ := h T hT X
  exact Or.inl ⟨v, st₀, t, T', L, h0, X', hL, e1, hq, st⟩
theorem ai_keep {st₀ t T' : State} {L : List Loc} (h0 : st₀.heap = H) (e1 : T'.heap = t.heap) (hS : va_S A s.heap H locs) (hL : ∀ q ∈ L, A q.base) (hF : va_F A st₀ t) : va_S A s.heap T'.heap (locs ++ L) := by
  obtain ⟨hz, hk⟩ := hF
  rw [h0] at hz hk
  exact ⟨Nat.le_trans hS.1 (by rw [e1]; exact hz), fun q h1 h2 => by rw [e1, hk q (Nat.lt_of_lt_of_le h1 hS.1) h2]; exact hS.2.1 q h1 h2, fun q hq => by
      rcases List.mem_append.mp hq with h | h
      · exact hS.2.2 q h
      · exact hL q h⟩
theorem ai_back_ok {a : Array Value} (hr : ai_Run p l e R s m args below meth c H locs cells slots mc ms (F0 m pc ls st) rest (ai_Qc D tyc A sa ws0 r ad N n outs a) (ai_XC D tyc A sa ws0 r ad N n outs) A) (hS : va_S A s.heap H locs)
    (kk : ∀ f ∈ outs, ∀ x, f.1 = .inr x → ∀ (r' : Nat → Int) (ad' : Nat → Nat), ai_ext N r r' → ai_ext n ad ad' → N ≤ f.2.1.1 → n ≤ f.2.2.1.1 → ∀ (H1 : Heap) (locs1 : List Loc) (v : Option Value), ai_Wd D tyc A sa ws0 r' ad' f.2 H1 → va_S A s.heap H1 locs1 → ai_gR' r' ad' f.2.1.1 f.2.2.1.1 x v → W p l e R s m args below meth c H1 locs1 (cells + mc) (slots + ms) Q (F0 m (pc + 3) ls (v.toList ++ rest)))
    (kx : ∀ f ∈ outs, ∀ z, f.1 = .inl z → ∀ (r' : Nat → Int) (ad' : Nat → Nat), ai_ext N r r' → ai_ext n ad ad' → N ≤ f.2.1.1 → n ≤ f.2.2.1.1 → ∀ (H1 : Heap) (locs1 : List Loc) (q : Addr) (ce : Cell), ai_Wd D tyc A sa ws0 r' ad' f.2 H1 → va_S A s.heap H1 locs1 → H1[q]? = some ce → ce.vm = .none → s.vm.findClass (ai_exn z) = some ce.cls → vx_W p l e R s m args below meth c H1 locs1 (cells + mc) (slots + ms) Q (F0 m pc ls rest) q) :
    W p l e R s m args below meth c H locs cells slots Q (F0 m pc ls st) := by
  intro T hT X
  rcases hr T hT X with ⟨v, st₀, t, T', L, h0, X', hL, e1, ⟨f, hf, x, v', hx, hv, r', ad', g1, g2, g3, g4, g5, g6, g7⟩, stp⟩ | ⟨q, st₀, t, T', L, E, ce, h0, X', hL, e1, ⟨f, hf, z, hz, hE, r', ad', g1, g2, g3, g4, g5, g6, -⟩, hce, hcv, hcl, stp⟩
  · cases hv
    obtain ⟨t2, a1, b1⟩ := kk f hf x hx r' ad' g1 g2 g3 g4 T'.heap (locs ++ L) v (by rw [e1]; exact g5) (ai_keep h0 e1 hS hL g6) g7 T' rfl X'
    exact ⟨t2, stp t2 a1, b1⟩
  · subst hE
    obtain ⟨t2, a1, b1⟩ := kx f hf z hz r' ad' g1 g2 g3 g4 T'.heap (locs ++ L) q ce (by rw [e1]; exact g5) (ai_keep h0 e1 hS hL g6) (by rw [e1]; exact hce) hcv hcl T' rfl X'
    exact ⟨t2, stp.trans a1, b1⟩
end SB
/-! WHAT A METHOD OWES -/
/-- a method: its name, code, locals, what it returns, its table (none: it has none), its parameters -/
abbrev ai_MT : Type := MethodName × ByteArray × Nat × Option FieldType × Option (List (Nat × Nat × Nat × Nat)) × Nat
noncomputable def ai_cw (y : ai_MT) : Cond := match y.2.2.2.2.1 with
  | none => Cond.code y.1 y.2.1 y.2.2.1 y.2.2.2.1
  | some hh => Cond.codeWith y.1 y.2.1 y.2.2.1 y.2.2.2.1 hh
/-- what the tables say of a method -/
noncomputable def ai_mok (Wg : List Cond) (y : ai_MT) : Prop := plainName y.1.cls = true ∧ (y.1.cls ≠ "java/lang/invoke/MethodHandle" ∧ y.1.cls ≠ "java/lang/invoke/VarHandle" ∧ (parseMethodDescriptor y.1.desc).map (fun d => d.parameters.length) = some y.2.2.2.2.2) ∧ y.2.2.1 ≤ 45 ∧ ai_cw y ∈ Wg ∧ Cond.initialized y.1.cls ∈ Wg
noncomputable def ai_Ct (l : Launch) (D : va_G) (tyc : Nat → ClassId) (A : Nat → Prop) (sa : ai_B) (strs : List ai_Z) (nws Wg : List Cond) (y : ai_MT) (rm : Room) (aa : List ai_V) (G : ai_G) (outs : List (ai_R × ai_G)) : Prop :=
  ∀ (ws0 : va_W) (r : Nat → Int) (ad : Nat → Nat) (H0 : Heap) (As : List Value), ai_Wd D tyc A sa ws0 r ad G H0 → ai_gF r ad G.1.1 G.2.1.1 aa As →
    vx_Met l y.1 (ai_cw y :: Wg) rm (fun a U => a = As.toArray ∧ U.heap = H0 ∧ ai_St D tyc A sa strs nws U ∧ ∀ q, H0.size ≤ q → A q) (ai_Qc D tyc A sa ws0 r ad G.1.1 G.2.1.1 outs) (ai_XC D tyc A sa ws0 r ad G.1.1 G.2.1.1 outs) rm.cells rm.slots A
theorem ai_Met0 {l : Launch} {y : MethodName} {ws : List Cond} {rm : Room} {Pc : Array Value → State → Prop} {Qc : Array Value → State → Outcome → State → Prop} {XC : String → State → State → Prop} {mc ms : Nat} {free : Addr → Prop} (h : vx_Met l y ws rm Pc Qc XC mc ms free) (hX : ∀ E st t, ¬ XC E st t) : Met l y ws rm Pc Qc mc ms free := by
  have e : vx_Q Qc XC mc ms free = fun a st o t => Qc a st o t ∧ ∃ L, FrameEnd st o t L mc ms ∧ ∀ q ∈ L, free q.base := by
    funext a st o t
    refine propext ⟨fun h => ?_, fun h => Or.inl h⟩
    rcases h with h | ⟨q, -, E, ce, L, hx, -⟩
    · exact h
    · exact (hX _ _ _ hx).elim
  unfold vx_Met at h
  rw [e] at h
  exact h
