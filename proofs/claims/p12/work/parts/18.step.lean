/-! EVERY INSTRUCTION -/
/-- a text constant: class, entry, text, its number -/
abbrev ai_Z : Type := String × Nat × String × Nat
/-- what a program can look at: lengths, targets, numbers -/
noncomputable def ai_chk (pc : Nat) (i : ClassFile.Instr) (len a b : Nat) : Bool := match i with
  | .iconst n => decide (len = 1 ∧ ai_lo32 ≤ n ∧ n ≤ ai_hi32)
  | .bipush n => decide (len = 2 ∧ (Int8.ofInt n).toInt32.toInt = n)
  | .sipush n => decide (len = 3 ∧ (Int16.ofInt n).toInt32.toInt = n)
  | .ldc _ => decide (len = 2 ∧ b < 4294967296)
  | .ldc_w _ => decide (len = 3 ∧ b < 4294967296)
  | .iload _ => decide (len = 2)
  | .lload _ => decide (len = 2)
  | .aload _ => decide (len = 2)
  | .istore _ => decide (len = 2)
  | .lstore _ => decide (len = 2)
  | .astore _ => decide (len = 2)
  | .iinc _ n => decide (len = 3 ∧ ai_lo32 ≤ n ∧ n ≤ ai_hi32)
  | .goto off => decide (len = 3 ∧ (pc : Int) + off = (a : Int))
  | .ifCond _ off => decide (len = 3 ∧ (pc : Int) + off = (a : Int))
  | .if_icmp _ off => decide (len = 3 ∧ (pc : Int) + off = (a : Int))
  | .tableswitch d lo hi offs => decide (0 ≤ (pc : Int) + d) && (offs.toList.all (fun o => decide (0 ≤ (pc : Int) + o)) && decide (offs.toList.length = (hi - lo + 1).toNat))
  | .lookupswitch d ps => (decide (0 ≤ (pc : Int) + d) && ps.toList.all (fun q => decide (0 ≤ (pc : Int) + q.2))) && (ps.toList.zip (ps.toList.drop 1)).all (fun (a, next) => a.1 < next.1)
  | .getfield _ => decide (len = 3)
  | .putfield _ => decide (len = 3)
  | .new _ => decide (len = 3)
  | .newarray _ => decide (len = 2)
  | .anewarray _ => decide (len = 3)
  | .multianewarray _ d => decide (len = 4 ∧ d = 2)
  | .invokevirtual _ => decide (len = 3)
  | .invokespecial _ => decide (len = 3)
  | .invokestatic _ => decide (len = 3)
  | _ => decide (len = 1)
noncomputable def ai_fld (Ts : List Cond) (own : String) (idx ci j : Nat) : Prop := ci < 13 ∧ ∀ C T N, vwCl[ci]? = some (C, T, N) → j < N ∧ Cond.fieldLink own idx (T j).1 (T j).2.1 (T j).2.2.1 ∈ Ts
/-- what the tables say -/
noncomputable def ai_wd (Ts : List Cond) (strs : List ai_Z) (own : String) (ini : Bool) (i : ClassFile.Instr) (a b : Nat) : Prop := match i with
  | .ldc idx => (a = 0 → Cond.constant own idx (Int32.ofInt (Int.ofNat b - 2147483648)) ∈ Ts) ∧ (a ≠ 0 → ∃ tx, (1 ≤ b ∧ b ≤ 10) ∧ (own, idx, tx, b - 1) ∈ strs)
  | .ldc_w idx => (a = 0 → Cond.constant own idx (Int32.ofInt (Int.ofNat b - 2147483648)) ∈ Ts) ∧ (a ≠ 0 → ∃ tx, (1 ≤ b ∧ b ≤ 10) ∧ (own, idx, tx, b - 1) ∈ strs)
  | .getfield idx => ai_fld Ts own idx a b
  | .putfield idx => ai_fld Ts own idx a b ∧ ∀ C T N, vwCl[a]? = some (C, T, N) → (T b).2.2.2 = true → ini = true ∧ (T b).1 = own
  | .new idx => a < 2000 → a < 13 ∧ ∀ C T N, vwCl[a]? = some (C, T, N) → Cond.classLink own idx C ∈ Ts
  | .newarray at' => newarray.typeOf at' = ai_tyOf a ∧ (a = 0 ∨ a = 1 ∨ a = 2) ∧ Cond.arrayClass (ai_tyOf a) ∈ Ts
  | .anewarray idx => (a = 4 ∧ Cond.classLink own idx RX4 ∈ Ts) ∨ (a = 5 ∧ Cond.classLink own idx "java/lang/String" ∈ Ts)
  | .multianewarray idx _ => Cond.classLink own idx "[[I" ∈ Ts ∧ Cond.arrayClass .int ∈ Ts
  | .invokespecial idx => a = 1004 → Cond.methodLink own idx Lib.objectInit ∈ Ts ∧ Cond.instanceMethod Lib.objectInit ∈ Ts ∧ Cond.code Lib.objectInit ⟨#[0xb1]⟩ 1 none ∈ Ts
  | .invokestatic idx => (a = 1000 → Cond.methodLink own idx Lib.Math.max.name ∈ Ts ∧ Cond.static Lib.Math.max.name ∈ Ts ∧ Cond.initialized "java/lang/Math" ∈ Ts ∧ Cond.code Lib.Math.max.name Lib.Math.max.code 2 (some .int) ∈ Ts) ∧
    (a = 1001 → Cond.methodLink own idx Lib.Math.min.name ∈ Ts ∧ Cond.static Lib.Math.min.name ∈ Ts ∧ Cond.initialized "java/lang/Math" ∈ Ts ∧ Cond.code Lib.Math.min.name Lib.Math.min.code 2 (some .int) ∈ Ts) ∧
    (a = 1002 → Cond.methodLink own idx Lib.Math.abs.name ∈ Ts ∧ Cond.static Lib.Math.abs.name ∈ Ts ∧ Cond.initialized "java/lang/Math" ∈ Ts ∧ Cond.code Lib.Math.abs.name Lib.Math.abs.code 1 (some .int) ∈ Ts) ∧
    (a = 1003 → Cond.methodLink own idx Lib.MathLoose.abs_long.x ∈ Ts ∧ Cond.static Lib.MathLoose.abs_long.x ∈ Ts ∧ Cond.initialized "java/lang/Math" ∈ Ts ∧ Cond.code Lib.MathLoose.abs_long.x Lib.MathLoose.abs_long.code 2 (some .long) ∈ Ts) ∧
    (a = 1005 → Cond.methodLink own idx arraycopyName ∈ Ts ∧ Cond.native arraycopyName ∈ Ts ∧ Cond.static arraycopyName ∈ Ts ∧ Cond.initialized "java/lang/System" ∈ Ts)
  | _ => True
def ai_ncs : List (String × String) := [("java/lang/IllegalArgumentException", "java/util/NoSuchElementException")]
/-- the texts: lengths, bytes -/
noncomputable def ai_tl : List Nat := [4, 7, 4, 4, 4, 3, 3, 2, 5, 4]
noncomputable def ai_tb : List (List Int32) := [[117, 110, 105, 116], [113, 117, 97, 114, 116, 101, 114], [108, 111, 97, 100], [116, 114, 117, 101], [109, 111, 115, 116], [110, 111, 116], [97, 110, 100], [111, 114], [112, 114, 105, 99, 101], [119, 104, 101, 110]]
/-- what the texts hold; what their methods read of the classes -/
noncomputable def ai_Sx (A : Nat → Prop) (sa : ai_B) (s : State) : Prop := (∃ adV : Nat → Nat, vk_S 10 ai_tl ai_tb sa.1 adV A s s.heap) ∧ va_Z "java/lang/String" "COMPACT_STRINGS" "Z" (.int 1) A s s.heap ∧ va_Zq "jdk/internal/util/Preconditions" "SIOOBE_FORMATTER" "Ljava/util/function/BiFunction;" A s s.heap
/-- what holds of a state all the while: classes, texts, the script, words that the tables alone decide -/
noncomputable def ai_St (D : va_G) (tyc : Nat → ClassId) (A : Nat → Prop) (sa : ai_B) (strs : List ai_Z) (nws : List Cond) (s : State) : Prop := va_K D vwCl (ai_tys tyc) s ∧ (∀ i, i < 10 → va_O "java/lang/String" (sa.1 i) A s s.heap) ∧ (∀ q ∈ strs, vk_R q.1 q.2.1 q.2.2.1 (sa.1 q.2.2.2) s) ∧ (va_AO RX4 s ∧ va_AO "java/lang/String" s) ∧ va_AOA .int s ∧ ai_Xo sa.2 A s ∧ (∀ w ∈ nws, va_Nw w s) ∧ vx_Zq Bundle.tN "UNASSIGNED_STACK" Bundle.steD A s s.heap ∧ vx_Zq Bundle.tN "SUPPRESSED_SENTINEL" Bundle.listD A s s.heap ∧ (∀ q ∈ ai_ncs, va_Nc q.1 q.2 s) ∧ ai_Sx A sa s
/-- what holds of a frame all the while: the machine, the code, the tables, the room -/
noncomputable def ai_Fr (p : Program) (R : Room) (s : State) (m : MethodId) (args : Array Value) (meth : Method) (c : Code) (D : va_G) (tyc : Nat → ClassId) (A : Nat → Prop) (sa : ai_B) (nL : Nat) (cc : ByteArray) (own : String) (Ts : List Cond) (strs : List ai_Z) (nws : List Cond) (bud : Nat × Nat) (dflt : Nat → List ai_V) (kind : Nat → Nat → Nat) : Prop :=
  p.tables.exec = Jvm.exec ∧ c.code = cc ∧ c.maxLocals = nL ∧ (∀ w ∈ Ts, w.before args s = true) ∧ s.vm.findClass own = some m.cls ∧ ai_St D tyc A sa strs nws s ∧ (∀ q, s.heap.size ≤ q → A q) ∧ (bud.1 = R.cells ∧ bud.2 = R.slots) ∧ (∀ ci, ci < 13 → ai_cls Ts dflt kind ci) ∧ (8 ≤ R.frames ∧ 400 ≤ R.locals) ∧ meth.locks = false
section SS
variable {p : Program} {l : Launch} {e : Env} {R : Room} {s : State} {m : MethodId} {args : Array Value} {below : List Frame} {meth : Method} {c : Code} {Q : State → Prop}
variable {D : va_G} {tyc : Nat → ClassId} {A : Nat → Prop} {sa : ai_B} {ws0 : va_W} {nL : Nat} {cc : ByteArray} {own : String} {Ts : List Cond} {strs : List ai_Z} {nws : List Cond} {bud : Nat × Nat} {dflt : Nat → List ai_V} {kind : Nat → Nat → Nat} {ini : Bool}
variable {r : Nat → Int} {ad : Nat → Nat} {L S : List ai_V} {G : ai_G} {H : Heap} {locs : List Loc} {ls : Array Slot} {st : List Value} {fs : List ai_F}
theorem ai_const {i32 : Int32} {n : Int} (hR : ai_Rel D tyc A s sa ws0 nL r ad L S G H locs ls st) (h : i32.toInt = n) : ai_gV r ad G.1.1 G.2.1.1 (.inl (0, n)) (.int i32) := by
  have hE := hR.env
  refine ⟨hE.2.1, i32, rfl, ?_⟩
  show _ = r 0 + n
  rw [hE.1, h]; omega
theorem ai_nz_ok {r : Nat → Int} {E : ai_E} (hE : ai_gE r E) {x : ai_X} (hx : x.1 < E.1) (h : ai_nz E x = true) : ai_vx r x ≠ 0 := by
  have hv := ai_iv_ok hE hx
  unfold ai_nz at h
  cases e : ai_iv E x with
  | mk a b =>
    rw [e] at h hv
    dsimp only at h
    cases e1 : ai_le 1 a with
    | true =>
      have := ai_le_iff.mp e1
      have h1 : a ≤ ai_vx r x := hv.1
      omega
    | false =>
      rw [e1] at h
      have := ai_le_iff.mp h
      have h2 : ai_vx r x ≤ b := hv.2
      omega
theorem ai_nz32 {y : ai_X} {S' : List ai_V} {y' x' : Int32} {rest : List Value} (hR : ai_Rel D tyc A s sa ws0 nL r ad L (.inl y :: S') G H locs ls st) (h : ai_nz G.1 y = true) (hst : st = .int y' :: .int x' :: rest) : ¬ y' = 0 := by
  obtain ⟨j, t1, e, hy, ey, -⟩ := hR.stk.int
  rw [hst] at e
  cases e
  intro q
  subst q
  exact ai_nz_ok hR.env hy h ey.symm
theorem ai_nz64 {y : ai_X} {S' : List ai_V} {y' x' : Int64} {rest : List Value} (hR : ai_Rel D tyc A s sa ws0 nL r ad L (.inr (.inl y) :: S') G H locs ls st) (h : ai_nz G.1 y = true) (hst : st = .long y' :: .long x' :: rest) : ¬ y' = 0 := by
  obtain ⟨j, t1, e, hy, ey, -⟩ := hR.stk.long
  rw [hst] at e
  cases e
  intro q
  subst q
  exact ai_nz_ok hR.env hy h ey.symm
theorem ai_min_eq (x y : Int32) : (if y < x then y else x) = ai_op32 12 x y := by
  show _ = if x < y then x else y
  by_cases h1 : y < x
  · have h2 : ¬ x < y := by
      rw [Int32.lt_iff_toInt_lt] at h1 ⊢; omega
    rw [if_pos h1, if_neg h2]
  · by_cases h2 : x < y
    · rw [if_neg h1, if_pos h2]
    · rw [if_neg h1, if_neg h2]
      rw [Int32.lt_iff_toInt_lt] at h1 h2
      exact Int32.toInt_inj.mp (by omega)
theorem ai_call_no {mi n q : Nat} {S : List ai_V} (h : ai_call mi n q S = some (.inl fs)) : False := by
  unfold ai_call at h
  split at h
  · split at h <;> cases h
  · cases h
theorem ai_vcall_no {mi n ci q : Nat} {S : List ai_V} {hh : ai_H} (h : ai_vcall mi n ci q S hh = some (.inl fs)) : False := by
  unfold ai_vcall at h
  split at h
  · split at h
    · split at h
      · split at h <;> cases h
      · cases h
    · cases h
  · cases h
theorem ai_icall_no {mi n q : Nat} {S : List ai_V} (h : ai_icall mi n q S = some (.inl fs)) : False := by
  unfold ai_icall at h
  split at h
  · split at h
    · split at h <;> cases h
    · cases h
  · cases h
theorem ai_fin_no {bud : Nat × Nat} {G : ai_G} {x : ai_R} (h : ai_fin bud G x = some (.inl fs)) : False := by
  obtain ⟨E, hh, c, s⟩ := G
  unfold ai_fin at h
  dsimp only at h
  split at h <;> cases h
theorem ai_fin_ok {bud : Nat × Nat} {G : ai_G} {x y : ai_R} (h : ai_fin bud G x = some (.inr (.inr y))) : y = x ∧ G.2.2.1 ≤ bud.1 ∧ G.2.2.2 ≤ bud.2 := by
  obtain ⟨E, hh, c, s⟩ := G
  unfold ai_fin at h
  dsimp only at h
  split at h
  · rename_i e1 e2
    cases h
    exact ⟨rfl, Nat.le_of_ble_eq_true e1, Nat.le_of_ble_eq_true e2⟩
  · cases h
theorem ai_room_ok {bud : Nat × Nat} {S : List ai_V} {G : ai_G} (h : ai_room bud S G = true) : ai_words S ≤ 40 ∧ G.2.2.1 ≤ bud.1 ∧ G.2.2.2 ≤ bud.2 := by
  obtain ⟨E, hh, c, s⟩ := G
  unfold ai_room at h
  dsimp only at h
  split at h
  · rename_i e1 e2 e3
    exact ⟨Nat.le_of_ble_eq_true e1, Nat.le_of_ble_eq_true e2, Nat.le_of_ble_eq_true e3⟩
  · cases h
theorem ai_i2s_ok {r : Nat → Int} {E E' : ai_E} (hE : ai_gE r E) {x z : ai_X} (hx : x.1 < E.1) {v : Int32} (hv : v.toInt = ai_vx r x) (h : ai_i2s E x = (z, E')) : ∃ r', ai_ext E.1 r r' ∧ E.1 ≤ E'.1 ∧ ai_gE r' E' ∧ z.1 < E'.1 ∧ v.toInt16.toInt32.toInt = ai_vx r' z := by
  have hb := ai_iv_ok hE hx
  have hi : (-32768 : Int) ≤ v.toInt16.toInt32.toInt ∧ v.toInt16.toInt32.toInt ≤ 32767 := by
    rw [Int16.toInt_toInt32]
    have h1 := v.toInt16.le_toInt
    have h2 := v.toInt16.toInt_lt
    omega
  have hi32 : ai_lo32 ≤ v.toInt16.toInt32.toInt ∧ v.toInt16.toInt32.toInt ≤ ai_hi32 := ai_i32 _
  unfold ai_i2s at h
  cases e : ai_iv E x with
  | mk lo hi' =>
    rw [e] at h hb
    dsimp only at h
    have new : ai_new E (-32768, 32767) = (z, E') → ∃ r', ai_ext E.1 r r' ∧ E.1 ≤ E'.1 ∧ ai_gE r' E' ∧ z.1 < E'.1 ∧ v.toInt16.toInt32.toInt = ai_vx r' z := fun h => by
      obtain ⟨r', h1, h2, h3, h4, h5⟩ := ai_new_ok hE (b := (-32768, 32767)) (v := v.toInt16.toInt32.toInt) hi (ai_small32 hi32) h
      exact ⟨r', h1, h2, h3, h4, h5.symm⟩
    cases e1 : ai_le (-32768) lo with
    | false => rw [e1] at h; exact new h
    | true => cases e2 : ai_le hi' 32767 with
      | false => rw [e1, e2] at h; exact new h
      | true =>
        rw [e1, e2] at h
        cases h
        have h1 := ai_le_iff.mp e1
        have h2 := ai_le_iff.mp e2
        have h3 : lo ≤ ai_vx r x := hb.1
        have h4 : ai_vx r x ≤ hi' := hb.2
        refine ⟨r, ai_ext.rfl', Nat.le_refl _, hE, hx, ?_⟩
        rw [Int16.toInt_toInt32, Int32.toInt_toInt16, hv]
        exact Int.bmod_eq_of_le (by omega) (by omega)
theorem ai_l2i_ok {r : Nat → Int} {E E' : ai_E} (hE : ai_gE r E) {x z : ai_X} (hx : x.1 < E.1) {v : Int64} (hv : v.toInt = ai_vx r x) (h : ai_l2i E x = (z, E')) : ∃ r', ai_ext E.1 r r' ∧ E.1 ≤ E'.1 ∧ ai_gE r' E' ∧ z.1 < E'.1 ∧ v.toInt32.toInt = ai_vx r' z := by
  have hb := ai_iv_ok hE hx
  have hi := ai_i32 v.toInt32
  unfold ai_l2i at h
  cases e : ai_iv E x with
  | mk lo hi' =>
    rw [e] at h hb
    dsimp only at h
    have new : ai_new E (ai_lo32, ai_hi32) = (z, E') → ∃ r', ai_ext E.1 r r' ∧ E.1 ≤ E'.1 ∧ ai_gE r' E' ∧ z.1 < E'.1 ∧ v.toInt32.toInt = ai_vx r' z := fun h => by
      obtain ⟨r', h1, h2, h3, h4, h5⟩ := ai_new_ok hE (b := (ai_lo32, ai_hi32)) (v := v.toInt32.toInt) hi (ai_small32 hi) h
      exact ⟨r', h1, h2, h3, h4, h5.symm⟩
    cases e1 : ai_le ai_lo32 lo with
    | false => rw [e1] at h; exact new h
    | true => cases e2 : ai_le hi' ai_hi32 with
      | false => rw [e1, e2] at h; exact new h
      | true =>
        rw [e1, e2] at h
        cases h
        have h1 := ai_le_iff.mp e1
        have h2 := ai_le_iff.mp e2
        have h3 : lo ≤ ai_vx r x := hb.1
        have h4 : ai_vx r x ≤ hi' := hb.2
        refine ⟨r, ai_ext.rfl', Nat.le_refl _, hE, hx, ?_⟩
        rw [Int64.toInt_toInt32, hv]
        exact ai_bm32_id (by omega) (by omega)
set_option maxHeartbeats 4000000 in
theorem ai_step_ok {pc len a b : Nat} {i : ClassFile.Instr} (F : ai_Fr p R s m args meth c D tyc A sa nL cc own Ts strs nws bud dflt kind) (hini : ini = true → meth.name = "<init>") (hck : ai_chk pc i len a b = true) (hwd : ai_wd Ts strs own ini i a b) (hdg : decode cc pc = .ok (i, len))
    (h : ai_step i bud dflt kind pc (pc + len) a b L S G = some (.inl fs)) (hR : ai_Rel D tyc A s sa ws0 nL r ad L S G H locs ls st) (k : ∀ f ∈ fs, ai_Cn p l e R s m args below meth c Q D tyc A sa ws0 nL r ad G f) : W p l e R s m args below meth c H locs G.2.2.1 G.2.2.2 Q (F0 m pc ls st) := by
  obtain ⟨hx, hb, hml, hts, hown, ⟨hK, hstr, hstrs, hAO, hAOA, hxo, -⟩, hA, hbud, hcls, hroom, hlocks⟩ := F
  have hls : ls.size = nL := by
    obtain ⟨ws, -, -, -, -, -, -, -, hL, -⟩ := hR
    exact hL.2.1
  cases i
  case iconst n =>
    obtain ⟨rfl, h1, h2⟩ := of_decide_eq_true hck
    have hf := ai_go_eq h
    subst hf
    have hn : (Int32.ofInt n).toInt = n := Int32.toInt_ofInt_of_le (by unfold ai_lo32 at h1; omega) (by unfold ai_hi32 at h2; omega)
    exact lv_iconst hx hb hdg rfl ((k _ List.mem_cons_self).st' hR ⟨ai_const hR hn, hR.stk⟩)
  case bipush n =>
    obtain ⟨rfl, h1⟩ := of_decide_eq_true hck
    have hf := ai_go_eq h
    subst hf
    exact lv_bipush hx hb hdg rfl ((k _ List.mem_cons_self).st' hR ⟨ai_const hR h1, hR.stk⟩)
  case sipush n =>
    obtain ⟨rfl, h1⟩ := of_decide_eq_true hck
    have hf := ai_go_eq h
    subst hf
    exact lv_sipush hx hb hdg rfl ((k _ List.mem_cons_self).st' hR ⟨ai_const hR h1, hR.stk⟩)
  case lconst n =>
    obtain rfl := of_decide_eq_true hck
    have hf := ai_go_eq h
    subst hf
    have hE := hR.env
    refine lv_lconst hx hb hdg rfl ((k _ List.mem_cons_self).st' hR ⟨⟨hE.2.1, _, rfl, ?_⟩, hR.stk⟩)
    show (lN n.val).toInt = r 0 + (n.val : Int)
    have := n.isLt
    rw [lN_toInt (by omega), hE.1]; omega
  case ldc idx =>
    obtain ⟨rfl, h1⟩ := of_decide_eq_true hck
    cases a with
    | zero =>
      have hf := ai_go_eq h
      subst hf
      have hn : (Int32.ofInt (Int.ofNat b - 2147483648)).toInt = Int.ofNat b - 2147483648 := Int32.toInt_ofInt_of_le (by show -2147483648 ≤ (b : Int) - 2147483648; omega) (by show (b : Int) - 2147483648 < 2147483648; omega)
      exact lv_ldc hx hb hown (hts _ (hwd.1 rfl)) hdg ((k _ List.mem_cons_self).st' hR ⟨ai_const hR hn, hR.stk⟩)
    | succ a =>
      have hf := ai_go_eq h
      subst hf
      obtain ⟨tx, hb1, hb2⟩ := hwd.2 (Nat.succ_ne_zero _)
      refine va_ldcS hx hb hown (hstrs _ hb2) hdg ((k _ List.mem_cons_self).st' hR ⟨⟨?_, ?_⟩, hR.stk⟩)
      · obtain ⟨ws, -, -, -, -, hH, -⟩ := hR
        have := hH.1.1
        omega
      · obtain ⟨ws, -, -, -, -, -, -, hsa, -⟩ := hR
        have := hsa (b - 1) (by omega)
        rw [show b - 1 + 1 = b by omega] at this
        rw [this]
  case ldc_w idx =>
    obtain ⟨rfl, h1⟩ := of_decide_eq_true hck
    cases a with
    | zero =>
      have hf := ai_go_eq h
      subst hf
      have hn : (Int32.ofInt (Int.ofNat b - 2147483648)).toInt = Int.ofNat b - 2147483648 := Int32.toInt_ofInt_of_le (by show -2147483648 ≤ (b : Int) - 2147483648; omega) (by show (b : Int) - 2147483648 < 2147483648; omega)
      have kk := (k _ List.mem_cons_self).st' hR (st' := .int (Int32.ofInt (Int.ofNat b - 2147483648)) :: st) ⟨ai_const hR hn, hR.stk⟩
      intro T hT X
      obtain ⟨t, a1, b1⟩ := kk T hT X
      exact ⟨t, va_ldcwI X hx hown (hts _ (hwd.1 rfl)) (g := F0 m pc ls st) rfl (by rw [hb]; exact hdg) t a1, b1⟩
    | succ a =>
      have hf := ai_go_eq h
      subst hf
      obtain ⟨tx, hb1, hb2⟩ := hwd.2 (Nat.succ_ne_zero _)
      have kk := (k _ List.mem_cons_self).st' hR (st' := .ref (sa.1 (b - 1)) :: st) (by
        refine ⟨⟨?_, ?_⟩, hR.stk⟩
        · obtain ⟨ws, -, -, -, -, hH, -⟩ := hR
          have := hH.1.1
          omega
        · obtain ⟨ws, -, -, -, -, -, -, hsa, -⟩ := hR
          have := hsa (b - 1) (by omega)
          rw [show b - 1 + 1 = b by omega] at this
          rw [this])
      intro T hT X
      obtain ⟨t, a1, b1⟩ := kk T hT X
      exact ⟨t, X.ldcStringW hx hown (text := tx) (a := sa.1 (b - 1)) (hstrs _ hb2).1 (hstrs _ hb2).2 (g := F0 m pc ls st) rfl (by rw [hb]; exact hdg) t a1, b1⟩
  case iload n =>
    obtain rfl := of_decide_eq_true hck
    exact ai_load_ok (fun a ha q => by subst q; cases ha) (fun v h1 h2 h3 hw => by
      rcases hv : ai_lget L n with x | x
      · rw [hv] at h2
        obtain ⟨-, ix, rfl, -⟩ := h2
        exact lv_iload hx hb hdg h1 hw
      · rw [hv] at h3; cases h3) h hR k
  case iload_n n =>
    obtain rfl := of_decide_eq_true hck
    exact ai_load_ok (fun a ha q => by subst q; cases ha) (fun v h1 h2 h3 hw => by
      rcases hv : ai_lget L n.val with x | x
      · rw [hv] at h2
        obtain ⟨-, ix, rfl, -⟩ := h2
        exact lv_iload_n hx hb hdg rfl h1 hw
      · rw [hv] at h3; cases h3) h hR k
  case lload n =>
    obtain rfl := of_decide_eq_true hck
    exact ai_load_ok (fun a ha q => by subst q; cases ha) (fun v h1 h2 h3 hw => by
      rcases hv : ai_lget L n with x | x | x
      · rw [hv] at h3; cases h3
      · rw [hv] at h2
        obtain ⟨-, ix, rfl, -⟩ := h2
        exact lv_lload hx hb hdg h1 hw
      · rw [hv] at h3; cases h3) h hR k
  case lload_n n =>
    obtain rfl := of_decide_eq_true hck
    exact ai_load_ok (fun a ha q => by subst q; cases ha) (fun v h1 h2 h3 hw => by
      rcases hv : ai_lget L n.val with x | x | x
      · rw [hv] at h3; cases h3
      · rw [hv] at h2
        obtain ⟨-, ix, rfl, -⟩ := h2
        exact lv_lload_n hx hb hdg rfl h1 hw
      · rw [hv] at h3; cases h3) h hR k
  case aload n =>
    obtain rfl := of_decide_eq_true hck
    exact ai_load_ok (fun a ha q => by subst q; cases ha) (fun v h1 h2 h3 hw => by
      rcases hv : ai_lget L n with x | x | _ | _ | x
      · rw [hv] at h3; cases h3
      · rw [hv] at h3; cases h3
      · rw [hv] at h3; cases h3
      · rw [hv] at h3; cases h3
      · rw [hv] at h2
        obtain ⟨-, rfl⟩ := h2
        exact lv_aload hx hb hdg h1 hw) h hR k
  case aload_n n =>
    obtain rfl := of_decide_eq_true hck
    exact ai_load_ok (fun a ha q => by subst q; cases ha) (fun v h1 h2 h3 hw => by
      rcases hv : ai_lget L n.val with x | x | _ | _ | x
      · rw [hv] at h3; cases h3
      · rw [hv] at h3; cases h3
      · rw [hv] at h3; cases h3
      · rw [hv] at h3; cases h3
      · rw [hv] at h2
        obtain ⟨-, rfl⟩ := h2
        exact lv_aload_n hx hb hdg rfl h1 hw) h hR k
  case istore n =>
    obtain rfl := of_decide_eq_true hck
    exact ai_stor_ok (fun a ha => by rcases a with x | x <;> first | rfl | cases ha) (fun a v rest lv' h1 h2 h3 h4 h5 h6 => by
      rcases a with x | x
      · obtain ⟨-, ix, rfl, -⟩ := h1
        exact lv_istore hx hb hdg h5 h3 h4 h6
      · cases h2) h hR k
  case istore_n n =>
    obtain rfl := of_decide_eq_true hck
    exact ai_stor_ok (fun a ha => by rcases a with x | x <;> first | rfl | cases ha) (fun a v rest lv' h1 h2 h3 h4 h5 h6 => by
      rcases a with x | x
      · obtain ⟨-, ix, rfl, -⟩ := h1
        exact lv_istore_n hx hb hdg rfl h5 h3 h4 h6
      · cases h2) h hR k
  case astore n =>
    obtain rfl := of_decide_eq_true hck
    exact ai_stor_ok (fun a ha => by rcases a with x | x | _ | _ | x <;> first | rfl | cases ha) (fun a v rest lv' h1 h2 h3 h4 h5 h6 => by
      rcases a with x | x | _ | _ | x
      · cases h2
      · cases h2
      · cases h2
      · cases h2
      · obtain ⟨-, rfl⟩ := h1
        exact lv_astore hx hb hdg h5 h3 h4 h6) h hR k
  case astore_n n =>
    obtain rfl := of_decide_eq_true hck
    exact ai_stor_ok (fun a ha => by rcases a with x | x | _ | _ | x <;> first | rfl | cases ha) (fun a v rest lv' h1 h2 h3 h4 h5 h6 => by
      rcases a with x | x | _ | _ | x
      · cases h2
      · cases h2
      · cases h2
      · cases h2
      · obtain ⟨-, rfl⟩ := h1
        exact lv_astore_n hx hb hdg rfl h5 h3 h4 h6) h hR k
  case lstore n =>
    obtain rfl := of_decide_eq_true hck
    exact ai_stol_ok (fun x rest lv' h3 h4 h5 h6 => lv_lstore hx hb hdg h5 h3 h4 h6) h hR k
  case lstore_n n =>
    obtain rfl := of_decide_eq_true hck
    exact ai_stol_ok (fun x rest lv' h3 h4 h5 h6 => lv_lstore_n hx hb hdg rfl h5 h3 h4 h6) h hR k
  case iadd =>
    obtain rfl := of_decide_eq_true hck
    exact ai_s2_ok (o := 0) (by decide) (fun x y rest _ hw => lv_iadd hx hb hdg hw) h hR k
  case isub =>
    obtain rfl := of_decide_eq_true hck
    exact ai_s2_ok (o := 1) (by decide) (fun x y rest _ hw => lv_isub hx hb hdg hw) h hR k
  case imul =>
    obtain rfl := of_decide_eq_true hck
    exact ai_s2_ok (o := 2) (by decide) (fun x y rest _ hw => lv_imul hx hb hdg hw) h hR k
  case iand =>
    obtain rfl := of_decide_eq_true hck
    exact ai_s2_ok (o := 5) (by decide) (fun x y rest _ hw => lv_iand hx hb hdg hw) h hR k
  case ior =>
    obtain rfl := of_decide_eq_true hck
    exact ai_s2_ok (o := 6) (by decide) (fun x y rest _ hw => lv_ior hx hb hdg hw) h hR k
  case ixor =>
    obtain rfl := of_decide_eq_true hck
    exact ai_s2_ok (o := 7) (by decide) (fun x y rest _ hw => lv_ixor hx hb hdg hw) h hR k
  case ishl =>
    obtain rfl := of_decide_eq_true hck
    exact ai_s2_ok (o := 8) (by decide) (fun x y rest _ hw => lv_ishl hx hb hdg hw) h hR k
  case ishr =>
    obtain rfl := of_decide_eq_true hck
    exact ai_s2_ok (o := 9) (by decide) (fun x y rest _ hw => lv_ishr hx hb hdg hw) h hR k
  case iushr =>
    obtain rfl := of_decide_eq_true hck
    exact ai_s2_ok (o := 10) (by decide) (fun x y rest _ hw => lv_iushr hx hb hdg rfl hw) h hR k
  case ladd =>
    obtain rfl := of_decide_eq_true hck
    exact ai_l2_ok (o := 20) (by decide) (fun x y rest _ hw => lv_ladd hx hb hdg hw) h hR k
  case lsub =>
    obtain rfl := of_decide_eq_true hck
    exact ai_l2_ok (o := 21) (by decide) (fun x y rest _ hw => lv_lsub hx hb hdg hw) h hR k
  case lmul =>
    obtain rfl := of_decide_eq_true hck
    exact ai_l2_ok (o := 22) (by decide) (fun x y rest _ hw => lv_lmul hx hb hdg hw) h hR k
  case iaload =>
    obtain rfl := of_decide_eq_true hck
    exact ai_iald_ok hx hb hK hxo hdg h hR k
  case laload =>
    obtain rfl := of_decide_eq_true hck
    exact ai_lald_ok hx hb hK hdg h hR k
  case baload =>
    obtain rfl := of_decide_eq_true hck
    exact ai_bald_ok hx hb hK hdg h hR k
  case iastore =>
    obtain rfl := of_decide_eq_true hck
    exact ai_iast_ok hx hb hK hdg h hR k
  case lastore =>
    obtain rfl := of_decide_eq_true hck
    exact ai_last_ok hx hb hK hdg h hR k
  case bastore =>
    obtain rfl := of_decide_eq_true hck
    exact ai_bast_ok hx hb hK hdg h hR k
  case aaload =>
    obtain rfl := of_decide_eq_true hck
    exact ai_aget_ok hx hb hK hdg h hR k
  case aastore =>
    obtain rfl := of_decide_eq_true hck
    exact ai_aput_ok hx hb hK hstr hdg h hR k
  case arraylength =>
    obtain rfl := of_decide_eq_true hck
    exact ai_alen_ok hx hb hK hxo hdg h hR k
  case getfield idx =>
    obtain rfl := of_decide_eq_true hck
    exact ai_getf_ok hx hb hts hown hK (hcls a hwd.1) hwd.2 hdg h hR k
  case putfield idx =>
    obtain rfl := of_decide_eq_true hck
    exact ai_putf_ok hx hb hts hown hK (hcls a hwd.1.1) (fun C T N hc => ⟨(hwd.1.2 C T N hc).1, (hwd.1.2 C T N hc).2, fun hf => ⟨hini (hwd.2 C T N hc hf).1, (hwd.2 C T N hc hf).2⟩⟩) hdg h hR k
  case multianewarray idx d =>
    obtain ⟨rfl, rfl⟩ := of_decide_eq_true hck
    exact ai_mult_ok hx hb hts hown hK hAOA hA hbud hwd hdg h hR k
  case tableswitch d lo hi offs =>
    have hck : (decide (0 ≤ (pc : Int) + d) && (offs.toList.all (fun o => decide (0 ≤ (pc : Int) + o)) && decide (offs.toList.length = (hi - lo + 1).toNat))) = true := hck
    rw [Bool.and_eq_true, Bool.and_eq_true] at hck
    exact ai_tsw_ok hx hb ⟨of_decide_eq_true hck.1, fun o ho => of_decide_eq_true (List.all_eq_true.mp hck.2.1 o ho), of_decide_eq_true hck.2.2⟩ hdg h hR k
  case lookupswitch d ps =>
    have hck : ((decide (0 ≤ (pc : Int) + d) && ps.toList.all (fun q => decide (0 ≤ (pc : Int) + q.2))) && (ps.toList.zip (ps.toList.drop 1)).all (fun (a, next) => a.1 < next.1)) = true := hck
    rw [Bool.and_eq_true, Bool.and_eq_true] at hck
    exact ai_lsw_ok hx hb ⟨⟨of_decide_eq_true hck.1.1, fun q hq => of_decide_eq_true (List.all_eq_true.mp hck.1.2 q hq)⟩, hck.2⟩ hdg h hR k
  case i2s =>
    obtain rfl := of_decide_eq_true hck
    delta ai_step at h
    dsimp only at h
    split at h
    · rename_i x S'
      obtain ⟨E, hh, cs, sl⟩ := G
      obtain ⟨j, t, rfl, hy, ey, h1⟩ := hR.stk.int
      dsimp only at h
      cases eb : ai_i2s E x with
      | mk z E' =>
        rw [eb] at h
        have hf := ai_go_eq h
        subst hf
        obtain ⟨r', g1, g2, g3, g4, g5⟩ := ai_i2s_ok hR.env hy ey eb
        exact lv_i2s hx hb hdg rfl ((k _ List.mem_cons_self).re (G := (E, hh, cs, sl)) hR g1 g2 g3 ⟨⟨g4, _, rfl, g5⟩, h1.mono g1 ai_ext.rfl' g2 (Nat.le_refl _)⟩)
    · cases h
  case iinc n kk =>
    obtain ⟨rfl, h1, h2⟩ := of_decide_eq_true hck
    delta ai_step at h
    dsimp only at h
    split at h
    · rename_i x hl
      obtain ⟨E, hh, cs, sl⟩ := G
      dsimp only at h
      cases eb : ai_bin E 0 x (0, kk) with
      | mk z E' =>
        rw [eb] at h
        dsimp only at h
        split at h
        · rename_i hlt
          have hf := ai_go_eq h
          subst hf
          exact ai_iinc_ok hx hb ⟨h1, h2⟩ hdg hl (Nat.le_of_ble_eq_true hlt) eb hR (k _ List.mem_cons_self)
        · cases h
    · cases h
  case idiv =>
    obtain rfl := of_decide_eq_true hck
    delta ai_step at h
    dsimp only at h
    split at h
    · split at h
      · rename_i hz
        exact ai_s2_ok (o := 3) (by decide) (fun x y rest e hw => lv_idiv hx hb hdg (ai_nz32 hR hz e) hw) h hR k
      · cases h
    · cases h
  case irem =>
    obtain rfl := of_decide_eq_true hck
    delta ai_step at h
    dsimp only at h
    split at h
    · split at h
      · rename_i hz
        exact ai_s2_ok (o := 4) (by decide) (fun x y rest e hw => lv_irem hx hb hdg (ai_nz32 hR hz e) hw) h hR k
      · cases h
    · cases h
  case ldiv =>
    obtain rfl := of_decide_eq_true hck
    delta ai_step at h
    dsimp only at h
    split at h
    · split at h
      · rename_i hz
        exact ai_l2_ok (o := 23) (by decide) (fun x y rest e hw => lv_ldiv hx hb hdg (ai_nz64 hR hz e) hw) h hR k
      · cases h
    · cases h
  case lrem =>
    obtain rfl := of_decide_eq_true hck
    delta ai_step at h
    dsimp only at h
    split at h
    · split at h
      · rename_i hz
        exact ai_l2_ok (o := 24) (by decide) (fun x y rest e hw => lv_lrem hx hb hdg (ai_nz64 hR hz e) hw) h hR k
      · cases h
    · cases h
  case ineg =>
    obtain rfl := of_decide_eq_true hck
    delta ai_step at h
    dsimp only at h
    split at h
    · rename_i y S'
      obtain ⟨j, t, rfl, hy, ey, h1⟩ := hR.stk.int
      have hE := hR.env
      refine ai_s2_Z (st := .int j :: .int 0 :: t) (o := 1) (by decide) (fun x y' rest e hw => ?_) h (hR.st' ⟨⟨hy, j, rfl, ey⟩, ⟨hE.2.1, 0, rfl, ?_⟩, h1⟩) k
      · cases e
        refine lv_ineg hx hb hdg ?_
        rw [← Int32.zero_sub]
        exact hw
      · show (0 : Int) = r 0 + 0
        rw [hE.1]; rfl
    · cases h
  case lneg =>
    obtain rfl := of_decide_eq_true hck
    delta ai_step at h
    dsimp only at h
    split at h
    · rename_i y S'
      obtain ⟨j, t, rfl, hy, ey, h1⟩ := hR.stk.long
      have hE := hR.env
      refine ai_l2_Z (st := .long j :: .long 0 :: t) (o := 21) (by decide) (fun x y' rest e hw => ?_) h (hR.st' ⟨⟨hy, j, rfl, ey⟩, ⟨hE.2.1, 0, rfl, ?_⟩, h1⟩) k
      · cases e
        refine lv_lneg hx hb hdg ?_
        rw [← Int64.zero_sub]
        exact hw
      · show (0 : Int) = r 0 + 0
        rw [hE.1]; rfl
    · cases h
  case lcmp =>
    obtain rfl := of_decide_eq_true hck
    delta ai_step at h
    dsimp only at h
    split at h
    · rename_i y x S'
      obtain ⟨E, hh, cs, sl⟩ := G
      obtain ⟨j, t1, rfl, hy, ey, h1⟩ := hR.stk.long
      obtain ⟨i, t, rfl, hx', ex, h2⟩ := h1.long
      dsimp only at h
      cases eb : ai_bin E 25 x y with
      | mk z E' =>
        rw [eb] at h
        have hf := ai_go_eq h
        subst hf
        obtain ⟨r', g1, g2, g3, g4, g5⟩ := ai_cmp64 hR.env hx' hy ex ey eb
        exact W.lcmp hx hb hdg ((k _ List.mem_cons_self).re (G := (E, hh, cs, sl)) hR g1 g2 g3 ⟨⟨g4, _, rfl, g5⟩, h2.mono g1 ai_ext.rfl' g2 (Nat.le_refl _)⟩)
    · cases h
  case i2l =>
    obtain rfl := of_decide_eq_true hck
    delta ai_step at h
    dsimp only at h
    split at h
    · rename_i x S'
      obtain ⟨j, t, rfl, hy, ey, h1⟩ := hR.stk.int
      have hf := ai_go_eq h
      subst hf
      exact lv_i2l hx hb hdg rfl ((k _ List.mem_cons_self).st' hR ⟨⟨hy, _, rfl, by rw [Int32.toInt_toInt64]; exact ey⟩, h1⟩)
    · cases h
  case l2i =>
    obtain rfl := of_decide_eq_true hck
    delta ai_step at h
    dsimp only at h
    split at h
    · rename_i x S'
      obtain ⟨E, hh, cs, sl⟩ := G
      obtain ⟨j, t, rfl, hy, ey, h1⟩ := hR.stk.long
      dsimp only at h
      cases eb : ai_l2i E x with
      | mk z E' =>
        rw [eb] at h
        have hf := ai_go_eq h
        subst hf
        obtain ⟨r', g1, g2, g3, g4, g5⟩ := ai_l2i_ok hR.env hy ey eb
        exact lv_l2i hx hb hdg rfl ((k _ List.mem_cons_self).re (G := (E, hh, cs, sl)) hR g1 g2 g3 ⟨⟨g4, _, rfl, g5⟩, h1.mono g1 ai_ext.rfl' g2 (Nat.le_refl _)⟩)
    · cases h
  case dup =>
    obtain rfl := of_decide_eq_true hck
    delta ai_step at h
    dsimp only at h
    split at h
    · rename_i v S'
      obtain ⟨v', t, rfl, g1, g2⟩ := hR.stk.cons
      split at h
      · cases h
      · rename_i e1
        have hf := ai_go_eq h
        subst hf
        exact lv_dup hx hb hdg (g1.cat.1 e1) ((k _ List.mem_cons_self).st' hR ⟨g1, g1, g2⟩)
    · cases h
  case pop =>
    obtain rfl := of_decide_eq_true hck
    delta ai_step at h
    dsimp only at h
    split at h
    · rename_i v S'
      obtain ⟨v', t, rfl, g1, g2⟩ := hR.stk.cons
      split at h
      · cases h
      · rename_i e1
        have hf := ai_go_eq h
        subst hf
        exact lv_pop hx hb hdg (g1.cat.1 e1) ((k _ List.mem_cons_self).st' hR g2)
    · cases h
  case dup2 =>
    obtain rfl := of_decide_eq_true hck
    delta ai_step at h
    dsimp only at h
    split at h
    · rename_i v S'
      obtain ⟨v', t, rfl, g1, g2⟩ := hR.stk.cons
      split at h
      · rename_i e1
        have hf := ai_go_eq h
        subst hf
        exact lv_dup2_2 hx hb hdg (g1.cat.2 e1) ((k _ List.mem_cons_self).st' hR ⟨g1, g1, g2⟩)
      · split at h
        · rename_i w S''
          obtain ⟨w', t', rfl, f1, f2⟩ := g2.cons
          split at h
          · rename_i e1 e2
            have hf := ai_go_eq h
            subst hf
            exact lv_dup2_11 hx hb hdg (g1.cat.1 e1) (f1.cat.1 e2) ((k _ List.mem_cons_self).st' hR ⟨g1, f1, g1, f1, f2⟩)
          · cases h
        · cases h
    · cases h
  case goto off =>
    obtain ⟨rfl, h1⟩ := of_decide_eq_true hck
    have hf := ai_go_eq h
    subst hf
    exact lv_goto hx hb hdg h1 ((k _ List.mem_cons_self).st' hR hR.stk)
  case ifCond o off =>
    obtain ⟨rfl, h1⟩ := of_decide_eq_true hck
    delta ai_step at h
    dsimp only at h
    split at h
    · rename_i x S'
      obtain ⟨j, t, rfl, hy, ey, g1⟩ := hR.stk.int
      have hE := hR.env
      have h0 : ai_vx r (0, 0) = 0 := by
        show r 0 + 0 = 0
        rw [hE.1]; rfl
      refine ai_branch_ok (st' := t) (by cases o <;> decide) hy hE.2.1 (fun kt kf => ?_) h hR g1 k
      rw [← ey, h0] at kt kf
      have e0 : (0 : Int) = (0 : Int32).toInt := rfl
      rw [e0] at kt kf
      cases o
      · exact lv_if_eq hx hb hdg h1 (fun q => kt (by rw [q]; rfl)) (fun q => kf (fun q2 => q (Int32.toInt_inj.mp q2)))
      · exact lv_if_ne hx hb hdg h1 (fun q => kt (fun q2 => q (Int32.toInt_inj.mp q2))) (fun q => kf (fun q2 => q2 (by rw [q])))
      · exact lv_if_lt hx hb hdg h1 (fun q => kt (Int32.lt_iff_toInt_lt.mp q)) (fun q => kf (fun q2 => q (Int32.lt_iff_toInt_lt.mpr q2)))
      · exact lv_if_ge hx hb hdg h1 (fun q => kt (Int32.le_iff_toInt_le.mp q)) (fun q => kf (fun q2 => q (Int32.le_iff_toInt_le.mpr q2)))
      · exact lv_if_gt hx hb hdg h1 (fun q => kt (Int32.lt_iff_toInt_lt.mp q)) (fun q => kf (fun q2 => q (Int32.lt_iff_toInt_lt.mpr q2)))
      · exact lv_if_le hx hb hdg h1 (fun q => kt (Int32.le_iff_toInt_le.mp q)) (fun q => kf (fun q2 => q (Int32.le_iff_toInt_le.mpr q2)))
    · cases h
  case if_icmp o off =>
    obtain ⟨rfl, h1⟩ := of_decide_eq_true hck
    delta ai_step at h
    dsimp only at h
    split at h
    · rename_i y x S'
      obtain ⟨j, t1, rfl, hy, ey, g0⟩ := hR.stk.int
      obtain ⟨i, t, rfl, hx', ex, g1⟩ := g0.int
      refine ai_branch_ok (st' := t) (by cases o <;> decide) hx' hy (fun kt kf => ?_) h hR g1 k
      rw [← ey, ← ex] at kt kf
      cases o
      · exact lv_icmp_eq hx hb hdg h1 (fun q => kt (by rw [q]; rfl)) (fun q => kf (fun q2 => q (Int32.toInt_inj.mp q2)))
      · exact lv_icmp_ne hx hb hdg h1 (fun q => kt (fun q2 => q (Int32.toInt_inj.mp q2))) (fun q => kf (fun q2 => q2 (by rw [q])))
      · exact lv_icmp_lt hx hb hdg h1 (fun q => kt (Int32.lt_iff_toInt_lt.mp q)) (fun q => kf (fun q2 => q (Int32.lt_iff_toInt_lt.mpr q2)))
      · exact lv_icmp_ge hx hb hdg h1 (fun q => kt (Int32.le_iff_toInt_le.mp q)) (fun q => kf (fun q2 => q (Int32.le_iff_toInt_le.mpr q2)))
      · exact lv_icmp_gt hx hb hdg h1 (fun q => kt (Int32.lt_iff_toInt_lt.mp q)) (fun q => kf (fun q2 => q (Int32.lt_iff_toInt_lt.mpr q2)))
      · exact lv_icmp_le hx hb hdg h1 (fun q => kt (Int32.le_iff_toInt_le.mp q)) (fun q => kf (fun q2 => q (Int32.le_iff_toInt_le.mpr q2)))
    · cases h
  case new idx =>
    obtain rfl := of_decide_eq_true hck
    delta ai_step at h
    dsimp only at h
    split at h
    · split at h
      · obtain ⟨E, hh, cs, sl⟩ := G
        dsimp only at h
        split at h <;> cases h
      · cases h
    · rename_i e1
      have ha : a < 2000 := by
        by_cases q : 2000 ≤ a
        · rw [Nat.ble_eq_true_of_le q] at e1; cases e1
        · omega
      obtain ⟨w1, w2⟩ := hwd ha
      exact ai_new_obj hx hb hts hown hK hA hbud (hcls a w1) w2 hdg h hR k
  case newarray at' =>
    obtain rfl := of_decide_eq_true hck
    delta ai_step at h
    dsimp only at h
    split at h
    · rename_i n S'
      split at h
      · rename_i e1
        exact ai_newa_ok hx hb hts hK hA hbud hwd (Nat.le_of_ble_eq_true e1) hdg rfl h hR k
      · cases h
    · cases h
  case anewarray idx =>
    obtain rfl := of_decide_eq_true hck
    delta ai_step at h
    dsimp only at h
    split at h
    · rename_i n S'
      split at h
      · rename_i e1
        exact ai_anew_ok hx hb hts hown hK hAO hA hbud hwd (Nat.le_of_ble_eq_true e1) hdg rfl h hR k
      · cases h
    · cases h
  case invokevirtual idx =>
    delta ai_step at h
    dsimp only at h
    split at h
    · exact (ai_vcall_no h).elim
    · cases h
  case invokespecial idx =>
    obtain rfl := of_decide_eq_true hck
    delta ai_step at h
    dsimp only at h
    split at h
    · rename_i e1
      split at h
      · rename_i q S'
        split at h
        · rename_i e2
          have hf := ai_go_eq h
          subst hf
          obtain ⟨t, rfl, hq, g1⟩ := hR.stk.ref
          obtain ⟨w1, w2, w3⟩ := hwd (Nat.eq_of_beq_eq_true e1)
          have hw := ai_words_ok g1
          have e2 := Nat.le_of_ble_eq_true e2
          exact W.objInit hx hb hown (hts _ w1) (hts _ w2) (hts _ w3) (g := F0 m pc ls (.ref (ad q) :: t)) rfl (by show ls.size = c.maxLocals; rw [hls, hml]) rfl hdg (by omega) (by show 2 * 0 + _ + 12 ≤ _; omega) ((k _ List.mem_cons_self).st' hR g1)
        · cases h
      · cases h
    · split at h
      · exact (ai_icall_no h).elim
      · cases h
  case invokestatic idx =>
    obtain rfl := of_decide_eq_true hck
    delta ai_step at h
    dsimp only at h
    split at h
    · exact (ai_call_no h).elim
    · rename_i eb
      have ha : 1000 ≤ a := by
        by_cases q : a < 1000
        · have q2 : Nat.blt a 1000 = true := Nat.ble_eq_true_of_le q
          rw [q2] at eb; cases eb
        · omega
      split at h
      · rename_i er
        obtain ⟨r1, r2, r3⟩ := ai_room_ok er
        have hsz : c.maxLocals = ls.size := by rw [hls, hml]
        have hwS := ai_words_ok hR.stk
        have hrest : ∀ {v w : Value} {rest : List Value}, st = v :: w :: rest → (rest.map fun v => v.category).sum + 13 ≤ R.locals := fun {v w rest} e => by
          rw [e, List.map_cons, List.map_cons, List.sum_cons, List.sum_cons] at hwS
          omega
        have hrest1 : ∀ {v : Value} {rest : List Value}, st = v :: rest → (rest.map fun v => v.category).sum + 13 ≤ R.locals := fun {v rest} e => by
          rw [e, List.map_cons, List.sum_cons] at hwS
          omega
        split at h
        · rename_i ea
          obtain ⟨w1, w2, w3, w4⟩ := hwd.1 (by have : a - 1000 = 0 := ea; omega)
          exact ai_s2_ok (o := 11) (by decide) (fun x y rest e hw => va_mmax hx hb hsz hown (hts _ w1) (hts _ w2) (hts _ w3) (hts _ w4) (by omega) (hrest e) (by omega) (by omega) hdg hw) h hR k
        · rename_i ea
          obtain ⟨w1, w2, w3, w4⟩ := hwd.2.1 (by have : a - 1000 = 1 := ea; omega)
          exact ai_s2_ok (o := 12) (by decide) (fun x y rest e hw => va_mmin hx hb hsz hown (hts _ w1) (hts _ w2) (hts _ w3) (hts _ w4) (by omega) (hrest e) (by omega) (by omega) hdg (by rw [ai_min_eq]; exact hw)) h hR k
        · rename_i ea
          obtain ⟨w1, w2, w3, w4⟩ := hwd.2.2.1 (by have : a - 1000 = 2 := ea; omega)
          split at h
          · rename_i x S'
            obtain ⟨j, t, rfl, hy, ey, h1⟩ := hR.stk.int
            have hE := hR.env
            refine ai_s2_Z (st := .int 0 :: .int j :: t) (o := 13) (by decide) (fun x y' rest e hw => ?_) h (hR.st' ⟨⟨hE.2.1, 0, rfl, ?_⟩, ⟨hy, j, rfl, ey⟩, h1⟩) k
            · cases e
              exact va_mabs hx hb hsz hown (hts _ w1) (hts _ w2) (hts _ w3) (hts _ w4) (by omega) (hrest1 rfl) (by omega) (by omega) hdg hw
            · show (0 : Int) = r 0 + 0
              rw [hE.1]; rfl
          · cases h
        · rename_i ea
          obtain ⟨w1, w2, w3, w4⟩ := hwd.2.2.2.1 (by have : a - 1000 = 3 := ea; omega)
          split at h
          · rename_i x S'
            obtain ⟨j, t, rfl, hy, ey, h1⟩ := hR.stk.long
            have hE := hR.env
            refine ai_l2_Z (st := .long 0 :: .long j :: t) (o := 26) (by decide) (fun x y' rest e hw => ?_) h (hR.st' ⟨⟨hE.2.1, 0, rfl, ?_⟩, ⟨hy, j, rfl, ey⟩, h1⟩) k
            · cases e
              exact va_mabs_long hx hb hsz hown (hts _ w1) (hts _ w2) (hts _ w3) (hts _ w4) (by omega) (hrest1 rfl) (by omega) (by omega) hdg hw
            · show (0 : Int) = r 0 + 0
              rw [hE.1]; rfl
          · cases h
        · rename_i ea
          exact ai_copyx_ok hx hb hml hts hown hK (hwd.2.2.2.2 (by have : a - 1000 = 5 := ea; omega)) ⟨by omega, by omega⟩ r1 hdg h hR k
        · cases h
      · cases h
  case ireturn =>
    delta ai_step at h
    dsimp only at h
    split at h
    · split at h
      · split at h
        · exact (ai_fin_no h).elim
        · cases h
      · exact (ai_fin_no h).elim
    · cases h
  case lreturn =>
    delta ai_step at h
    dsimp only at h
    split at h
    · exact (ai_fin_no h).elim
    · cases h
  case areturn =>
    delta ai_step at h
    dsimp only at h
    split at h
    · exact (ai_fin_no h).elim
    · cases h
  case return_ =>
    delta ai_step at h
    dsimp only at h
    split at h
    · exact (ai_fin_no h).elim
    · cases h
  all_goals cases h
end SS
