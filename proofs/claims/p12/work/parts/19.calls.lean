/-! CALLS, RETURNS, THROWS -/
noncomputable def ai_Wd (D : va_G) (tyc : Nat → ClassId) (A : Nat → Prop) (sa : ai_B) (ws0 : va_W) (r : Nat → Int) (ad : Nat → Nat) (G : ai_G) (H : Heap) : Prop :=
  ∃ ws, va_P D vwCl ws H ∧ va_D A ws ∧ ai_gE r G.1 ∧ ai_gH tyc r ad G.1.1 ws0 G.2.1 ws ∧ ai_gO sa.2 r ad G.1.1 G.2.1 ∧ (∀ i, i < 10 → ad (i + 1) = sa.1 i)
noncomputable def ai_exn : Nat → String
  | 0 => "java/util/NoSuchElementException"
  | _ => "java/lang/IllegalArgumentException"
/-- where a method has come to, as one of the domain's ends has it -/
noncomputable def ai_At (D : va_G) (tyc : Nat → ClassId) (A : Nat → Prop) (sa : ai_B) (ws0 : va_W) (r0 : Nat → Int) (ad0 : Nat → Nat) (N0 n0 : Nat) (f : ai_R × ai_G) (P : (Nat → Int) → (Nat → Nat) → Prop) (st t : State) : Prop :=
  ∃ r' ad', ai_ext N0 r0 r' ∧ ai_ext n0 ad0 ad' ∧ N0 ≤ f.2.1.1 ∧ n0 ≤ f.2.2.1.1 ∧ ai_Wd D tyc A sa ws0 r' ad' f.2 t.heap ∧ va_F A st t ∧ P r' ad'
noncomputable def ai_gR' (r : Nat → Int) (ad : Nat → Nat) (N n : Nat) (x : Option ai_V) (v : Option Value) : Prop := match x with
  | none => v = none
  | some a => ∃ w, v = some w ∧ ai_gV r ad N n a w
noncomputable def ai_Qc (D : va_G) (tyc : Nat → ClassId) (A : Nat → Prop) (sa : ai_B) (ws0 : va_W) (r0 : Nat → Int) (ad0 : Nat → Nat) (N0 n0 : Nat) (outs : List (ai_R × ai_G)) : Array Value → State → Outcome → State → Prop := fun _ st o t =>
  ∃ f ∈ outs, ∃ x v, f.1 = .inr x ∧ o = .returned v ∧ ai_At D tyc A sa ws0 r0 ad0 N0 n0 f (fun r' ad' => ai_gR' r' ad' f.2.1.1 f.2.2.1.1 x v) st t
noncomputable def ai_XC (D : va_G) (tyc : Nat → ClassId) (A : Nat → Prop) (sa : ai_B) (ws0 : va_W) (r0 : Nat → Int) (ad0 : Nat → Nat) (N0 n0 : Nat) (outs : List (ai_R × ai_G)) : String → State → State → Prop := fun E st t =>
  ∃ f ∈ outs, ∃ e, f.1 = .inl e ∧ E = ai_exn e ∧ ai_At D tyc A sa ws0 r0 ad0 N0 n0 f (fun _ _ => True) st t
/-- what the ends of a method rest on -/
noncomputable def ai_we (Ts nws : List Cond) (own : String) (ret : Option FieldType) (cc : ByteArray) (tb : List (Nat × Nat × Nat × Nat)) (pc : Nat) (i : ClassFile.Instr) (len a b : Nat) : Prop := match i with
  | .ireturn => len = 1 ∧ (a = 2 → ret = some .boolean) ∧ (a ≠ 2 → ret = some .int)
  | .lreturn => len = 1 ∧ ret = some .long
  | .areturn => len = 1 ∧ ∃ rt, ret = some rt ∧ ((∃ n, rt = .object n) ∨ ∃ t, rt = .array t)
  | .return_ => len = 1 ∧ ret = none
  | .new ik => 2000 ≤ a → len = 3 ∧ tb = [] ∧ ∃ ic, decode cc (pc + 3) = .ok (.dup, 1) ∧ decode cc (pc + 4) = .ok (.invokespecial ic, 3) ∧ decode cc (pc + 7) = .ok (.athrow, 1) ∧
      Cond.classLink own ik (ai_exn (a - 2000)) ∈ Ts ∧ Cond.initialized (ai_exn (a - 2000)) ∈ Ts ∧ (∀ w ∈ vx_at0 own ic (ai_exn (a - 2000)) ["java/lang/RuntimeException", "java/lang/Exception"], w ∈ Ts ∨ w ∈ nws) ∧
      (∀ w ∈ Cond.classLink own ik (ai_exn (a - 2000)) :: Cond.initialized (ai_exn (a - 2000)) :: vx_at0 own ic (ai_exn (a - 2000)) ["java/lang/RuntimeException", "java/lang/Exception"], vx_ot w = true)
  | _ => True
theorem ai_make_no {bud : Nat × Nat} {d : ai_C} {n nx : Nat} {L S : List ai_V} {G : ai_G} {y : (Nat × List ai_V × List ai_V × Nat) ⊕ ai_R} (h : ai_make bud d n nx L S G = some (.inr y)) : False := by
  obtain ⟨E, hh, cs, sl⟩ := G
  unfold ai_make at h
  dsimp only at h
  split at h
  · cases h
  · cases h
section SC
variable {p : Program} {l : Launch} {e : Env} {R : Room} {s : State} {m : MethodId} {args : Array Value} {below : List Frame} {meth : Method} {c : Code} {Q : State → Prop}
variable {D : va_G} {tyc : Nat → ClassId} {A : Nat → Prop} {sa : ai_B} {ws0 : va_W} {nL : Nat} {cc : ByteArray} {own : String} {Ts : List Cond} {strs : List ai_Z} {nws : List Cond} {bud : Nat × Nat} {dflt : Nat → List ai_V} {kind : Nat → Nat → Nat}
variable {r r0 : Nat → Int} {ad ad0 : Nat → Nat} {L S : List ai_V} {G : ai_G} {H : Heap} {locs : List Loc} {ls : Array Slot} {st : List Value} {N0 n0 : Nat} {outs : List (ai_R × ai_G)} {tb : List (Nat × Nat × Nat × Nat)} {ret : Option FieldType}
theorem ai_Rel.wd (h : ai_Rel D tyc A s sa ws0 nL r ad L S G H locs ls st) : ai_Wd D tyc A sa ws0 r ad G H ∧ va_S A s.heap H locs ∧ ai_gL r ad G.1.1 G.2.1.1 nL L ls ∧ ai_gF r ad G.1.1 G.2.1.1 S st := by
  obtain ⟨ws, hP, hD, hS, hE, hH, hO, hsa, hL, hSt⟩ := h
  exact ⟨⟨ws, hP, hD, hE, hH, hO, hsa⟩, hS, hL, hSt⟩
theorem ai_Wd.rel (h : ai_Wd D tyc A sa ws0 r ad G H) (hS : va_S A s.heap H locs) (hL : ai_gL r ad G.1.1 G.2.1.1 nL L ls) (hSt : ai_gF r ad G.1.1 G.2.1.1 S st) : ai_Rel D tyc A s sa ws0 nL r ad L S G H locs ls st := by
  obtain ⟨ws, hP, hD, hE, hH, hO, hsa⟩ := h
  exact ⟨ws, hP, hD, hS, hE, hH, hO, hsa, hL, hSt⟩
theorem ai_Wd.kept {H1 : Heap} (h : ai_Wd D tyc A sa ws0 r ad G H) (hq : ∀ q : Nat, q < H.size → H1[q]? = H[q]?) : ai_Wd D tyc A sa ws0 r ad G H1 := by
  obtain ⟨ws, hP, hD, hE, hH, hO, hsa⟩ := h
  exact ⟨ws, hP.kept (fun k q hk => hq _ (vx_lt hP hk)), hD, hE, hH, hO, hsa⟩
/-- a method comes to its end -/
theorem ai_end_ok {pc len a b : Nat} {i : ClassFile.Instr} {x : ai_R} {mc ms : Nat} (F : ai_Fr p R s m args meth c D tyc A sa nL cc own Ts strs nws bud dflt kind) (hl : l.stackTraces = false) (hret : meth.sig.returnType = ret) (htb : tb = [] → ∀ x ∈ c.exceptionTable.toList, False) (hwe : ai_we Ts nws own ret cc tb pc i len a b) (hnw : ∀ w ∈ nws, w.onTables = true) (hdg : decode cc pc = .ok (i, len)) (hen : ai_ends i = true)
    (h : ai_step i bud dflt kind pc (pc + len) a b L S G = some (.inr (.inr x))) (hR : ai_Rel D tyc A s sa ws0 nL r ad L S G H locs ls st) (ho : (x, G) ∈ outs) (h1 : ai_ext N0 r0 r) (h2 : ai_ext n0 ad0 ad) (h3 : N0 ≤ G.1.1) (h4 : n0 ≤ G.2.1.1) (hm : bud.1 ≤ mc ∧ bud.2 ≤ ms) :
    W p l e R s m args below meth c H locs G.2.2.1 G.2.2.2 (vx_MQ below (ai_Qc D tyc A sa ws0 r0 ad0 N0 n0 outs) (ai_XC D tyc A sa ws0 r0 ad0 N0 n0 outs) args s mc ms A) (F0 m pc ls st) := by
  obtain ⟨hx, hb, hml, hts, hown, hSt0, hA, hbud, hcls, hroom, hlocks⟩ := F
  obtain ⟨hWd, hS, hL, hSt⟩ := hR.wd
  have hfree : ∀ q ∈ locs, A q.base := hS.2.2
  have done : ∀ {y : Option ai_V} {v : Option Value}, x = .inr y → ai_gR' r ad G.1.1 G.2.1.1 y v → ∀ t : State, t.heap = H → s.WarmedH t.vm → ai_Qc D tyc A sa ws0 r0 ad0 N0 n0 outs args s (.returned v) t := fun {y v} e g t ht hw =>
    ⟨(x, G), ho, y, v, e, rfl, r, ad, h1, h2, h3, h4, by rw [ht]; exact hWd, hS.F ht, g⟩
  cases i
  case ireturn =>
    obtain ⟨rfl, w1, w2⟩ := hwe
    delta ai_step at h
    dsimp only at h
    split at h
    · rename_i z
      obtain ⟨ix, t, rfl, i1, i2, i3⟩ := ai_gF.int hSt
      have ht : t = [] := by
        cases t with
        | nil => rfl
        | cons w t => exact i3.elim
      subst ht
      split at h
      · split at h
        · rename_i eb
          obtain ⟨rfl, c1, c2⟩ := ai_fin_ok h
          have hE : ai_gE r G.1 := hR.env
          rcases ai_bit_ok hE i1 eb i2 with hz | hz
          · refine W.widen (by omega) (by omega) (vx_ret (W.zret hx hb (hret.trans (w1 rfl)) (by rw [hz]; rfl) (done rfl ⟨_, rfl, i1, _, rfl, i2⟩) hfree hdg hlocks))
          · refine W.widen (by omega) (by omega) (vx_ret (W.zret hx hb (hret.trans (w1 rfl)) (by rw [hz]; rfl) (done rfl ⟨_, rfl, i1, _, rfl, i2⟩) hfree hdg hlocks))
        · cases h
      · rename_i ne
        obtain ⟨rfl, c1, c2⟩ := ai_fin_ok h
        exact W.widen (by omega) (by omega) (vx_ret (W.iret hx hb (hret.trans (w2 (fun q => ne q))) (done rfl ⟨_, rfl, i1, _, rfl, i2⟩) hfree hdg hlocks))
    · cases h
  case lreturn =>
    obtain ⟨rfl, w1⟩ := hwe
    delta ai_step at h
    dsimp only at h
    split at h
    · rename_i z
      obtain ⟨ix, t, rfl, i1, i2, i3⟩ := ai_gF.long hSt
      have ht : t = [] := by
        cases t with
        | nil => rfl
        | cons w t => exact i3.elim
      subst ht
      obtain ⟨rfl, c1, c2⟩ := ai_fin_ok h
      exact W.widen (by omega) (by omega) (vx_ret (W.lret hx hb (hret.trans w1) (done rfl ⟨_, rfl, i1, _, rfl, i2⟩) hfree hdg hlocks))
    · cases h
  case areturn =>
    obtain ⟨rfl, rt, w1, w2⟩ := hwe
    delta ai_step at h
    dsimp only at h
    split at h
    · rename_i z
      obtain ⟨t, rfl, i1, i3⟩ := ai_gF.ref hSt
      have ht : t = [] := by
        cases t with
        | nil => rfl
        | cons w t => exact i3.elim
      subst ht
      obtain ⟨rfl, c1, c2⟩ := ai_fin_ok h
      exact W.widen (by omega) (by omega) (vx_ret (W.aret hx hb (hret.trans w1) w2 (Or.inr ⟨_, rfl⟩) (done rfl ⟨_, rfl, i1, rfl⟩) hfree hdg hlocks))
    · cases h
  case return_ =>
    obtain ⟨rfl, w1⟩ := hwe
    delta ai_step at h
    dsimp only at h
    split at h
    · have ht : st = [] := by
        cases st with
        | nil => rfl
        | cons w t => exact hSt.elim
      subst ht
      obtain ⟨rfl, c1, c2⟩ := ai_fin_ok h
      exact W.widen (by omega) (by omega) (vx_ret (W.vret hx hb (hret.trans w1) (done rfl rfl) hfree hdg hlocks))
    · cases h
  case new ik =>
    delta ai_step at h
    dsimp only at h
    split at h
    · rename_i e1
      obtain ⟨rfl, etb, ic, d3, d4, d7, k1, k2, k3, k4⟩ := hwe (Nat.le_of_ble_eq_true e1)
      split at h
      · obtain ⟨E, hh, cs, sl⟩ := G
        dsimp only at h
        split at h
        · rename_i e2 e3
          have e2 := Nat.le_of_ble_eq_true e2
          have e3 := Nat.le_of_ble_eq_true e3
          cases h
          have ht : st = [] := by
            cases st with
            | nil => rfl
            | cons w t => exact hSt.elim
          subst ht
          refine vx_throw0 (names := ["java/lang/RuntimeException", "java/lang/Exception"]) (A := A) hx hb hl hown (by have := Nat.sub a 2000; unfold ai_exn; split <;> decide) (by decide) (hts _ k1) (hts _ k2) (fun w hw => (k3 w hw).elim (fun q => hts _ q) (fun q => va_Nw.use (hnw w q) (hSt0.2.2.2.2.2.2.1 w q))) k4 hSt0.2.2.2.2.2.2.2.1 hSt0.2.2.2.2.2.2.2.2.1 hS (by rw [hL.2.1, hml]) hdg d3 d4 d7 (fun x hx => (htb etb x hx).elim) (by show 2 + 3 < R.frames; omega) (by show 0 + (13 * (2 + 1) + 42) ≤ R.locals; omega) (by show cs + 1 ≤ R.cells; omega) (by show sl + 6 ≤ R.slots; omega) hlocks ?_ hfree (by show cs + 1 ≤ mc; omega) (by show sl + 6 ≤ ms; omega)
          intro t hal hsz hk
          refine ⟨_, ho, _, rfl, rfl, r, ad, h1, h2, h3, h4, hWd.kept hk, ⟨Nat.le_trans hS.1 hsz, fun q g1 g2 => ?_⟩, trivial⟩
          rw [hk q (Nat.lt_of_lt_of_le g1 hS.1)]
          exact hS.2.1 q g1 g2
        · cases h
      · cases h
    · exact (ai_make_no h).elim
  all_goals cases hen
end SC
