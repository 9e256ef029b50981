/-! METHODS, BY DEPTH OF CALLS -/
noncomputable def ai_rows (t : Option (List (Nat × Nat × Nat × Nat))) : List ExceptionTableEntry := match t with
  | none => []
  | some hh => tableOf hh
noncomputable def ai_rmd (cbud : Nat → Nat × Nat) (d mi : Nat) : Room := { frames := d + 8, cells := (cbud mi).1, slots := (cbud mi).2, locals := 64 * d + 400 }
/-- what the tables say of a method, and of its code -/
noncomputable def ai_Pm (Wg nws : List Cond) (strs : List ai_Z) (mt : Nat → ai_MT) (cbud : Nat → Nat × Nat) (mi nl : Nat) (code : Nat → Option (ClassFile.Instr × Nat × Nat × Nat)) (hand : Nat → Nat → Option (Nat × Nat)) (bud : Nat × Nat) (ann : Nat → Option ai_A) : Prop :=
  nl = (mt mi).2.2.1 ∧ bud = cbud mi ∧ ai_mok Wg (mt mi) ∧ ai_tab Wg nws strs mt (mt mi).1.cls (decide ((mt mi).1.name = "<init>")) (mt mi).2.2.2.1 (mt mi).2.1 ((mt mi).2.2.2.2.1.getD []) code ∧
  ∀ pc z, match hand pc z with
    | none => ∀ x ∈ ai_rows (mt mi).2.2.2.2.1, covers x pc = false
    | some (k, pcn) => (code pcn = none ∧ ann pcn = none) ∨ ai_hk Wg nws (mt mi).1.cls nl (mt mi).2.1 (ai_rows (mt mi).2.2.2.2.1) pc z k pcn
theorem ai_pad_ok {r : Nat → Int} {ad : Nat → Nat} {N n : Nat} : ∀ {nl : Nat} {aa L : List ai_V} {As : List Value}, ai_pad nl aa = some L → ai_gF r ad N n aa As → L.length = nl ∧ As.length ≤ nl ∧ (∀ v ∈ As, v.category = 1) ∧ ∀ i, ai_lget L i ≠ .inr (.inr none) → ∃ v, As[i]? = some v ∧ ai_gV r ad N n (ai_lget L i) v
  | 0, [], L, As, h, hA => by
    cases h
    cases As with
    | nil => exact ⟨rfl, Nat.le_refl _, fun v hv => (by cases hv), fun i hi => absurd rfl hi⟩
    | cons v t => exact hA.elim
  | 0, _ :: _, _, _, h, _ => by cases h
  | nl + 1, [], L, As, h, hA => by
    unfold ai_pad at h
    split at h
    · rename_i l e
      cases h
      obtain ⟨g1, g2, g3, g4⟩ := ai_pad_ok (As := As) e hA
      cases As with
      | cons v t => exact hA.elim
      | nil => exact ⟨congrArg Nat.succ g1, Nat.zero_le _, fun v hv => (by cases hv), fun i hi => by
        cases i with
        | zero => exact absurd rfl hi
        | succ i =>
          obtain ⟨v, k1, -⟩ := g4 i hi
          cases k1⟩
    · cases h
  | nl + 1, a :: aa, L, As, h, hA => by
    unfold ai_pad at h
    split at h
    · rename_i l e e1
      cases h
      obtain ⟨v, t, rfl, f1, f2⟩ := hA.cons
      obtain ⟨g1, g2, g3, g4⟩ := ai_pad_ok e f2
      refine ⟨congrArg Nat.succ g1, Nat.succ_le_succ g2, fun w hw => ?_, fun i hi => ?_⟩
      · rcases List.mem_cons.mp hw with rfl | hw
        · exact f1.cat.1 e1
        · exact g3 w hw
      · cases i with
        | zero => exact ⟨v, rfl, f1⟩
        | succ i =>
          obtain ⟨w, k1, k2⟩ := g4 i hi
          exact ⟨w, by rw [List.getElem?_cons_succ]; exact k1, k2⟩
    · cases h
theorem ai_args_ok : ∀ {As : List Value} {k i : Nat} {v : Value}, (∀ v ∈ As, v.category = 1) → As[i]? = some v → (k + i, v) ∈ lv_args k As
  | [], _, _, _, _, h => by cases h
  | w :: As, k, 0, v, hc, h => by
    cases h
    exact List.mem_cons_self
  | w :: As, k, i + 1, v, hc, h => by
    have h1 : w.category = 1 := hc _ List.mem_cons_self
    unfold lv_args
    rw [if_neg (by omega)]
    have := ai_args_ok (As := As) (k := k + 1) (i := i) (v := v) (fun u hu => hc u (List.mem_cons_of_mem _ hu)) (by rw [List.getElem?_cons_succ] at h; exact h)
    rw [show k + (i + 1) = k + 1 + i by omega]
    exact List.mem_cons_of_mem _ this
theorem ai_sl_len : ∀ {As : List Value}, (∀ v ∈ As, v.category = 1) → (lg_sl As).length = As.length
  | [], _ => rfl
  | w :: As, hc => by
    have h1 : w.category = 1 := hc _ List.mem_cons_self
    have ih := ai_sl_len (As := As) (fun u hu => hc u (List.mem_cons_of_mem _ hu))
    have e : lg_sl (w :: As) = [.val w] ++ lg_sl As := by
      unfold lg_sl
      rw [List.flatMap_cons, if_neg (by omega)]
    rw [e, List.length_append, ih]
    show 1 + As.length = As.length + 1
    omega
theorem ai_entry_ok {r : Nat → Int} {ad : Nat → Nat} {N n nl : Nat} {aa L : List ai_V} {As : List Value} (h : ai_pad nl aa = some L) (hA : ai_gF r ad N n aa As) : ai_gL r ad N n nl L ((lg_sl As ++ List.replicate (nl - (lg_sl As).length) Slot.unset).toArray) := by
  obtain ⟨g1, g2, g3, g4⟩ := ai_pad_ok h hA
  have hv := lv_entry As (n := nl) (by rw [ai_sl_len g3]; exact g2)
  refine ⟨g1, hv.1, hv.2.1, fun i hi => ?_⟩
  obtain ⟨v, k1, k2⟩ := g4 i hi
  have := hv.2.2 _ (ai_args_ok (k := 0) g3 k1)
  rw [Nat.zero_add] at this
  exact ⟨v, this, k2⟩
