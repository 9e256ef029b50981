/-! WHAT THE TABLES SAY, CHECKED BY EVALUATION -/
noncomputable def ft_mem (w : Cond) : List Cond → Bool
  | [] => false
  | u :: l => match ft_eq w u with
    | true => true
    | false => ft_mem w l
theorem ft_mem_ok {w : Cond} : ∀ {l : List Cond}, ft_mem w l = true → w ∈ l
  | [], h => by cases h
  | u :: l, h => by
    unfold ft_mem at h
    split at h
    · rename_i e
      rw [ft_eq_ok e]
      exact List.mem_cons_self
    · exact List.mem_cons_of_mem _ (ft_mem_ok h)
/-- the tables' words, in parts -/
noncomputable def ft_ls : List (List Cond) := [k2_sels lw_privs, tables_1_1, tables_1_2, tables_1_3, tables_1_4, tables_1_5, tables_1_6, tables_1_7, tables_1_8, tables_1_9, tables_1_10]
noncomputable def ft_cat : List (List Cond) → List Cond
  | [] => []
  | [l] => l
  | l :: l' :: ls => l ++ ft_cat (l' :: ls)
theorem ft_cat_ok {w : Cond} : ∀ {ls : List (List Cond)} {l : List Cond}, l ∈ ls → w ∈ l → w ∈ ft_cat ls
  | [], l, h, _ => by cases h
  | [l], l', h, hw => by
    rcases List.mem_cons.mp h with rfl | h
    · exact hw
    · cases h
  | l :: l' :: ls, l2, h, hw => by
    show w ∈ l ++ ft_cat (l' :: ls)
    rcases List.mem_cons.mp h with rfl | h
    · exact List.mem_append_left _ hw
    · exact List.mem_append_right _ (ft_cat_ok h hw)
theorem ft_ls_eq : ft_cat ft_ls = lw_tbl := rfl
/-- words out of a part, by the gaps between them -/
noncomputable def ft_pk (rest l : List Cond) : Nat → List Nat → List Cond := List.rec (motive := fun _ => Nat → List Nat → List Cond) (fun _ _ => rest) (fun w _ ih g gs => Nat.rec (motive := fun _ => List Cond) (w :: List.rec (motive := fun _ => List Cond) rest (fun g' gs' _ => ih g' gs') gs) (fun g' _ => ih g' gs) g) l
theorem ft_pk_ok {P : Cond → Prop} {rest : List Cond} (hr : ∀ w ∈ rest, P w) {l : List Cond} (hl : ∀ w ∈ l, P w) : ∀ (g : Nat) (gs : List Nat), ∀ w ∈ ft_pk rest l g gs, P w := by
  induction l with
  | nil => exact fun _ _ => hr
  | cons u l ih =>
    have ih := ih (fun w hw => hl w (List.mem_cons_of_mem _ hw))
    intro g gs w hw
    cases g with
    | zero =>
      cases gs with
      | nil =>
        have hw : w ∈ u :: rest := hw
        rcases List.mem_cons.mp hw with rfl | hw
        · exact hl _ List.mem_cons_self
        · exact hr w hw
      | cons g' gs' =>
        have hw : w ∈ u :: ft_pk rest l g' gs' := hw
        rcases List.mem_cons.mp hw with rfl | hw
        · exact hl _ List.mem_cons_self
        · exact ih g' gs' w hw
    | succ g => exact ih g gs w hw
noncomputable def ft_pick (gss : List (List Nat)) : List (List Cond) → List Cond := List.rec (motive := fun _ => List (List Cond) → List Cond) (fun _ => []) (fun gs _ ih ls => List.rec (motive := fun _ => List Cond) [] (fun l ls' _ => List.rec (motive := fun _ => List Cond) (ih ls') (fun g gs' _ => ft_pk (ih ls') l g gs') gs) ls) gss
theorem ft_pick_ok' {P : Cond → Prop} {gss : List (List Nat)} : ∀ {ls : List (List Cond)}, (∀ l ∈ ls, ∀ w ∈ l, P w) → ∀ w ∈ ft_pick gss ls, P w := by
  induction gss with
  | nil => exact fun _ w hw => absurd hw List.not_mem_nil
  | cons gs gss ih =>
    intro ls h w hw
    cases ls with
    | nil => exact absurd hw List.not_mem_nil
    | cons l ls =>
      have hr : ∀ w ∈ ft_pick gss ls, P w := ih (fun l' hl' => h l' (List.mem_cons_of_mem _ hl'))
      cases gs with
      | nil => exact hr w hw
      | cons g gs => exact ft_pk_ok hr (h l List.mem_cons_self) g gs w hw
theorem ft_pick_ok {w : Cond} {gss : List (List Nat)} (h : w ∈ ft_pick gss ft_ls) : w ∈ lw_tbl := ft_pick_ok' (P := fun w => w ∈ lw_tbl) (fun _ hl _ hw => by rw [← ft_ls_eq]; exact ft_cat_ok hl hw) w h
noncomputable def ft_W : List Cond := lw_tbl.filter goodWord
noncomputable def ft_N : List Cond := lw_tbl.filter ai_nk
noncomputable def ft_good (uw : List Cond) (w : Cond) : Bool := match goodWord w with
  | true => ft_mem w uw
  | false => false
noncomputable def ft_nk (uw : List Cond) (w : Cond) : Bool := match ai_nk w with
  | true => ft_mem w uw
  | false => false
theorem ft_good_ok {uw : List Cond} (hu : ∀ u ∈ uw, u ∈ lw_tbl) {w : Cond} (h : ft_good uw w = true) : w ∈ ft_W := by
  unfold ft_good at h
  split at h
  · rename_i e
    exact List.mem_filter.mpr ⟨hu _ (ft_mem_ok h), e⟩
  · cases h
theorem ft_nk_ok {uw : List Cond} (hu : ∀ u ∈ uw, u ∈ lw_tbl) {w : Cond} (h : ft_nk uw w = true) : w ∈ ft_N := by
  unfold ft_nk at h
  split at h
  · rename_i e
    exact List.mem_filter.mpr ⟨hu _ (ft_mem_ok h), e⟩
  · cases h
noncomputable def ft_all (uw ws : List Cond) : Bool := ws.all (ft_good uw)
theorem ft_all_ok {uw ws : List Cond} (hu : ∀ u ∈ uw, u ∈ lw_tbl) (h : ft_all uw ws = true) : ∀ w ∈ ws, w ∈ ft_W := fun w hw => ft_good_ok hu (List.all_eq_true.mp h w hw)
noncomputable def ft_fld (uw : List Cond) (own : String) (idx ci j : Nat) : Bool := match vwCl[ci]? with
  | some (_, T, N) => match Nat.blt j N with
    | true => ft_good uw (Cond.fieldLink own idx (T j).1 (T j).2.1 (T j).2.2.1)
    | false => false
  | none => false
theorem ft_fld_ok {uw : List Cond} (hu : ∀ u ∈ uw, u ∈ lw_tbl) {own : String} {idx ci j : Nat} (h : ft_fld uw own idx ci j = true) : ai_fld ft_W own idx ci j := by
  unfold ft_fld at h
  split at h
  · rename_i C T N e
    have hci : ci < 13 := (List.getElem?_eq_some_iff.mp e).1
    split at h
    · rename_i ej
      refine ⟨hci, fun C' T' N' e' => ?_⟩
      rw [e] at e'
      cases e'
      exact ⟨Nat.le_of_ble_eq_true ej, ft_good_ok hu h⟩
    · cases h
  · cases h
noncomputable def ft_put (own : String) (ini : Bool) (a b : Nat) : Bool := match vwCl[a]? with
  | some (_, T, _) => match (T b).2.2.2 with
    | true => ini && decide ((T b).1 = own)
    | false => true
  | none => false
theorem ft_put_ok {own : String} {ini : Bool} {a b : Nat} (h : ft_put own ini a b = true) : ∀ C T N, vwCl[a]? = some (C, T, N) → (T b).2.2.2 = true → ini = true ∧ (T b).1 = own := by
  intro C T N e hf
  unfold ft_put at h
  rw [e] at h
  dsimp only at h
  rw [hf] at h
  dsimp only at h
  rw [Bool.and_eq_true] at h
  exact ⟨h.1, of_decide_eq_true h.2⟩
noncomputable def ft_new (uw : List Cond) (own : String) (idx a : Nat) : Bool := match vwCl[a]? with
  | some (C, _, _) => ft_good uw (Cond.classLink own idx C)
  | none => false
theorem ft_new_ok {uw : List Cond} (hu : ∀ u ∈ uw, u ∈ lw_tbl) {own : String} {idx a : Nat} (h : ft_new uw own idx a = true) : a < 13 ∧ ∀ C T N, vwCl[a]? = some (C, T, N) → Cond.classLink own idx C ∈ ft_W := by
  unfold ft_new at h
  split at h
  · rename_i C T N e
    refine ⟨(List.getElem?_eq_some_iff.mp e).1, fun C' T' N' e' => ?_⟩
    rw [e] at e'
    cases e'
    exact ft_good_ok hu h
  · cases h
abbrev ft_ex : List String := ["java/lang/RuntimeException", "java/lang/Exception"]
/-- a throw: 'new' of an exception, dup, its constructor, athrow -/
noncomputable def ft_thr (uw : List Cond) (own : String) (cc : ByteArray) (tb : List (Nat × Nat × Nat × Nat)) (pc ik len x ic : Nat) : Bool :=
  decide (len = 3) && (tb.isEmpty && (decide (decode cc (pc + 3) = .ok (.dup, 1)) && (decide (decode cc (pc + 4) = .ok (.invokespecial ic, 3)) && (decide (decode cc (pc + 7) = .ok (.athrow, 1)) &&
  (ft_good uw (Cond.classLink own ik (ai_exn x)) && (ft_good uw (Cond.initialized (ai_exn x)) && ((vx_at0 own ic (ai_exn x) ft_ex).all (fun w => ft_good uw w || ft_nk uw w) &&
  (Cond.classLink own ik (ai_exn x) :: Cond.initialized (ai_exn x) :: vx_at0 own ic (ai_exn x) ft_ex).all vx_ot)))))))
noncomputable def ft_str (strs : List ai_Z) (own : String) (idx b : Nat) : Bool := match strs with
  | [] => false
  | (o, k, _, n) :: l => match decide (o = own) && (Nat.beq k idx && (Nat.beq (n + 1) b && Nat.ble b 10)) with
    | true => true
    | false => ft_str l own idx b
theorem ft_str_ok {own : String} {idx b : Nat} : ∀ {strs : List ai_Z}, ft_str strs own idx b = true → ∃ tx, (1 ≤ b ∧ b ≤ 10) ∧ (own, idx, tx, b - 1) ∈ strs
  | [], h => by cases h
  | (o, k, t, n) :: l, h => by
    unfold ft_str at h
    split at h
    · rename_i e
      simp only [Bool.and_eq_true, decide_eq_true_eq] at e
      obtain ⟨e1, e2, e3, e4⟩ := e
      have e2 := Nat.eq_of_beq_eq_true e2
      have e3 := Nat.eq_of_beq_eq_true e3
      have e4 := Nat.le_of_ble_eq_true e4
      subst e1; subst e2; subst e3
      exact ⟨t, ⟨by omega, e4⟩, List.mem_cons_self⟩
    · obtain ⟨tx, g1, g2⟩ := ft_str_ok h
      exact ⟨tx, g1, List.mem_cons_of_mem _ g2⟩
noncomputable def ft_wd (uw : List Cond) (strs : List ai_Z) (own : String) (ini : Bool) (i : ClassFile.Instr) (a b : Nat) : Bool := match i with
  | .ldc idx => match Nat.beq a 0 with
    | true => ft_good uw (Cond.constant own idx (Int32.ofInt (Int.ofNat b - 2147483648)))
    | false => ft_str strs own idx b
  | .ldc_w idx => match Nat.beq a 0 with
    | true => ft_good uw (Cond.constant own idx (Int32.ofInt (Int.ofNat b - 2147483648)))
    | false => ft_str strs own idx b
  | .getfield idx => ft_fld uw own idx a b
  | .putfield idx => ft_fld uw own idx a b && ft_put own ini a b
  | .new idx => match Nat.blt a 2000 with
    | true => ft_new uw own idx a
    | false => true
  | .newarray at' => decide (newarray.typeOf at' = ai_tyOf a ∧ (a = 0 ∨ a = 1 ∨ a = 2)) && ft_good uw (Cond.arrayClass (ai_tyOf a))
  | .anewarray idx => match Nat.beq a 4 with
    | true => ft_good uw (Cond.classLink own idx RX4)
    | false => Nat.beq a 5 && ft_good uw (Cond.classLink own idx "java/lang/String")
  | .multianewarray idx _ => ft_all uw [Cond.classLink own idx "[[I", Cond.arrayClass .int]
  | .invokespecial idx => match Nat.beq a 1004 with
    | true => ft_all uw [Cond.methodLink own idx Lib.objectInit, Cond.instanceMethod Lib.objectInit, Cond.code Lib.objectInit ⟨#[0xb1]⟩ 1 none]
    | false => true
  | .invokestatic idx => match Nat.blt a 1000 with
    | true => true
    | false => match Nat.sub a 1000 with
      | 0 => ft_all uw [Cond.methodLink own idx Lib.Math.max.name, Cond.static Lib.Math.max.name, Cond.initialized "java/lang/Math", Cond.code Lib.Math.max.name Lib.Math.max.code 2 (some .int)]
      | 1 => ft_all uw [Cond.methodLink own idx Lib.Math.min.name, Cond.static Lib.Math.min.name, Cond.initialized "java/lang/Math", Cond.code Lib.Math.min.name Lib.Math.min.code 2 (some .int)]
      | 2 => ft_all uw [Cond.methodLink own idx Lib.Math.abs.name, Cond.static Lib.Math.abs.name, Cond.initialized "java/lang/Math", Cond.code Lib.Math.abs.name Lib.Math.abs.code 1 (some .int)]
      | 3 => ft_all uw [Cond.methodLink own idx Lib.MathLoose.abs_long.x, Cond.static Lib.MathLoose.abs_long.x, Cond.initialized "java/lang/Math", Cond.code Lib.MathLoose.abs_long.x Lib.MathLoose.abs_long.code 2 (some .long)]
      | 5 => ft_all uw [Cond.methodLink own idx arraycopyName, Cond.native arraycopyName, Cond.static arraycopyName, Cond.initialized "java/lang/System"]
      | _ => false
  | _ => true
theorem ft_wd_ok {uw : List Cond} {strs : List ai_Z} {own : String} {ini : Bool} {i : ClassFile.Instr} {a b : Nat} (hu : ∀ u ∈ uw, u ∈ lw_tbl) (h : ft_wd uw strs own ini i a b = true) : ai_wd ft_W strs own ini i a b := by
  have K : ∀ {ws : List Cond}, ft_all uw ws = true → ∀ w ∈ ws, w ∈ ft_W := fun g => ft_all_ok hu g
  cases i
  case ldc idx =>
    unfold ft_wd at h
    refine ⟨fun q => ?_, fun q => ?_⟩
    · subst q
      exact ft_good_ok hu h
    · have e : Nat.beq a 0 = false := by
        cases e : Nat.beq a 0 with
        | false => rfl
        | true => exact absurd (Nat.eq_of_beq_eq_true e) q
      dsimp only at h
      rw [e] at h
      exact ft_str_ok h
  case ldc_w idx =>
    unfold ft_wd at h
    refine ⟨fun q => ?_, fun q => ?_⟩
    · subst q
      exact ft_good_ok hu h
    · have e : Nat.beq a 0 = false := by
        cases e : Nat.beq a 0 with
        | false => rfl
        | true => exact absurd (Nat.eq_of_beq_eq_true e) q
      dsimp only at h
      rw [e] at h
      exact ft_str_ok h
  case getfield idx => exact ft_fld_ok hu h
  case putfield idx =>
    have h := (Bool.and_eq_true _ _).mp h
    exact ⟨ft_fld_ok hu h.1, ft_put_ok h.2⟩
  case new idx =>
    intro q
    unfold ft_wd at h
    dsimp only at h
    rw [show Nat.blt a 2000 = true from Nat.ble_eq_true_of_le q] at h
    exact ft_new_ok hu h
  case newarray at' =>
    have h := (Bool.and_eq_true _ _).mp h
    have h1 := of_decide_eq_true h.1
    exact ⟨h1.1, h1.2, ft_good_ok hu h.2⟩
  case anewarray idx =>
    unfold ft_wd at h
    dsimp only at h
    split at h
    · rename_i e
      exact Or.inl ⟨Nat.eq_of_beq_eq_true e, ft_good_ok hu h⟩
    · have h := (Bool.and_eq_true _ _).mp h
      exact Or.inr ⟨Nat.eq_of_beq_eq_true h.1, ft_good_ok hu h.2⟩
  case multianewarray idx _ =>
    have h := K h
    exact ⟨h _ List.mem_cons_self, h _ (List.mem_cons_of_mem _ List.mem_cons_self)⟩
  case invokespecial idx =>
    intro q
    subst q
    have h := K (show ft_all uw [Cond.methodLink own idx Lib.objectInit, Cond.instanceMethod Lib.objectInit, Cond.code Lib.objectInit ⟨#[0xb1]⟩ 1 none] = true from h)
    exact ⟨h _ List.mem_cons_self, h _ (List.mem_cons_of_mem _ List.mem_cons_self), h _ (List.mem_cons_of_mem _ (List.mem_cons_of_mem _ List.mem_cons_self))⟩
  case invokestatic idx =>
    have four : ∀ {w1 w2 w3 w4 : Cond}, ft_all uw [w1, w2, w3, w4] = true → w1 ∈ ft_W ∧ w2 ∈ ft_W ∧ w3 ∈ ft_W ∧ w4 ∈ ft_W := fun g => by
      have h := K g
      exact ⟨h _ List.mem_cons_self, h _ (List.mem_cons_of_mem _ List.mem_cons_self), h _ (List.mem_cons_of_mem _ (List.mem_cons_of_mem _ List.mem_cons_self)), h _ (List.mem_cons_of_mem _ (List.mem_cons_of_mem _ (List.mem_cons_of_mem _ List.mem_cons_self)))⟩
    refine ⟨fun q => ?_, fun q => ?_, fun q => ?_, fun q => ?_, fun q => ?_⟩
    · subst q; exact four h
    · subst q; exact four h
    · subst q; exact four h
    · subst q; exact four h
    · subst q; exact four h
  all_goals exact trivial
noncomputable def ft_we (uw : List Cond) (own : String) (ret : Option FieldType) (cc : ByteArray) (tb : List (Nat × Nat × Nat × Nat)) (pc : Nat) (i : ClassFile.Instr) (len a b : Nat) : Bool := match i with
  | .ireturn => decide (len = 1) && (match Nat.beq a 2 with
    | true => decide (ret = some .boolean)
    | false => decide (ret = some .int))
  | .lreturn => decide (len = 1 ∧ ret = some .long)
  | .areturn => decide (len = 1) && (match ret with
    | some (.object _) => true
    | some (.array _) => true
    | _ => false)
  | .return_ => decide (len = 1 ∧ ret = none)
  | .new ik => match Nat.ble 2000 a with
    | true => ft_thr uw own cc tb pc ik len (a - 2000) b
    | false => true
  | _ => true
theorem ft_we_ok {uw : List Cond} {own : String} {ret : Option FieldType} {cc : ByteArray} {tb : List (Nat × Nat × Nat × Nat)} {pc : Nat} {i : ClassFile.Instr} {len a b : Nat} (hu : ∀ u ∈ uw, u ∈ lw_tbl) (h : ft_we uw own ret cc tb pc i len a b = true) : ai_we ft_W ft_N own ret cc tb pc i len a b := by
  cases i
  case ireturn =>
    have h := (Bool.and_eq_true _ _).mp h
    refine ⟨of_decide_eq_true h.1, fun q => ?_, fun q => ?_⟩
    · subst q; exact of_decide_eq_true h.2
    · have e : Nat.beq a 2 = false := by
        cases e : Nat.beq a 2 with
        | false => rfl
        | true => exact absurd (Nat.eq_of_beq_eq_true e) q
      have h2 := h.2
      rw [e] at h2
      exact of_decide_eq_true h2
  case lreturn =>
    have h : decide (len = 1 ∧ ret = some .long) = true := h
    have h := of_decide_eq_true h
    exact h
  case areturn =>
    have h := (Bool.and_eq_true _ _).mp h
    refine ⟨of_decide_eq_true h.1, ?_⟩
    have h2 := h.2
    split at h2
    · exact ⟨_, rfl, Or.inl ⟨_, rfl⟩⟩
    · exact ⟨_, rfl, Or.inr ⟨_, rfl⟩⟩
    · cases h2
  case return_ =>
    have h : decide (len = 1 ∧ ret = none) = true := h
    have h := of_decide_eq_true h
    exact h
  case new ik =>
    intro q
    unfold ft_we at h
    dsimp only at h
    rw [show Nat.ble 2000 a = true from Nat.ble_eq_true_of_le q] at h
    dsimp only at h
    unfold ft_thr at h
    simp only [Bool.and_eq_true, decide_eq_true_eq] at h
    obtain ⟨h1, h2, h3, h4, h5, h6, h7, h8, h9⟩ := h
    refine ⟨h1, List.isEmpty_iff.mp h2, b, h3, h4, h5, ft_good_ok hu h6, ft_good_ok hu h7, fun w hw => ?_, fun w hw => List.all_eq_true.mp h9 w hw⟩
    have := List.all_eq_true.mp h8 w hw
    rw [Bool.or_eq_true] at this
    exact this.imp (ft_good_ok hu) (ft_nk_ok hu)
  all_goals exact trivial
noncomputable def ft_link (uw : List Cond) (own : String) (idx : Nat) (y : MethodName) : Bool := ft_good uw (Cond.methodLink own idx y)
noncomputable def ft_wc (uw : List Cond) (y : ai_MT) (own : String) (i : ClassFile.Instr) (len b : Nat) : Bool := match i with
  | .invokevirtual idx => decide (len = 3) && (y.2.2.2.2.1.isNone && (Nat.beq (b % 64) (y.2.2.2.2.2 + 1) && ((match vwCl[b / 64]? with
    | some (C, _, _) => decide (C = y.1.cls)
    | none => false) && ft_all uw [Cond.methodLink own idx y.1, Cond.instanceMethod y.1, Cond.selects y.1.cls y.1 y.1])))
  | .invokespecial idx => decide (len = 3) && (y.2.2.2.2.1.isNone && (y.2.2.2.1.isNone && (Nat.beq b (y.2.2.2.2.2 + 1) && (decide (y.1.name = "<init>") && (ft_good uw (Cond.instanceMethod y.1) && (ft_good uw (Cond.methodLink own idx y.1) || ft_nk uw (Cond.methodLinkNest own idx y.1 "LightsMarket")))))))
  | .invokestatic idx => decide (len = 3) && (Nat.beq b y.2.2.2.2.2 && (ft_good uw (Cond.static y.1) && (ft_good uw (Cond.methodLink own idx y.1) || (y.2.2.2.2.1.isNone && ft_nk uw (Cond.methodLinkNest own idx y.1 "LightsMarket")))))
  | _ => true
theorem ft_wc_ok {uw : List Cond} {y : ai_MT} {own : String} {i : ClassFile.Instr} {len b : Nat} (hu : ∀ u ∈ uw, u ∈ lw_tbl) (h : ft_wc uw y own i len b = true) : ai_wc ft_W ft_N y own i len b := by
  cases i
  case invokevirtual idx =>
    unfold ft_wc at h
    dsimp only at h
    simp only [Bool.and_eq_true, decide_eq_true_eq, Option.isNone_iff_eq_none] at h
    obtain ⟨h1, h2, h3, h4, h5⟩ := h
    have hk := ft_all_ok hu h5
    refine ⟨h1, h2, Nat.eq_of_beq_eq_true h3, ?_, hk _ List.mem_cons_self, hk _ (List.mem_cons_of_mem _ List.mem_cons_self), hk _ (List.mem_cons_of_mem _ (List.mem_cons_of_mem _ List.mem_cons_self))⟩
    split at h4
    · rename_i C T N e
      have h4 := of_decide_eq_true h4
      subst h4
      exact ⟨T, N, e⟩
    · cases h4
  case invokespecial idx =>
    unfold ft_wc at h
    dsimp only at h
    simp only [Bool.and_eq_true, Bool.or_eq_true, decide_eq_true_eq, Option.isNone_iff_eq_none] at h
    obtain ⟨h1, h2, h3, h4, h5, h6, h7⟩ := h
    exact ⟨h1, h2, h3, Nat.eq_of_beq_eq_true h4, h5, ft_good_ok hu h6, h7.imp (ft_good_ok hu) (fun q => ⟨_, ft_nk_ok hu q⟩)⟩
  case invokestatic idx =>
    unfold ft_wc at h
    dsimp only at h
    simp only [Bool.and_eq_true, Bool.or_eq_true, decide_eq_true_eq, Option.isNone_iff_eq_none] at h
    obtain ⟨h1, h2, h3, h4⟩ := h
    exact ⟨h1, Nat.eq_of_beq_eq_true h2, ft_good_ok hu h3, h4.imp (ft_good_ok hu) (fun q => ⟨q.1, _, ft_nk_ok hu q.2⟩)⟩
  all_goals exact trivial
/-- an entry of a code table -/
noncomputable def ft_ok (uw : List Cond) (strs : List ai_Z) (mt : Nat → ai_MT) (own : String) (ini : Bool) (ret : Option FieldType) (cc : ByteArray) (tb : List (Nat × Nat × Nat × Nat)) (q : fr_I) : Bool := match q with
  | (pc, j, nx, len, a, b) => dq_ok cc pc j.1 len && (Nat.beq nx (pc + len) && (ai_chk pc j.1 len a b && (ft_wd uw strs own ini j.1 a b && (ft_we uw own ret cc tb pc j.1 len a b && (match Nat.blt a 1000 with
    | true => ft_wc uw (mt a) own j.1 len b
    | false => true)))))
noncomputable def ft_tree (uw : List Cond) (strs : List ai_Z) (mt : Nat → ai_MT) (own : String) (ini : Bool) (ret : Option FieldType) (cc : ByteArray) (tb : List (Nat × Nat × Nat × Nat)) (d : Nat) (t : ai_T (List fr_I) d) : Bool := ai_tall (fun l => l.all (ft_ok uw strs mt own ini ret cc tb)) d t
/-- what the check gives of a table -/
noncomputable def ft_T (strs : List ai_Z) (mt : Nat → ai_MT) (own : String) (ini : Bool) (ret : Option FieldType) (cc : ByteArray) (tb : List (Nat × Nat × Nat × Nat)) (d : Nat) (t : ai_T (List fr_I) d) : Prop :=
  ∀ k, ∀ q ∈ ai_tget d t k, decode cc q.1 = .ok (q.2.1.1, q.2.2.2.1) ∧ q.2.2.1 = q.1 + q.2.2.2.1 ∧ ai_chk q.1 q.2.1.1 q.2.2.2.1 q.2.2.2.2.1 q.2.2.2.2.2 = true ∧ ai_wd ft_W strs own ini q.2.1.1 q.2.2.2.2.1 q.2.2.2.2.2 ∧ ai_we ft_W ft_N own ret cc tb q.1 q.2.1.1 q.2.2.2.1 q.2.2.2.2.1 q.2.2.2.2.2 ∧ (q.2.2.2.2.1 < 1000 → ai_wc ft_W ft_N (mt q.2.2.2.2.1) own q.2.1.1 q.2.2.2.1 q.2.2.2.2.2)
theorem ft_tall_ok {α : Type} {p : α → Bool} : ∀ {d : Nat} {t : ai_T α d}, ai_tall p d t = true → ∀ k, p (ai_tget d t k) = true
  | 0, t, h, k => h
  | d + 1, t, h, k => by
    unfold ai_tall at h
    split at h
    · rename_i e
      simp only [ai_tget_c]
      split
      · exact ft_tall_ok e _
      · exact ft_tall_ok h _
    · cases h
theorem ft_tree_ok {gs : List (List Nat)} {strs : List ai_Z} {mt : Nat → ai_MT} {own : String} {ini : Bool} {ret : Option FieldType} {cc : ByteArray} {tb : List (Nat × Nat × Nat × Nat)} {d : Nat} {t : ai_T (List fr_I) d} (h : ft_tree (ft_pick gs ft_ls) strs mt own ini ret cc tb d t = true) : ft_T strs mt own ini ret cc tb d t := by
  intro k q hq
  have hu : ∀ u ∈ ft_pick gs ft_ls, u ∈ lw_tbl := fun u hu => ft_pick_ok hu
  have h1 := List.all_eq_true.mp (ft_tall_ok h k) q hq
  obtain ⟨pc, j, nx, len, a, b⟩ := q
  unfold ft_ok at h1
  simp only [Bool.and_eq_true, decide_eq_true_eq] at h1
  obtain ⟨h1, h2, h3, h4, h5, h6⟩ := h1
  refine ⟨dq_ok_ok h1, Nat.eq_of_beq_eq_true h2, h3, ft_wd_ok hu h4, ft_we_ok hu h5, fun ha => ?_⟩
  have ha : a < 1000 := ha
  rw [show Nat.blt a 1000 = true from Nat.ble_eq_true_of_le ha] at h6
  exact ft_wc_ok hu h6
theorem ft_T.nd {strs : List ai_Z} {mt : Nat → ai_MT} {own : String} {ini : Bool} {ret : Option FieldType} {cc : ByteArray} {tb : List (Nat × Nat × Nat × Nat)} {d : Nat} {a b : ai_T (List fr_I) d} (ha : ft_T strs mt own ini ret cc tb d a) (hb : ft_T strs mt own ini ret cc tb d b) : ft_T strs mt own ini ret cc tb (d + 1) (fr_nd d a b) := by
  intro k q hq
  rw [ai_tget_c] at hq
  split at hq
  · exact ha _ q hq
  · exact hb _ q hq
theorem fr_seek_ok {pc : Nat} {x : fr_Q} : ∀ {l : List fr_I}, fr_seek pc l = some x → (pc, x) ∈ l
  | [], h => by cases h
  | (q, i) :: l, h => by
    rw [fr_seek_c] at h
    split at h
    · rename_i e
      cases h
      rw [Nat.eq_of_beq_eq_true e]
      exact List.mem_cons_self
    · exact List.mem_cons_of_mem _ (fr_seek_ok h)
theorem ft_T.nx {strs : List ai_Z} {mt : Nat → ai_MT} {own : String} {ini : Bool} {ret : Option FieldType} {cc : ByteArray} {tb : List (Nat × Nat × Nat × Nat)} {d : Nat} {t : ai_T (List fr_I) d} (h : ft_T strs mt own ini ret cc tb d t) : fr_nx (fr_code d t) := fun pc q hq => (h _ _ (fr_seek_ok hq)).2.1
theorem ft_T.tab {strs : List ai_Z} {mt : Nat → ai_MT} {own : String} {ini : Bool} {ret : Option FieldType} {cc : ByteArray} {tb : List (Nat × Nat × Nat × Nat)} {d : Nat} {t : ai_T (List fr_I) d} (h : ft_T strs mt own ini ret cc tb d t) : ai_tab ft_W ft_N strs mt own ini ret cc tb (fun pc => (fr_code d t pc).map fr_un) := by
  intro pc i len a b hq
  dsimp only at hq
  cases e : fr_code d t pc with
  | none => rw [e] at hq; cases hq
  | some q =>
    rw [e] at hq
    obtain ⟨j, nx, len', a', b'⟩ := q
    cases hq
    obtain ⟨g1, -, g3, g4, g5, g6⟩ := h _ _ (fr_seek_ok e)
    exact ⟨g1, g3, g4, g5, g6⟩
/-- a method's own words -/
noncomputable def ft_mok (uw : List Cond) (y : ai_MT) : Bool := plainName y.1.cls && (decide (y.1.cls ≠ "java/lang/invoke/MethodHandle") && (decide (y.1.cls ≠ "java/lang/invoke/VarHandle") && (decide ((parseMethodDescriptor y.1.desc).map (fun d => d.parameters.length) = some y.2.2.2.2.2) && (Nat.ble y.2.2.1 45 && (ft_good uw (ai_cw y) && ft_good uw (Cond.initialized y.1.cls))))))
theorem ft_mok_ok {gs : List (List Nat)} {y : ai_MT} (h : ft_mok (ft_pick gs ft_ls) y = true) : ai_mok ft_W y := by
  have hu : ∀ u ∈ ft_pick gs ft_ls, u ∈ lw_tbl := fun u hu => ft_pick_ok hu
  unfold ft_mok at h
  simp only [Bool.and_eq_true, decide_eq_true_eq] at h
  obtain ⟨h1, h2, h3, h4, h5, h6, h7⟩ := h
  exact ⟨h1, ⟨h2, h3, h4⟩, Nat.le_of_ble_eq_true h5, ft_good_ok hu h6, ft_good_ok hu h7⟩
