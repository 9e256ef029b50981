/-! THE RUN ITSELF -/
/-- a function that may be called: its key, its method, bounds of its number, of its answer, the other numbers -/
abbrev fn_O : Type := Nat × Nat × (Int × Int) × (Int × Int) × List Int
noncomputable def fn_tl (E : ai_E) : List ai_V → List Int → Bool
  | [], [] => true
  | .inl z :: l, k :: m => ai_eq (ai_iv E z).1 k && (ai_eq (ai_iv E z).2 k && fn_tl E l m)
  | _, _ => false
noncomputable def fn_fits (E : ai_E) (mj : Nat) (x : ai_X) (rest : List ai_V) (q : fn_O) : Bool := Nat.beq q.2.1 mj && (fn_tl E rest q.2.2.2.2 && (ai_le q.2.2.1.1 (ai_iv E x).1 && ai_le (ai_iv E x).2 q.2.2.1.2))
noncomputable def fn_fork (o tgt nxt : Nat) (x y : ai_X) (G : ai_G) : List (Bool × Nat × ai_G) := (match ai_cmp G.1 o x y with
  | some E => [(true, tgt, (E, G.2))]
  | none => []) ++ (match ai_cmp G.1 (ai_inv o) x y with
  | some E => [(false, nxt, (E, G.2))]
  | none => [])
noncomputable def fn_gh (GT : List (Nat × Nat × Int × Int)) (S : List ai_V) (G : ai_G) : Option (ai_X × (Nat × Nat × Int × Int) × List ai_V) := match S with
  | .inl x :: .inr (.inr (some (some q))) :: S' => match ai_cell G.2.1 q with
    | some _ => none
    | none => match GT.find? (fun g => Nat.beq g.1 q) with
      | some g => match ai_inb G.1 x g.2.1 with
        | true => some (x, g, S')
        | false => none
      | none => none
  | _ => none
theorem fn_gh_ok {GT : List (Nat × Nat × Int × Int)} {S : List ai_V} {G : ai_G} {x : ai_X} {g : Nat × Nat × Int × Int} {S' : List ai_V} (h : fn_gh GT S G = some (x, g, S')) : S = .inl x :: .inr (.inr (some (some g.1))) :: S' ∧ ai_cell G.2.1 g.1 = none ∧ g ∈ GT ∧ ai_inb G.1 x g.2.1 = true := by
  unfold fn_gh at h
  split at h
  · rename_i x0 q0 S0
    split at h
    · cases h
    · rename_i hc
      split at h
      · rename_i g' hg
        have e0 : Nat.beq g'.1 q0 = true := List.find?_some (p := fun (g : Nat × Nat × Int × Int) => Nat.beq g.1 q0) hg
        split at h
        · rename_i hi
          cases h
          have e := Nat.eq_of_beq_eq_true e0
          rw [e]
          exact ⟨rfl, hc, List.mem_of_find?_eq_some hg, hi⟩
        · cases h
      · cases h
  · cases h
noncomputable def fn_cl (OT : List fn_O) (h0 : ai_H) (bud : Nat × Nat) (o : Option ai_S) (G : ai_G) : Option (fn_O × Nat × ai_X × List ai_V × List ai_V) := match o with
  | some (.inr (.inl (mj, aa, S', _))) => match aa with
    | .inr (.inr (some (some q))) :: .inl x :: rest => match Nat.beq q 264 && (fn_heq G.2.1 h0 && (Nat.ble (G.2.2.1 + (ct_bud mj).1) bud.1 && Nat.ble (G.2.2.2 + (ct_bud mj).2) bud.2)) with
      | true => match OT.find? (fn_fits G.1 mj x rest) with
        | some q => some (q, mj, x, rest, S')
        | none => none
      | false => none
    | _ => none
  | _ => none
theorem fn_cl_ok {OT : List fn_O} {h0 : ai_H} {bud : Nat × Nat} {o : Option ai_S} {G : ai_G} {q : fn_O} {mj : Nat} {x : ai_X} {rest S' : List ai_V} (h : fn_cl OT h0 bud o G = some (q, mj, x, rest, S')) : (∃ pc', o = some (.inr (.inl (mj, .inr (.inr (some (some 264))) :: .inl x :: rest, S', pc')))) ∧ G.2.1 = h0 ∧ G.2.2.1 + (ct_bud mj).1 ≤ bud.1 ∧ G.2.2.2 + (ct_bud mj).2 ≤ bud.2 ∧ q ∈ OT ∧ q.2.1 = mj ∧ fn_tl G.1 rest q.2.2.2.2 = true ∧ q.2.2.1.1 ≤ (ai_iv G.1 x).1 ∧ (ai_iv G.1 x).2 ≤ q.2.2.1.2 := by
  unfold fn_cl at h
  split at h
  · split at h
    · split at h
      · rename_i e1
        split at h
        · rename_i q' eq
          cases h
          simp only [Bool.and_eq_true] at e1
          obtain ⟨a1, a2, a3, a4⟩ := e1
          have a1 := Nat.eq_of_beq_eq_true a1
          subst a1
          have f := List.find?_some eq
          unfold fn_fits at f
          simp only [Bool.and_eq_true] at f
          exact ⟨⟨_, rfl⟩, fn_heq_ok a2, Nat.le_of_ble_eq_true a3, Nat.le_of_ble_eq_true a4, List.mem_of_find?_eq_some eq, Nat.eq_of_beq_eq_true f.1, f.2.1, ai_le_iff.mp f.2.2.1, ai_le_iff.mp f.2.2.2⟩
        · cases h
      · cases h
    · cases h
  · cases h
noncomputable def fn_df {α : Type} (go : ai_F → Option (List α)) (o : Option ai_S) : Option (List α) := match o with
  | some (.inl fs) => sg_many go fs
  | _ => none
/-- 1 a comparison of two ints, 2 of one with 0, 3 a call, 4 a read -/
noncomputable def fn_knd (i : ClassFile.Instr) : Nat × ClassFile.Cond := match i with
  | .if_icmp o _ => (1, o)
  | .ifCond o _ => (2, o)
  | .invokevirtual _ => (3, .eq)
  | .iaload => (4, .eq)
  | _ => (0, .eq)
theorem fn_knd1 {i : ClassFile.Instr} (h : (fn_knd i).1 = 1) : ∃ off, i = .if_icmp (fn_knd i).2 off := by
  cases i <;> first
    | exact ⟨_, rfl⟩
    | exact absurd (show (0 : Nat) = 1 from h) (by decide)
    | exact absurd (show (2 : Nat) = 1 from h) (by decide)
    | exact absurd (show (3 : Nat) = 1 from h) (by decide)
    | exact absurd (show (4 : Nat) = 1 from h) (by decide)
theorem fn_knd2 {i : ClassFile.Instr} (h : (fn_knd i).1 = 2) : ∃ off, i = .ifCond (fn_knd i).2 off := by
  cases i <;> first
    | exact ⟨_, rfl⟩
    | exact absurd (show (0 : Nat) = 2 from h) (by decide)
    | exact absurd (show (1 : Nat) = 2 from h) (by decide)
    | exact absurd (show (3 : Nat) = 2 from h) (by decide)
    | exact absurd (show (4 : Nat) = 2 from h) (by decide)
theorem fn_knd3 {i : ClassFile.Instr} (h : (fn_knd i).1 = 3) : ∃ idx, i = .invokevirtual idx := by
  cases i <;> first
    | exact ⟨_, rfl⟩
    | exact absurd (show (0 : Nat) = 3 from h) (by decide)
    | exact absurd (show (1 : Nat) = 3 from h) (by decide)
    | exact absurd (show (2 : Nat) = 3 from h) (by decide)
    | exact absurd (show (4 : Nat) = 3 from h) (by decide)
theorem fn_knd4 {i : ClassFile.Instr} (h : (fn_knd i).1 = 4) : i = .iaload := by
  cases i <;> first
    | rfl
    | exact absurd (show (0 : Nat) = 4 from h) (by decide)
    | exact absurd (show (1 : Nat) = 4 from h) (by decide)
    | exact absurd (show (2 : Nat) = 4 from h) (by decide)
    | exact absurd (show (3 : Nat) = 4 from h) (by decide)
noncomputable def fn_run (mi : Nat) (OT : List fn_O) (GT : List (Nat × Nat × Int × Int)) (h0 : ai_H) (stop : List Nat) : Nat → Bool → List fn_L → Nat → List ai_V → List ai_V → ai_G → Option (List (ai_F × List fn_L))
  | 0, _, _, _, _, _, _ => none
  | n + 1, skip, lg, pc, L, S, G => match (match skip with | true => false | false => stop.elem pc) with
    | true => some [((pc, L, S, G), lg)]
    | false => match ls_code mi pc with
      | none => none
      | some (i, len, a, b) => match (fn_knd i).1 with
        | 1 => match S with
          | .inl y :: .inl x :: S' => sg_many (fun q => fn_run mi OT GT h0 stop n false ((ai_cno (fn_knd i).2, x, y, q.1) :: lg) q.2.1 L S' q.2.2) (fn_fork (ai_cno (fn_knd i).2) a (pc + len) x y G)
          | _ => none
        | 2 => match S with
          | .inl x :: S' => sg_many (fun q => fn_run mi OT GT h0 stop n false ((ai_cno (fn_knd i).2, x, (0, 0), q.1) :: lg) q.2.1 L S' q.2.2) (fn_fork (ai_cno (fn_knd i).2) a (pc + len) x (0, 0) G)
          | _ => none
        | 3 => match fn_cl OT h0 (ct_bud mi) (ai_vcall a (Nat.mod b 64) (Nat.div b 64) (pc + 3) S G.2.1) G with
          | some (q, mj, x, _, S') => match ai_new G.1 q.2.2.2.1 with
            | (z, E) => fn_run mi OT GT h0 stop n false ((q.1, x, z, true) :: lg) (pc + 3) L (.inl z :: S') (E, G.2.1, G.2.2.1 + (ct_bud mj).1, G.2.2.2 + (ct_bud mj).2)
          | none => none
        | 4 => match fn_gh GT S G with
          | some (x, g, S') => fn_run mi OT GT h0 stop n false ((1000 + g.1, x, (G.1.1, 0), true) :: lg) (pc + 1) L (.inl (G.1.1, 0) :: S') (hg_new G (g.2.2.1, g.2.2.2))
          | none => fn_df (fun f => fn_run mi OT GT h0 stop n false lg f.1 f.2.1 f.2.2.1 f.2.2.2) (ai_step i (ct_bud mi) ct_dflt ct_kind pc (pc + len) a b L S G)
        | _ => fn_df (fun f => fn_run mi OT GT h0 stop n false lg f.1 f.2.1 f.2.2.1 f.2.2.2) (ai_step i (ct_bud mi) ct_dflt ct_kind pc (pc + len) a b L S G)
/-- what a call of a function is told: the object, a number, the others -/
noncomputable def fn_As (ad : Nat → Nat) (v : Int32) (tail : List Int) : List Value := .ref (ad 264) :: .int v :: tail.map (fun k => .int (Int32.ofInt k))
/-- a function's contract: its answer is Φ's, nothing is changed -/
noncomputable def fc_Ct (l : Launch) (D : va_G) (tyc : Nat → ClassId) (A : Nat → Prop) (sa : ai_B) (ws0 : va_W) (r0 : Nat → Int) (ad0 : Nat → Nat) (E0 : ai_E) (h0 : ai_H) (φ : Int → Int) (rk : Nat) (q : fn_O) : Prop :=
  ∀ (H0 : Heap) (v : Int32), q.2.2.1.1 ≤ v.toInt → v.toInt ≤ q.2.2.1.2 → ai_Wd D tyc A sa ws0 r0 ad0 (E0, h0, 0, 0) H0 →
    vx_Met l (ct_mt q.2.1).1 (ai_cw (ct_mt q.2.1) :: ft_W) (lt_rm rk q.2.1) (fun a U => a = (fn_As ad0 v q.2.2.2.2).toArray ∧ U.heap = H0 ∧ ai_St D tyc A sa ct_strs ft_N U ∧ ∀ z, H0.size ≤ z → A z)
      (fun _ st o t => ∃ i : Int32, o = .returned (some (.int i)) ∧ i.toInt = φ v.toInt ∧ (q.2.2.2.1.1 ≤ i.toInt ∧ i.toInt ≤ q.2.2.2.1.2) ∧ ai_Wd D tyc A sa ws0 r0 ad0 (E0, h0, 0, 0) t.heap ∧ va_F A st t) (fun _ _ _ => False) (lt_rm rk q.2.1).cells (lt_rm rk q.2.1).slots A
theorem fn_tl_ok {r : Nat → Int} {ad : Nat → Nat} {E : ai_E} {n : Nat} (hE : ai_gE r E) : ∀ {rest : List ai_V} {tail : List Int} {As : List Value}, fn_tl E rest tail = true → ai_gF r ad E.1 n rest As → As = tail.map (fun k => .int (Int32.ofInt k))
  | [], [], [], _, _ => rfl
  | [], [], _ :: _, _, h => h.elim
  | [], _ :: _, _, h, _ => by cases h
  | .inl z :: l, k :: m, As, h, g => by
    unfold fn_tl at h
    simp only [Bool.and_eq_true] at h
    obtain ⟨h1, h2, h3⟩ := h
    obtain ⟨i, t, rfl, i1, i2, i3⟩ := g.int
    have hb := ai_iv_ok hE i1
    have h1 := ai_eq_iff.mp h1
    have h2 := ai_eq_iff.mp h2
    rw [h1, h2, ← i2] at hb
    have e : i = Int32.ofInt k := by
      have : i.toInt = k := Int.le_antisymm hb.2 hb.1
      rw [← this]
      exact (Int32.ofInt_toInt i).symm
    rw [List.map_cons, ← fn_tl_ok hE h3 i3, e]
  | .inl _ :: _, [], _, h, _ => by cases h
  | .inr _ :: _, _, _, h, _ => by
    unfold fn_tl at h
    cases h
section FN
variable {p : Program} {l : Launch} {e : Env} {s : State} {m : MethodId} {args : Array Value} {below : List Frame} {meth : Method} {c : Code} {Q : State → Prop}
variable {D : va_G} {tyc : Nat → ClassId} {A : Nat → Prop} {sa : ai_B} {ws0 : va_W} {mi n : Nat}
variable {nL : Nat} {cc : ByteArray} {own : String} {Ts : List Cond} {strs : List ai_Z} {nws : List Cond} {bud : Nat × Nat} {dflt : Nat → List ai_V} {kind : Nat → Nat → Nat} {R : Room}
variable {r : Nat → Int} {ad : Nat → Nat} {L S : List ai_V} {G : ai_G} {H : Heap} {locs : List Loc} {ls : Array Slot} {st : List Value} {pc : Nat}
/-- an exact comparison of an int with 0 -/
theorem hg_if0 (F : ai_Fr p R s m args meth c D tyc A sa nL cc own Ts strs nws bud dflt kind) {o : ClassFile.Cond} {off : Int} {tgt : Nat} (hdg : decode cc pc = .ok (.ifCond o off, 3)) (ht : (pc : Int) + off = (tgt : Int)) {x : ai_X} (hR : ai_Rel D tyc A s sa ws0 nL r ad L (.inl x :: S) G H locs ls st)
    (kt : ai_holds (ai_cno o) (ai_vx r x) (ai_vx r (0, 0)) → ∀ st', ai_Rel D tyc A s sa ws0 nL r ad L S G H locs ls st' → W p l e R s m args below meth c H locs G.2.2.1 G.2.2.2 Q (F0 m tgt ls st'))
    (kf : ¬ ai_holds (ai_cno o) (ai_vx r x) (ai_vx r (0, 0)) → ∀ st', ai_Rel D tyc A s sa ws0 nL r ad L S G H locs ls st' → W p l e R s m args below meth c H locs G.2.2.1 G.2.2.2 Q (F0 m (pc + 3) ls st')) :
    W p l e R s m args below meth c H locs G.2.2.1 G.2.2.2 Q (F0 m pc ls st) := by
  obtain ⟨hx, hb, -⟩ := F
  have hE := hR.env
  obtain ⟨i, t, rfl, hx', ex, g1⟩ := hR.stk.int
  have h0 : ai_vx r (0, 0) = (0 : Int32).toInt := by
    show r 0 + 0 = 0
    rw [hE.1]
    rfl
  rw [← ex, h0] at kt kf
  have kt := fun q => kt q t (hR.st' g1)
  have kf := fun q => kf q t (hR.st' g1)
  cases o
  · exact lv_if_eq hx hb hdg ht (fun q => kt (by rw [q]; rfl)) (fun q => kf (fun q2 => q (Int32.toInt_inj.mp q2)))
  · exact lv_if_ne hx hb hdg ht (fun q => kt (fun q2 => q (Int32.toInt_inj.mp q2))) (fun q => kf (fun q2 => q2 (by rw [q])))
  · exact lv_if_lt hx hb hdg ht (fun q => kt (Int32.lt_iff_toInt_lt.mp q)) (fun q => kf (fun q2 => q (Int32.lt_iff_toInt_lt.mpr q2)))
  · exact lv_if_ge hx hb hdg ht (fun q => kt (Int32.le_iff_toInt_le.mp q)) (fun q => kf (fun q2 => q (Int32.le_iff_toInt_le.mpr q2)))
  · exact lv_if_gt hx hb hdg ht (fun q => kt (Int32.lt_iff_toInt_lt.mp q)) (fun q => kf (fun q2 => q (Int32.lt_iff_toInt_lt.mpr q2)))
  · exact lv_if_le hx hb hdg ht (fun q => kt (Int32.le_iff_toInt_le.mp q)) (fun q => kf (fun q2 => q (Int32.le_iff_toInt_le.mpr q2)))
theorem fn_cno (o : ClassFile.Cond) : ai_cno o < 6 := by cases o <;> decide
theorem fn_fork_t {o tgt nxt : Nat} {x y : ai_X} (hE : ai_gE r G.1) (hx : x.1 < G.1.1) (hy : y.1 < G.1.1) (h : ai_holds o (ai_vx r x) (ai_vx r y)) : ∃ E', (true, tgt, (E', G.2)) ∈ fn_fork o tgt nxt x y G ∧ ai_gE r E' ∧ E'.1 = G.1.1 := by
  obtain ⟨E', e1, e2, e3⟩ := ai_cmp_ok hE hx hy h
  refine ⟨E', List.mem_append_left _ ?_, e2, e3⟩
  rw [e1]
  exact List.mem_cons_self
theorem fn_fork_f {o tgt nxt : Nat} {x y : ai_X} (ho : o < 6) (hE : ai_gE r G.1) (hx : x.1 < G.1.1) (hy : y.1 < G.1.1) (h : ¬ ai_holds o (ai_vx r x) (ai_vx r y)) : ∃ E', (false, nxt, (E', G.2)) ∈ fn_fork o tgt nxt x y G ∧ ai_gE r E' ∧ E'.1 = G.1.1 := by
  obtain ⟨E', e1, e2, e3⟩ := ai_cmp_ok hE hx hy (ai_inv_ok ho h)
  refine ⟨E', List.mem_append_right _ ?_, e2, e3⟩
  rw [e1]
  exact List.mem_cons_self
set_option maxHeartbeats 4000000 in
theorem fn_ok {OT : List fn_O} {GT : List (Nat × Nat × Int × Int)} {E0 : ai_E} {h0 : ai_H} {stop : List Nat} {r0 : Nat → Int} {ad0 : Nat → Nat} {Φ : Nat → Int → Int} (hpl : ls_plain mi = true) (F : ls_Fr p (lt_rm (n + 1) mi) s m args meth c D tyc A sa mi)
    (hOT : ∀ q ∈ OT, ls_plain q.2.1 = true ∧ q.2.1 < 1000 ∧ 100 ≤ q.1 ∧ fc_Ct l D tyc A sa ws0 r0 ad0 E0 h0 (Φ q.1) n q)
    (hGT : ∀ q ∈ GT, 16 ≤ q.1 ∧ ∃ f, hg_ia tyc ws0 q.1 q.2.1 f ∧ ∀ j : Nat, j < q.2.1 → q.2.2.1 ≤ (f j).toInt ∧ (f j).toInt ≤ q.2.2.2 ∧ Φ (1000 + q.1) (j : Int) = (f j).toInt)
    (hw0 : sm_wh E0.1 h0 = true) (hE0 : ai_gE r0 E0) (h264 : 264 < h0.1) :
    ∀ (k : Nat) (skip : Bool) (lg : List fn_L) (pc : Nat) (L S : List ai_V) (G : ai_G) (fs : List (ai_F × List fn_L)) (r : Nat → Int) (ad : Nat → Nat) (H : Heap) (locs : List Loc) (ls : Array Slot) (st : List Value), fn_run mi OT GT h0 stop k skip lg pc L S G = some fs → ai_Rel D tyc A s sa ws0 (ct_mt mi).2.2.1 r ad L S G H locs ls st →
      ai_ext E0.1 r0 r → ai_ext h0.1 ad0 ad → E0.1 ≤ G.1.1 → h0.1 ≤ G.2.1.1 → (∀ x ∈ lg, fn_s G.1.1 x ∧ fn_m Φ r x) →
      (∀ f ∈ fs, ∀ (r' : Nat → Int) (ad' : Nat → Nat), ai_ext G.1.1 r r' → ai_ext h0.1 ad0 ad' → G.1.1 ≤ f.1.2.2.2.1.1 → (∀ x ∈ f.2, fn_s f.1.2.2.2.1.1 x ∧ fn_m Φ r' x) → ∀ (H' : Heap) (locs' : List Loc) (ls' : Array Slot) (st' : List Value), ai_Rel D tyc A s sa ws0 (ct_mt mi).2.2.1 r' ad' f.1.2.1 f.1.2.2.1 f.1.2.2.2 H' locs' ls' st' → W p l e (lt_rm (n + 1) mi) s m args below meth c H' locs' f.1.2.2.2.2.2.1 f.1.2.2.2.2.2.2 Q (F0 m f.1.1 ls' st')) →
      W p l e (lt_rm (n + 1) mi) s m args below meth c H locs G.2.2.1 G.2.2.2 Q (F0 m pc ls st) := by
  have hpl' := hpl
  unfold ls_plain at hpl'
  simp only [Bool.and_eq_true, Bool.not_eq_true'] at hpl'
  obtain ⟨p1, -, p3⟩ := hpl'
  obtain ⟨mok, htab⟩ := ls_known p1
  rw [p3] at htab
  intro k
  induction k with
  | zero => intro skip lg pc L S G fs r ad H locs ls st h; cases h
  | succ k ih =>
    intro skip lg pc L S G fs r ad H locs ls st h hR hx hax hN hn hlg kk
    unfold fn_run at h
    split at h
    · cases h
      exact kk _ List.mem_cons_self r ad ai_ext.rfl' hax (Nat.le_refl _) hlg H locs ls st hR
    · split at h
      · cases h
      · rename_i i len a b ec
        obtain ⟨d1, d2, d3, d4, d5⟩ := htab pc i len a b ec
        have hE := hR.env
        have next : ∀ {lg2 : List fn_L} {pc2 : Nat} {L2 S2 : List ai_V} {G2 : ai_G} {o : List (ai_F × List fn_L)} {r' : Nat → Int} {ad' : Nat → Nat} {H1 : Heap} {locs1 : List Loc} {ls1 : Array Slot} {st1 : List Value}, fn_run mi OT GT h0 stop k false lg2 pc2 L2 S2 G2 = some o → (∀ g ∈ o, g ∈ fs) → ai_ext G.1.1 r r' → ai_ext h0.1 ad0 ad' → G.1.1 ≤ G2.1.1 → h0.1 ≤ G2.2.1.1 → (∀ x ∈ lg2, fn_s G2.1.1 x ∧ fn_m Φ r' x) → ai_Rel D tyc A s sa ws0 (ct_mt mi).2.2.1 r' ad' L2 S2 G2 H1 locs1 ls1 st1 → W p l e (lt_rm (n + 1) mi) s m args below meth c H1 locs1 G2.2.2.1 G2.2.2.2 Q (F0 m pc2 ls1 st1) := fun {lg2 pc2 L2 S2 G2 o r' ad' H1 locs1 ls1 st1} e1 e2 x1 x2 x3 x4 x5 hR1 =>
          ih false lg2 pc2 L2 S2 G2 o r' ad' H1 locs1 ls1 st1 e1 hR1 (hx.trans x1 hN) x2 (Nat.le_trans hN x3) x4 x5 (fun f hf r2 ad2 y1 y2 y3 y4 H2 locs2 ls2 st2 hR2 => kk f (e2 f hf) r2 ad2 (x1.trans y1 x3) y2 (Nat.le_trans x3 y3) y4 H2 locs2 ls2 st2 hR2)
        have up : ∀ {r' : Nat → Int} {N' : Nat}, ai_ext G.1.1 r r' → G.1.1 ≤ N' → ∀ x ∈ lg, fn_s N' x ∧ fn_m Φ r' x := fun y1 y2 x hx' => ⟨⟨Nat.lt_of_lt_of_le (hlg x hx').1.1 y2, Nat.lt_of_lt_of_le (hlg x hx').1.2 y2⟩, fn_m_ext (hlg x hx').1 y1 (hlg x hx').2⟩
        have other : fn_df (fun f => fn_run mi OT GT h0 stop k false lg f.1 f.2.1 f.2.2.1 f.2.2.2) (ai_step i (ct_bud mi) ct_dflt ct_kind pc (pc + len) a b L S G) = some fs → W p l e (lt_rm (n + 1) mi) s m args below meth c H locs G.2.2.1 G.2.2.2 Q (F0 m pc ls st) := fun h => by
          unfold fn_df at h
          split at h
          · rename_i fs1 es
            refine ai_step_ok (ini := false) F (fun q => by cases q) d2 d3 d1 es hR (fun f hf => ?_)
            obtain ⟨o, e1, e2⟩ := sg_many_ok h f hf
            intro r' ad' x1 x2 x3 x4 H1 locs1 ls1 st1 hR1
            exact next e1 e2 x1 (hax.trans x2 hn) x3 (Nat.le_trans hn x4) (up x1 x3) hR1
          · cases h
        split at h
        · rename_i ek
          obtain ⟨off, hi⟩ := fn_knd1 ek
          have ho := fn_cno (fn_knd i).2
          revert h ho
          generalize (fn_knd i).2 = o at hi
          intro h ho
          subst hi
          obtain ⟨rfl, h1⟩ := of_decide_eq_true d2
          split at h
          · rename_i y x S'
            obtain ⟨j, t1, est, hy, ey, g0⟩ := hR.stk.int
            obtain ⟨i', t, est', hx', ex, g1⟩ := g0.int
            refine hg_icmp F d1 h1 hR (fun hh st' hR' => ?_) (fun hh st' hR' => ?_)
            · obtain ⟨E', m1, m2, m3⟩ := fn_fork_t (tgt := a) (nxt := pc + 3) hE hx' hy hh
              obtain ⟨q, e1, e2⟩ := sg_many_ok h _ m1
              refine next (G2 := (E', G.2)) e1 e2 ai_ext.rfl' hax (by rw [m3]; exact Nat.le_refl _) hn (fun z hz => ?_) (hR'.re ai_ext.rfl' (by rw [m3]; exact Nat.le_refl _) m2 (by rw [m3]; exact hR'.stk))
              rcases List.mem_cons.mp hz with rfl | hz
              · exact ⟨⟨by show x.1 < E'.1; rw [m3]; exact hx', by show y.1 < E'.1; rw [m3]; exact hy⟩, fn_m_cmp (by omega) ⟨fun _ => hh, fun _ => rfl⟩⟩
              · exact up ai_ext.rfl' (by show G.1.1 ≤ E'.1; rw [m3]; exact Nat.le_refl _) z hz
            · obtain ⟨E', m1, m2, m3⟩ := fn_fork_f (tgt := a) (nxt := pc + 3) ho hE hx' hy hh
              obtain ⟨q, e1, e2⟩ := sg_many_ok h _ m1
              refine next (G2 := (E', G.2)) e1 e2 ai_ext.rfl' hax (by rw [m3]; exact Nat.le_refl _) hn (fun z hz => ?_) (hR'.re ai_ext.rfl' (by rw [m3]; exact Nat.le_refl _) m2 (by rw [m3]; exact hR'.stk))
              rcases List.mem_cons.mp hz with rfl | hz
              · exact ⟨⟨by show x.1 < E'.1; rw [m3]; exact hx', by show y.1 < E'.1; rw [m3]; exact hy⟩, fn_m_cmp (by omega) ⟨fun q => (by cases q), fun q => absurd q hh⟩⟩
              · exact up ai_ext.rfl' (by show G.1.1 ≤ E'.1; rw [m3]; exact Nat.le_refl _) z hz
          · cases h
        · rename_i ek
          obtain ⟨off, hi⟩ := fn_knd2 ek
          have ho := fn_cno (fn_knd i).2
          revert h ho
          generalize (fn_knd i).2 = o at hi
          intro h ho
          subst hi
          obtain ⟨rfl, h1⟩ := of_decide_eq_true d2
          split at h
          · rename_i x S'
            obtain ⟨i', t, est', hx', ex, g1⟩ := hR.stk.int
            have hy : ((0, 0) : ai_X).1 < G.1.1 := hE.2.1
            refine hg_if0 F d1 h1 hR (fun hh st' hR' => ?_) (fun hh st' hR' => ?_)
            · obtain ⟨E', m1, m2, m3⟩ := fn_fork_t (tgt := a) (nxt := pc + 3) hE hx' hy hh
              obtain ⟨q, e1, e2⟩ := sg_many_ok h _ m1
              refine next (G2 := (E', G.2)) e1 e2 ai_ext.rfl' hax (by rw [m3]; exact Nat.le_refl _) hn (fun z hz => ?_) (hR'.re ai_ext.rfl' (by rw [m3]; exact Nat.le_refl _) m2 (by rw [m3]; exact hR'.stk))
              rcases List.mem_cons.mp hz with rfl | hz
              · exact ⟨⟨by show x.1 < E'.1; rw [m3]; exact hx', by show 0 < E'.1; rw [m3]; exact hy⟩, fn_m_cmp (by omega) ⟨fun _ => hh, fun _ => rfl⟩⟩
              · exact up ai_ext.rfl' (by show G.1.1 ≤ E'.1; rw [m3]; exact Nat.le_refl _) z hz
            · obtain ⟨E', m1, m2, m3⟩ := fn_fork_f (tgt := a) (nxt := pc + 3) ho hE hx' hy hh
              obtain ⟨q, e1, e2⟩ := sg_many_ok h _ m1
              refine next (G2 := (E', G.2)) e1 e2 ai_ext.rfl' hax (by rw [m3]; exact Nat.le_refl _) hn (fun z hz => ?_) (hR'.re ai_ext.rfl' (by rw [m3]; exact Nat.le_refl _) m2 (by rw [m3]; exact hR'.stk))
              rcases List.mem_cons.mp hz with rfl | hz
              · exact ⟨⟨by show x.1 < E'.1; rw [m3]; exact hx', by show 0 < E'.1; rw [m3]; exact hy⟩, fn_m_cmp (by omega) ⟨fun q => (by cases q), fun q => absurd q hh⟩⟩
              · exact up ai_ext.rfl' (by show G.1.1 ≤ E'.1; rw [m3]; exact Nat.le_refl _) z hz
          · cases h
        · rename_i ek
          obtain ⟨idx, hi⟩ := fn_knd3 ek
          subst hi
          split at h
          · rename_i q mj x rest S' ecl
            obtain ⟨⟨pc', hv⟩, hh0, b1, b2, hq, hqm, htl, x1, x2⟩ := fn_cl_ok ecl
            obtain ⟨em, ep, et, ew, -⟩ := ai_vcall_inv hv
            subst em
            subst ep
            obtain ⟨pl, lt1, hk, hct⟩ := hOT q hq
            have hlen : len = 3 := by
              have := d5 (by rw [← hqm]; exact lt1)
              exact this.1
            subst hlen
            obtain ⟨As, sr, g1, g2, g3, g4⟩ := ai_take_ok (acc := []) (accC := []) (r := r) (ad := ad) (N := G.1.1) (n := G.2.1.1) trivial hR.stk et
            obtain ⟨t1, rfl, q1, g5⟩ := g1.ref
            obtain ⟨v, t2, rfl, xN, xv, g6⟩ := g5.int
            have htail := fn_tl_ok hE htl g6
            have hiv := ai_iv_ok hE xN
            have had : ad 264 = ad0 264 := hax 264 h264
            obtain ⟨hWd, hS, hLL, hSt⟩ := hR.wd
            have low : ∀ {cs sl : Nat} {H' : Heap}, ai_Wd D tyc A sa ws0 r ad (G.1, G.2.1, cs, sl) H' → ai_Wd D tyc A sa ws0 r0 ad0 (E0, h0, 0, 0) H' := fun g => by
              rw [hh0] at g
              exact fn_trW hw0 (fn_rev hx) (fn_rev hax) (Nat.le_refl _) hE0 g
            subst hqm
            have hMet := hct H v (by rw [xv]; omega) (by rw [xv]; omega) (low hWd)
            refine hg_callv (mj := q.2.1) hpl pl lt1 F ec hv hR ⟨b1, b2⟩ (fun As' gA _ => ?_) (Qc := fun _ st o t => ∃ i : Int32, o = .returned (some (.int i)) ∧ i.toInt = Φ q.1 v.toInt ∧ (q.2.2.2.1.1 ≤ i.toInt ∧ i.toInt ≤ q.2.2.2.1.2) ∧ ai_Wd D tyc A sa ws0 r0 ad0 (E0, h0, 0, 0) t.heap ∧ va_F A st t) (fun a' st0 t v' rest' locs1 e0 hq' hrest hS1 => ?_)
            · obtain ⟨t1', rfl, q1', g5'⟩ := gA.ref
              obtain ⟨v', t2', rfl, xN', xv', g6'⟩ := g5'.int
              have htail' := fn_tl_ok hE htl g6'
              have ev : v' = v := Int32.toInt_inj.mp (by rw [xv', xv])
              rw [ev, htail', had]
              exact hMet
            · obtain ⟨i', e1, e2, e3, e4, e5⟩ := hq'
              cases e1
              cases en : ai_new G.1 q.2.2.2.1 with
              | mk z E' =>
                rw [en] at h
                dsimp only at h
                obtain ⟨r', w1, w2, w3, w4, w5⟩ := ai_new_ok hE e3 (ai_small32 (ai_i32 _)) en
                have hWd' : ai_Wd D tyc A sa ws0 r' ad (E', G.2.1, G.2.2.1 + (lt_rm n q.2.1).cells, G.2.2.2 + (lt_rm n q.2.1).slots) t.heap := by
                  rw [hh0]
                  exact fn_trW hw0 (hx.trans w1 hN) hax (Nat.le_trans hN w2) w3 e4
                have hR' := hWd'.rel (L := L) (S := .inl z :: S') (st := .int i' :: rest') (hS1 e5) (hLL.mono w1 ai_ext.rfl' w2 (Nat.le_refl _)) ⟨⟨w4, i', rfl, w5.symm⟩, hrest.mono w1 ai_ext.rfl' w2 (Nat.le_refl _)⟩
                refine next h (fun g hg => hg) w1 hax w2 hn (fun z' hz' => ?_) hR'
                rcases List.mem_cons.mp hz' with rfl | hz'
                · refine ⟨⟨Nat.lt_of_lt_of_le xN w2, w4⟩, fn_m_fun hk ?_⟩
                  rw [w5, e2, xv, w1.vx xN]
                · exact up w1 w2 z' hz'
          · cases h
        · rename_i ek
          have hi := fn_knd4 ek
          subst hi
          split at h
          · rename_i x g S' eg
            obtain ⟨rfl, hc, hg, hib⟩ := fn_gh_ok eg
            obtain ⟨h16, f, hia, hf⟩ := hGT g hg
            have xN : x.1 < G.1.1 := by
              obtain ⟨i', t, -, hx', -⟩ := hR.stk.int
              exact hx'
            obtain ⟨j, hj, hjx⟩ := ai_inb_ok hE xN hib
            have hlen : len = 1 := (of_decide_eq_true d2 : _)
            subst hlen
            obtain ⟨f1, f2, f3⟩ := hf j hj
            refine hg_iald F d1 hR h16 hc hia hj hjx (b := (g.2.2.1, g.2.2.2)) ⟨f1, f2⟩ (fun r' st' w1 w2 hR' => ?_)
            refine next (G2 := hg_new G (g.2.2.1, g.2.2.2)) h (fun g hg => hg) w1 hax (Nat.le_succ _) hn (fun z' hz' => ?_) hR'
            rcases List.mem_cons.mp hz' with rfl | hz'
            · refine ⟨⟨Nat.lt_succ_of_lt xN, Nat.lt_succ_self _⟩, fn_m_fun (by omega) ?_⟩
              show r' G.1.1 + 0 = Φ (1000 + g.1) (ai_vx r' x)
              rw [w2, w1.vx xN, hjx, f3, Int.add_zero]
            · exact up w1 (Nat.le_succ _) z' hz'
          · exact other h
        · exact other h
end FN
