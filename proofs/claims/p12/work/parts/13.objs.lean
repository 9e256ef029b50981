/-! ONE INSTRUCTION, on objects and references; what is made -/
/-- what a field begins with, and its kind -/
noncomputable def ai_dv (ty : FieldType) : Option ai_V := match ty with
  | .int => some (.inl (0, 0))
  | .boolean => some (.inl (0, 0))
  | .long => some (.inr (.inl (0, 0)))
  | .object _ => some (.inr (.inr (some none)))
  | .array _ => some (.inr (.inr (some none)))
  | _ => none
noncomputable def ai_kd (ty : FieldType) : Nat := match ty with
  | .int => 0
  | .boolean => 2
  | .long => 1
  | .object _ => 3
  | .array _ => 3
  | _ => 9
/-- what the tables say of a class -/
noncomputable def ai_cls (Ts : List Cond) (dflt : Nat → List ai_V) (kind : Nat → Nat → Nat) (ci : Nat) : Prop := ∃ (C : String) (T : u_T) (N : Nat) (ty : Nat → FieldType), vwCl[ci]? = some (C, T, N) ∧ (∀ w ∈ u_ws C T N, w ∈ Ts) ∧ (∀ k, k < N → parseFieldDescriptor (T k).2.2.1 = some (ty k)) ∧ (∀ a, a < N → ∀ b, b < N → a ≠ b → (T a).2.1 ≠ (T b).2.1) ∧ Cond.instantiable C N ∈ Ts ∧ Cond.initialized C ∈ Ts ∧ (dflt ci).length = N ∧ (∀ k, k < N → ai_getv (dflt ci) k = ai_dv (ty k)) ∧ ∀ k, k < N → kind ci k = ai_kd (ty k)
theorem ai_gF_of {r : Nat → Int} {ad : Nat → Nat} {N n : Nat} : ∀ {l : List ai_V} {m : List Value}, l.length = m.length → (∀ k a v, ai_getv l k = some a → m[k]? = some v → ai_gV r ad N n a v) → ai_gF r ad N n l m
  | [], [], _, _ => trivial
  | [], _ :: _, h, _ => by cases h
  | _ :: _, [], h, _ => by cases h
  | a :: l, v :: m, h, g => ⟨g 0 a v rfl rfl, ai_gF_of (Nat.succ.inj h) (fun k b w hb hw => g (k + 1) b w hb (by rw [List.getElem?_cons_succ]; exact hw))⟩
theorem ai_dv_ok {r : Nat → Int} {ad : Nat → Nat} {N n : Nat} (h0 : r 0 = 0) (hN : 0 < N) {ty : FieldType} {a : ai_V} (h : ai_dv ty = some a) : ai_gV r ad N n a (defaultValue ty) := by
  have hz : (0 : Int32).toInt = ai_vx r (0, 0) := by
    show (0 : Int32).toInt = r 0 + 0
    rw [h0]; rfl
  have hzl : (0 : Int64).toInt = ai_vx r (0, 0) := by
    show (0 : Int64).toInt = r 0 + 0
    rw [h0]; rfl
  cases ty <;> first
    | (cases h; exact ⟨hN, 0, rfl, hz⟩)
    | (cases h; exact ⟨hN, 0, rfl, hzl⟩)
    | (cases h; rfl)
    | cases h
theorem ai_fits {r : Nat → Int} {ad : Nat → Nat} {N n : Nat} {E : ai_E} (hE : ai_gE r E) (hN : N = E.1) {ty : FieldType} {a : ai_V} {v : Value} (ha : ai_gV r ad N n a v) (h : ai_okf E (ai_kd ty) a = true) : narrow ty v = v ∧ fits ty v = true := by
  rcases a with x | x | _ | _ | q
  · obtain ⟨hx, i, rfl, hi⟩ := ha
    cases ty with
    | int => exact ⟨rfl, rfl⟩
    | boolean =>
      rw [hN] at hx
      rcases ai_bit_ok hE hx h hi with rfl | rfl
      · exact ⟨rfl, rfl⟩
      · exact ⟨rfl, rfl⟩
    | _ => cases h
  · obtain ⟨hx, i, rfl, hi⟩ := ha
    cases ty with
    | long => exact ⟨rfl, rfl⟩
    | _ => cases h
  · cases h
  · have ha : v = .null := ha
    subst ha
    cases ty with
    | object C => exact ⟨rfl, rfl⟩
    | array t => exact ⟨rfl, rfl⟩
    | _ => cases h
  · obtain ⟨-, rfl⟩ := ha
    cases ty with
    | object C => exact ⟨rfl, rfl⟩
    | array t => exact ⟨rfl, rfl⟩
    | _ => cases h
theorem ai_getf_inv {ci j nx : Nat} {L S : List ai_V} {G : ai_G} {fs : List ai_F} (h : ai_getf ci j nx L S G = some (.inl fs)) : ∃ q S' E hh cs sl xs v, S = .inr (.inr (some (some q))) :: S' ∧ G = (E, hh, cs, sl) ∧ ai_cell hh q = some (.inl (ci, xs)) ∧ ai_getv xs j = some v ∧ fs = [(nx, L, v :: S', G)] := by
  unfold ai_getf at h
  split at h
  · rename_i q S'
    obtain ⟨E, hh, cs, sl⟩ := G
    dsimp only at h
    split at h
    · rename_i cj xs ec
      split at h
      · rename_i v e1 e2
        have e1 := Nat.eq_of_beq_eq_true e1
        subst e1
        exact ⟨q, S', E, hh, cs, sl, xs, v, rfl, rfl, ec, e2, ai_go_eq h⟩
      · cases h
    · cases h
  · cases h
theorem ai_putf_inv {kind : Nat → Nat → Nat} {ci j nx : Nat} {L S : List ai_V} {G : ai_G} {fs : List ai_F} (h : ai_putf kind ci j nx L S G = some (.inl fs)) : ∃ v q S' E hh cs sl xs h', S = v :: .inr (.inr (some (some q))) :: S' ∧ G = (E, hh, cs, sl) ∧ ai_cell hh q = some (.inl (ci, xs)) ∧ j < xs.length ∧ ai_okf E (kind ci j) v = true ∧ ai_put hh q (.inl (ci, ai_setv xs j v)) = some h' ∧ fs = [(nx, L, S', (E, h', cs, sl))] := by
  unfold ai_putf at h
  split at h
  · rename_i v q S'
    obtain ⟨E, hh, cs, sl⟩ := G
    dsimp only at h
    split at h
    · rename_i cj xs ec
      split at h
      · rename_i e1 e2 e3
        have e1 := Nat.eq_of_beq_eq_true e1
        subst e1
        split at h
        · rename_i h' ep
          exact ⟨v, q, S', E, hh, cs, sl, xs, h', rfl, rfl, ec, Nat.le_of_ble_eq_true e2, e3, ep, ai_go_eq h⟩
        · cases h
      · cases h
    · cases h
  · cases h
theorem ai_geta_ok : ∀ {l : List (Option Nat)} {k : Nat} {v : Option Nat}, ai_geta l k = some v → l[k]? = some v
  | [], _, _, h => by cases h
  | _ :: _, 0, _, h => h
  | _ :: l, k + 1, v, h => by
    rw [List.getElem?_cons_succ]
    exact ai_geta_ok (l := l) (k := k) h
theorem ai_seta_ok : ∀ {l : List (Option Nat)} {k : Nat} {v : Option Nat}, ai_seta l k v = l.set k v
  | [], _, _ => rfl
  | _ :: _, 0, _ => rfl
  | _ :: l, k + 1, v => by
    show _ :: ai_seta l k v = _
    rw [ai_seta_ok (l := l)]; rfl
/-- a reference, as the domain has it -/
theorem ai_gR.val {r : Nat → Int} {ad : Nat → Nat} {N n : Nat} {l : List (Option Nat)} {f : Nat → Option Nat} (h : ai_gR ad n l f) {k : Nat} {q : Option Nat} (hk : l[k]? = some q) : ai_gV r ad N n (.inr (.inr (some q))) (va_rf (f k)) := by
  obtain ⟨h1, h2⟩ := h k q hk
  cases q with
  | none =>
    rw [h1 rfl]; rfl
  | some a =>
    obtain ⟨g1, g2⟩ := h2 a rfl
    rw [g2]
    exact ⟨g1, rfl⟩
theorem ai_aall_mem {E : ai_E} {i : ai_X} {rs : List (Option Nat)} {nx : Nat} {L S : List ai_V} {h : ai_H} {cs sl : Nat} : ∀ {l : List (Option Nat)} {j0 j : Nat} {q : Option Nat} {E1 : ai_E}, l[j]? = some q → ai_same E i (0, .ofNat (j0 + j)) = some E1 → (nx, L, .inr (.inr (some q)) :: S, (E1, h, cs, sl)) ∈ ai_aall E i rs nx L S h cs sl j0 l
  | [], _, _, _, _, h, _ => by cases h
  | w :: l, j0, 0, q, E1, hq, e => by
    cases hq
    unfold ai_aall
    rw [Nat.add_zero] at e
    rw [e]
    exact List.mem_cons_self
  | w :: l, j0, j + 1, q, E1, hq, e => by
    rw [List.getElem?_cons_succ] at hq
    rw [show j0 + (j + 1) = (j0 + 1) + j by omega] at e
    have ih := ai_aall_mem (rs := rs) (nx := nx) (L := L) (S := S) (h := h) (cs := cs) (sl := sl) (j0 := j0 + 1) hq e
    unfold ai_aall
    split
    · exact List.mem_cons_of_mem _ ih
    · exact ih
theorem ai_asg (vm : Vm) (a : ClassId) : vm.assignable a a = true := by
  show Vm.assignableAux vm (255 + 1) a a = true
  unfold Vm.assignableAux
  rw [beq_self_eq_true, Bool.true_or]
section SO
variable {p : Program} {l : Launch} {e : Env} {R : Room} {s : State} {m : MethodId} {args : Array Value} {below : List Frame} {meth : Method} {c : Code} {Q : State → Prop}
variable {D : va_G} {tyc : Nat → ClassId} {A : Nat → Prop} {sa : ai_B} {ws0 : va_W} {nL : Nat} {cc : ByteArray} {own : String} {Ts : List Cond}
variable {r : Nat → Int} {ad : Nat → Nat} {L S : List ai_V} {G : ai_G} {H : Heap} {locs : List Loc} {ls : Array Slot} {st : List Value} {pc nx : Nat} {fs : List ai_F} {dflt : Nat → List ai_V} {kind : Nat → Nat → Nat}
theorem ai_old {hh : ai_H} {E : ai_E} {q : Nat} {d : ai_C} (hO : ai_gO sa.2 r ad E.1 hh) (hc : ai_cell hh q = some d) (hd : ∀ x, d ≠ .inr (.inl x)) : 16 ≤ q := by
  by_cases h : 16 ≤ q
  · exact h
  · obtain ⟨z9, -, lo', hi', l', ec, -⟩ := hO q (by omega) _ hc
    exact absurd ec (hd _)
theorem ai_getf_ok {ci j idx : Nat} (hx : p.tables.exec = Jvm.exec) (hb : c.code = cc) (hts : ∀ w ∈ Ts, w.before args s = true) (hown : s.vm.findClass own = some m.cls) (hK : va_K D vwCl (ai_tys tyc) s) (hcl : ai_cls Ts dflt kind ci)
    (hlink : ∀ C T N, vwCl[ci]? = some (C, T, N) → j < N ∧ Cond.fieldLink own idx (T j).1 (T j).2.1 (T j).2.2.1 ∈ Ts) (hdg : decode cc pc = .ok (.getfield idx, 3))
    (h : ai_getf ci j (pc + 3) L S G = some (.inl fs)) (hR : ai_Rel D tyc A s sa ws0 nL r ad L S G H locs ls st) (k : ∀ f ∈ fs, ai_Cn p l e R s m args below meth c Q D tyc A sa ws0 nL r ad G f) : W p l e R s m args below meth c H locs G.2.2.1 G.2.2.2 Q (F0 m pc ls st) := by
  obtain ⟨q, S', E, hh, cs, sl, xs, a, rfl, rfl, hc, ha, rfl⟩ := ai_getf_inv h
  obtain ⟨C, T, N, ty, k1, k2, k3, k4, k5, k6, k7, k8, k9⟩ := hcl
  obtain ⟨g1, g2⟩ := hlink C T N k1
  have hR0 := hR
  obtain ⟨ws, hP, hD, hS, hE, hH, hO, hsa, hL, hSt⟩ := hR
  obtain ⟨t, rfl, hq, h2⟩ := ai_gF.ref hSt
  have h16 := ai_old hO hc (fun x q => by cases q)
  obtain ⟨x, hw, hg⟩ := hH.at h16 hq hc
  obtain ⟨vs, rfl, hvs⟩ := hg
  obtain ⟨v, e1, e2⟩ := hvs.get ha
  exact va_get (C := C) (T := T) (N := N) (ref := (T j).1) hx hb hts k2 hown hK hP (q - 16) hw k1 j g1 (hts _ g2) (fun _ h => h) e1 hdg ((k _ List.mem_cons_self).st' (G := (E, hh, cs, sl)) hR0 ⟨e2, h2⟩)
theorem ai_setv_len : ∀ (l : List ai_V) (k : Nat) (v : ai_V), (ai_setv l k v).length = l.length
  | [], _, _ => rfl
  | _ :: _, 0, _ => rfl
  | _ :: l, k + 1, v => congrArg Nat.succ (ai_setv_len l k v)
theorem ai_putf_ok {ci j idx : Nat} (hx : p.tables.exec = Jvm.exec) (hb : c.code = cc) (hts : ∀ w ∈ Ts, w.before args s = true) (hown : s.vm.findClass own = some m.cls) (hK : va_K D vwCl (ai_tys tyc) s) (hcl : ai_cls Ts dflt kind ci)
    (hlink : ∀ C T N, vwCl[ci]? = some (C, T, N) → j < N ∧ Cond.fieldLink own idx (T j).1 (T j).2.1 (T j).2.2.1 ∈ Ts ∧ ((T j).2.2.2 = true → meth.name = "<init>" ∧ (T j).1 = own)) (hdg : decode cc pc = .ok (.putfield idx, 3))
    (h : ai_putf kind ci j (pc + 3) L S G = some (.inl fs)) (hR : ai_Rel D tyc A s sa ws0 nL r ad L S G H locs ls st) (k : ∀ f ∈ fs, ai_Cn p l e R s m args below meth c Q D tyc A sa ws0 nL r ad G f) : W p l e R s m args below meth c H locs G.2.2.1 G.2.2.2 Q (F0 m pc ls st) := by
  obtain ⟨a, q, S', E, hh, cs, sl, xs, h', rfl, rfl, hc, hj, hok, ep, rfl⟩ := ai_putf_inv h
  obtain ⟨C, T, N, ty, k1, k2, k3, k4, k5, k6, k7, k8, k9⟩ := hcl
  obtain ⟨g1, g2, g3⟩ := hlink C T N k1
  obtain ⟨ws, hP, hD, hS, hE, hH, hO, hsa, hL, hSt⟩ := hR
  obtain ⟨v, t0, rfl, hv, h0⟩ := ai_gF.cons hSt
  obtain ⟨t, rfl, hq, h2⟩ := h0.ref
  have h16 := (ai_put_ok ep).1
  obtain ⟨x, hw, hg⟩ := hH.at h16 hq hc
  obtain ⟨vs, rfl, hvs⟩ := hg
  rw [k9 j g1] at hok
  obtain ⟨f1, f2⟩ := ai_fits hE rfl hv hok
  have hlen := hvs.len
  have kk : ∀ (H1 : Heap) (locs1 : List Loc), va_P D vwCl (ws.set (q - 16) (ad q, .inr (ci, vs.set j v))) H1 → va_D A (ws.set (q - 16) (ad q, .inr (ci, vs.set j v))) → va_S A s.heap H1 locs1 → W p l e R s m args below meth c H1 locs1 cs sl Q (F0 m (pc + 3) ls t) := fun H1 locs1 hP1 hD1 hS1 =>
    (k _ List.mem_cons_self).put ep hE hH hO hsa hL h2 ⟨_, rfl, hvs.set hv⟩ hP1 hD1 hS1
  cases hf : (T j).2.2.2 with
  | false => exact va_put (C := C) (T := T) (N := N) (ref := (T j).1) hx hb hts k2 ty k3 k4 hown hK hP hD hS (q - 16) hw k1 j g1 (hts _ g2) (fun _ h => h) hf (k3 j g1) f1 f2 (by omega) hdg kk
  | true =>
    obtain ⟨i1, i2⟩ := g3 hf
    exact va_putF (C := C) (T := T) (N := N) (ref := (T j).1) hx hb hts k2 ty k3 k4 hown hK hP hD hS (q - 16) hw k1 j g1 (hts _ g2) (fun _ h => h) hf i1 i2 (k3 j g1) f1 f2 (by omega) hdg kk
/-- a reference out of an array -/
theorem ai_ald (hx : p.tables.exec = Jvm.exec) (hb : c.code = cc) (hK : va_K D vwCl (ai_tys tyc) s) {ws : va_W} (hP : va_P D vwCl ws H) {q0 a n ty : Nat} (hty : ty = 3 ∨ ty = 4 ∨ ty = 5) {f : Nat → Option Nat} (ha : ws[q0]? = some (a, .inl (tyc ty, n, .inr (.inr (.inr (.inr f)))))) {i : Int32} (hin : vp_in i n) {rest : List Value} {cells slots : Nat} (hdg : decode cc pc = .ok (.aaload, 1))
    (kk : W p l e R s m args below meth c H locs cells slots Q (F0 m (pc + 1) ls (va_rf (f i.toNatClampNeg) :: rest))) : W p l e R s m args below meth c H locs cells slots Q (F0 m pc ls (.int i :: .ref a :: rest)) := by
  have hlt : i.toNatClampNeg < n := Nat.not_le.mp fun q => hin (Or.inr q)
  have harr : ∃ t : FieldType, t.isReference = true ∧ ArrOfT s (tyc ty) t := by
    rcases hty with rfl | rfl | rfl
    · exact ⟨.array .int, rfl, (hK.2 3 _ rfl).1⟩
    · exact ⟨.object RX4, rfl, (hK.2 4 _ rfl).1⟩
    · exact ⟨.object "java/lang/String", rfl, (hK.2 5 _ rfl).1⟩
  obtain ⟨t, ht, har⟩ := harr
  exact W.aald (v := va_rf (f i.toNatClampNeg)) (ty := t) hx hb (hP q0 _ ha) (har n (fun j => va_rf (f j))) ht (fun q => by cases q) (by show ¬ (i < 0 ∨ (arrV _ _ _).slots.size ≤ _); rw [arrV_size]; exact hin) (by show (arrV _ _ _).slots[_]? = _; rw [arrV_read _ _ hlt]) rfl rfl hdg kk
theorem ai_aget_ok (hx : p.tables.exec = Jvm.exec) (hb : c.code = cc) (hK : va_K D vwCl (ai_tys tyc) s) (hdg : decode cc pc = .ok (.aaload, 1))
    (h : ai_aget (pc + 1) L S G = some (.inl fs)) (hR : ai_Rel D tyc A s sa ws0 nL r ad L S G H locs ls st) (k : ∀ f ∈ fs, ai_Cn p l e R s m args below meth c Q D tyc A sa ws0 nL r ad G f) : W p l e R s m args below meth c H locs G.2.2.1 G.2.2.2 Q (F0 m pc ls st) := by
  unfold ai_aget at h
  split at h
  · rename_i i q S'
    obtain ⟨E, hh, cs, sl⟩ := G
    have hR0 := hR
    obtain ⟨ws, hP, hD, hS, hE, hH, hO, hsa, hL, hSt⟩ := hR
    obtain ⟨ix, t1, rfl, hi1, hi2, h1⟩ := ai_gF.int hSt
    obtain ⟨t, rfl, hq, h2⟩ := h1.ref
    dsimp only at h
    split at h
    · rename_i ty rs hc
      have h16 := ai_old hO hc (fun x q => by cases q)
      obtain ⟨x, hw, hg⟩ := hH.at h16 hq hc
      obtain ⟨hty, f, rfl, hg⟩ := hg
      split at h
      · rename_i k0
        split at h
        · rename_i v ev
          have hf := ai_go_eq h
          subst hf
          have ev := ai_geta_ok ev
          have hj : k0 < rs.length := (List.getElem?_eq_some_iff.mp ev).1
          have hij : ix.toInt = (k0 : Int) := by
            rw [hi2]
            show r 0 + (k0 : Int) = k0
            rw [hE.1]; omega
          obtain ⟨hvp, hcl⟩ := ai_vpin hij hj
          refine ai_ald hx hb hK hP hty hw hvp hdg ?_
          rw [hcl]
          exact (k _ List.mem_cons_self).st' (G := (E, hh, cs, sl)) hR0 ⟨hg.val ev, h2⟩
        · cases h
      · split at h
        · rename_i ein
          cases h
          obtain ⟨j, hj, hij⟩ := ai_inb_ok hE hi1 ein
          obtain ⟨hvp, hcl⟩ := ai_vpin (i := ix) (by rw [hi2]; exact hij) hj
          refine ai_ald hx hb hK hP hty hw hvp hdg ?_
          rw [hcl]
          have hv : ai_vx r (0, Int.ofNat j) = (j : Int) := by
            show r 0 + (j : Int) = j
            rw [hE.1]; omega
          obtain ⟨E1, f1, f2, f3⟩ := ai_same_ok hE (x := i) (y := (0, .ofNat j)) hi1 hE.2.1 (by rw [hv]; exact hij)
          have el : rs[j]? = some rs[j] := List.getElem?_eq_getElem hj
          have hm := ai_aall_mem (E := E) (i := i) (rs := rs) (nx := pc + 1) (L := L) (S := S') (h := hh) (cs := cs) (sl := sl) (j0 := 0) (E1 := E1) el (by rw [Nat.zero_add]; exact f1)
          refine (k _ hm).re (G := (E, hh, cs, sl)) hR0 ai_ext.rfl' (by rw [f3]; exact Nat.le_refl _) f2 ?_
          rw [f3]
          exact ⟨hg.val el, h2⟩
        · cases h
    · cases h
  · cases h
theorem ai_alen_ok (hx : p.tables.exec = Jvm.exec) (hb : c.code = cc) (hK : va_K D vwCl (ai_tys tyc) s) (hxo : ai_Xo sa.2 A s) (hdg : decode cc pc = .ok (.arraylength, 1))
    (h : ai_alen (pc + 1) L S G = some (.inl fs)) (hR : ai_Rel D tyc A s sa ws0 nL r ad L S G H locs ls st) (k : ∀ f ∈ fs, ai_Cn p l e R s m args below meth c Q D tyc A sa ws0 nL r ad G f) : W p l e R s m args below meth c H locs G.2.2.1 G.2.2.2 Q (F0 m pc ls st) := by
  unfold ai_alen at h
  split at h
  · rename_i q S'
    obtain ⟨E, hh, cs, sl⟩ := G
    have hR0 := hR
    obtain ⟨ws, hP, hD, hS, hE, hH, hO, hsa, hL, hSt⟩ := hR
    obtain ⟨t, rfl, hq, h2⟩ := ai_gF.ref hSt
    dsimp only at h
    split at h
    · rename_i n en
      split at h
      · rename_i e1
        have hn : n < 1000000 := Nat.le_of_ble_eq_true e1
        have hf := ai_go_eq h
        subst hf
        have hv : (Int32.ofNat n).toInt = ai_vx r (0, Int.ofNat n) := by
          show (nI n).toInt = r 0 + (n : Int)
          rw [nI_toInt (by omega), hE.1]; omega
        have fin := (k _ List.mem_cons_self).st' (G := (E, hh, cs, sl)) hR0 (st' := .int (Int32.ofNat n) :: t) ⟨⟨hE.2.1, _, rfl, hv⟩, h2⟩
        unfold ai_size at en
        split at en
        · rename_i ty n' rst hc
          cases en
          by_cases h16 : 16 ≤ q
          · obtain ⟨x, hw, hg⟩ := hH.at h16 hq hc
            rcases hg with ⟨rfl, f, rfl, -⟩ | ⟨rfl | rfl, f, rfl, -⟩
            · exact va_alen hx hb hK hP (q - 16) 1 hw rfl rfl hdg fin
            · exact va_alen hx hb hK hP (q - 16) 0 hw rfl rfl hdg fin
            · exact va_alen hx hb hK hP (q - 16) 2 hw rfl rfl hdg fin
          · obtain ⟨m', lo', hi', l', xs, ec, hX, hl1, hl2, -⟩ := hO.use hxo q (by omega) _ hc
            cases ec
            exact va_slen hx hb hX hl1 hl2 hS hdg fin
        · rename_i ty rs hc
          cases en
          have h16 := ai_old hO hc (fun x q => by cases q)
          obtain ⟨x, hw, hg⟩ := hH.at h16 hq hc
          obtain ⟨rfl | rfl | rfl, f, rfl, -⟩ := hg
          · exact va_alen hx hb hK hP (q - 16) 3 hw rfl rfl hdg fin
          · exact va_alen hx hb hK hP (q - 16) 4 hw rfl rfl hdg fin
          · exact va_alen hx hb hK hP (q - 16) 5 hw rfl rfl hdg fin
        · cases en
      · cases h
    · cases h
  · cases h
theorem ai_aput_ok (hx : p.tables.exec = Jvm.exec) (hb : c.code = cc) (hK : va_K D vwCl (ai_tys tyc) s) (hstr : ∀ i, i < 10 → va_O "java/lang/String" (sa.1 i) A s s.heap) (hdg : decode cc pc = .ok (.aastore, 1))
    (h : ai_aput (pc + 1) L S G = some (.inl fs)) (hR : ai_Rel D tyc A s sa ws0 nL r ad L S G H locs ls st) (k : ∀ f ∈ fs, ai_Cn p l e R s m args below meth c Q D tyc A sa ws0 nL r ad G f) : W p l e R s m args below meth c H locs G.2.2.1 G.2.2.2 Q (F0 m pc ls st) := by
  unfold ai_aput at h
  split at h
  · rename_i v k0 q S'
    obtain ⟨E, hh, cs, sl⟩ := G
    obtain ⟨ws, hP, hD, hS, hE, hH, hO, hsa, hL, hSt⟩ := hR
    obtain ⟨t0, rfl, hv, h0⟩ := ai_gF.ref hSt
    obtain ⟨ix, t1, rfl, hi1, hi2, h1⟩ := h0.int
    obtain ⟨t, rfl, hq, h2⟩ := h1.ref
    dsimp only at h
    split at h
    · rename_i ty rs hc
      split at h
      · rename_i e1 e2
        split at h
        · rename_i h' ep
          have hf := ai_go_eq h
          subst hf
          have hj : k0 < rs.length := Nat.le_of_ble_eq_true e1
          have hij : ix.toInt = (k0 : Int) := by
            rw [hi2]
            show r 0 + (k0 : Int) = k0
            rw [hE.1]; omega
          obtain ⟨hvp, hcl⟩ := ai_vpin hij hj
          have h16 := (ai_put_ok ep).1
          obtain ⟨x, hw, hg⟩ := hH.at h16 hq hc
          obtain ⟨hty, f, rfl, hg⟩ := hg
          have hlen : (ai_seta rs k0 (some v)).length = rs.length := by rw [ai_seta_ok, List.length_set]
          have hnew : ai_gC tyc r ad E.1 hh.1 (.inr (.inr (ty, ai_seta rs k0 (some v)))) (.inl (tyc ty, rs.length, .inr (.inr (.inr (.inr (va_up f k0 (some (ad v)))))))) := by
            refine ⟨hty, _, by rw [hlen], fun a b hb => ?_⟩
            rw [ai_seta_ok] at hb
            by_cases e : a = k0
            · subst e
              rw [List.getElem?_set_self hj] at hb
              cases hb
              exact ⟨fun h => (by cases h), fun z hz => by cases hz; exact ⟨hv, by simp [va_up]⟩⟩
            · rw [List.getElem?_set_ne (Ne.symm e)] at hb
              obtain ⟨g1, g2⟩ := hg a b hb
              have eu : va_up f k0 (some (ad v)) a = f a := by simp [va_up, e]
              rw [eu]
              exact ⟨g1, g2⟩
          have fin : ∀ (H1 : Heap) (locs1 : List Loc), va_P D vwCl (ws.set (q - 16) (ad q, .inl (tyc ty, rs.length, .inr (.inr (.inr (.inr (va_up f ix.toNatClampNeg (some (ad v))))))))) H1 → va_D A (ws.set (q - 16) (ad q, .inl (tyc ty, rs.length, .inr (.inr (.inr (.inr (va_up f ix.toNatClampNeg (some (ad v))))))))) → va_S A s.heap H1 locs1 → W p l e R s m args below meth c H1 locs1 cs sl Q (F0 m (pc + 1) ls t) := fun H1 locs1 hP1 hD1 hS1 => by
            rw [hcl] at hP1 hD1
            exact (k _ List.mem_cons_self).put ep hE hH hO hsa hL h2 hnew hP1 hD1 hS1
          unfold ai_oka at e2
          split at e2
          · split at e2
            · rename_i xs hcv
              have hv16 := Nat.le_of_ble_eq_true e2
              obtain ⟨x2, hw2, hg2⟩ := hH.at hv16 hv hcv
              obtain ⟨vs, rfl, -⟩ := hg2
              exact va_astq hx hb hK hP hD hS (q - 16) 4 (v - 16) 4 (r := (RX4, TX4, 15)) hw rfl hw2 rfl hvp hdg fin
            · cases e2
          · split at e2
            · rename_i e3
              have e3 := Nat.le_of_ble_eq_true e3
              have e2 := Nat.le_of_ble_eq_true e2
              have es : ad v = sa.1 (v - 1) := by
                have := hsa (v - 1) (by omega)
                rw [show v - 1 + 1 = v by omega] at this
                exact this
              have hany : va_Any "java/lang/String" s H (ad v) := by
                rw [es]
                obtain ⟨cell, c1, c2, c3, c4⟩ := hstr (v - 1) (by omega)
                obtain ⟨kC, hk1, -⟩ := Vm.findClass_spec c3
                refine ⟨cell, ?_, c2, ⟨kC, hk1⟩, fun comp hcomp => ?_⟩
                · rw [hS.2.1 _ (Array.getElem?_eq_some_iff.mp c1).1 c4]; exact c1
                · have : comp = cell.cls := Option.some.inj (hcomp.symm.trans c3)
                  subst this
                  exact ai_asg _ _
              exact va_astqM hx hb hK hP hD hS (q - 16) 5 hw rfl hany hvp hdg fin
            · cases e2
          · cases e2
        · cases h
      · cases h
    · cases h
  · cases h
end SO
