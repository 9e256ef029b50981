/-! COPIES, SWITCHES AND THE REST: on the machine -/
theorem ai_gL.set2 {r : Nat → Int} {ad : Nat → Nat} {N n nL : Nat} {L : List ai_V} {ls ls' : Array Slot} (h : ai_gL r ad N n nL L ls) {i : Nat} (hi : i + 1 < nL) {a : ai_V} {v : Value} (ha : ai_gV r ad N n a v) (g : lv_has ls' nL ((i, v) :: (ai_pairs ls L).filter (fun q => !(q.1 == i) && (!(q.1 == i + 1) && !(q.1 + 1 == i && q.2.category == 2))))) : ai_gL r ad N n nL (ai_lset2 L i a) ls' := by
  have hl : (ai_lset L (i + 1) (.inr (.inr none))).length = nL := (ai_lset_len _ _ _).trans h.1
  refine ⟨(ai_lset_len _ _ _).trans hl, g.1, g.2.1, fun j hj => ?_⟩
  unfold ai_lset2 at hj ⊢
  rw [ai_lget_set _ i a (by rw [hl]; omega)] at hj ⊢
  by_cases e : j = i
  · subst e
    rw [if_pos rfl]
    exact ⟨v, g.2.2 _ List.mem_cons_self, ha⟩
  · rw [if_neg e] at hj ⊢
    have hget := ai_lget_set L (i + 1) (.inr (.inr none)) (by rw [h.1]; omega) j
    rw [if_neg (show ¬ j + 1 = i + 1 by omega)] at hget
    rw [hget] at hj ⊢
    by_cases e3 : j = i + 1
    · rw [if_pos e3] at hj ⊢
      rw [if_neg (show ¬ j + 1 = i by omega)] at hj
      exact absurd rfl hj
    · rw [if_neg e3] at hj ⊢
      by_cases e2 : j + 1 = i
      · rw [if_pos e2] at hj ⊢
        have hk : ai_lget L j ≠ .inr (.inr none) ∧ ai_kill (ai_lget L j) = ai_lget L j ∧ ai_one (ai_lget L j) = true := by
          cases e3 : ai_lget L j with
          | inl x => exact ⟨fun q => (by cases q), rfl, rfl⟩
          | inr x => cases x with
            | inl x => rw [e3] at hj; exact absurd rfl hj
            | inr x => cases x with
              | none => rw [e3] at hj; exact absurd rfl hj
              | some x => exact ⟨fun q => (by cases q), rfl, rfl⟩
        obtain ⟨w, k1, k2⟩ := ai_pairs_mem h hk.1
        rw [hk.2.1]
        refine ⟨w, g.2.2 (j, w) (List.mem_cons_of_mem _ (List.mem_filter.mpr ⟨k1, ?_⟩)), k2⟩
        have c2 := k2.cat.1 hk.2.2
        simp [e, e3, c2]
      · rw [if_neg e2] at hj ⊢
        obtain ⟨w, k1, k2⟩ := ai_pairs_mem h hj
        refine ⟨w, g.2.2 (j, w) (List.mem_cons_of_mem _ (List.mem_filter.mpr ⟨k1, ?_⟩)), k2⟩
        simp [e, e2, e3]
theorem ai_sw1_mem {E : ai_E} {x : ai_X} {L S : List ai_V} {h : ai_H} {cs sl pc : Nat} : ∀ {offs : List Int} {v0 : Int} {j : Nat} {off : Int} {E1 : ai_E}, offs[j]? = some off → ai_same E x (0, v0 + (j : Int)) = some E1 → ((Int.ofNat pc + off).toNat, L, S, (E1, h, cs, sl)) ∈ ai_sw1 E x L S h cs sl pc v0 offs
  | [], _, _, _, _, h, _ => by cases h
  | o :: l, v0, 0, off, E1, hq, e => by
    cases hq
    have e : ai_same E x (0, v0) = some E1 := by
      rw [show v0 + ((0 : Nat) : Int) = v0 by omega] at e; exact e
    unfold ai_sw1
    rw [e]
    exact List.mem_cons_self
  | o :: l, v0, j + 1, off, E1, hq, e => by
    rw [List.getElem?_cons_succ] at hq
    have ih := ai_sw1_mem (L := L) (S := S) (h := h) (cs := cs) (sl := sl) (pc := pc) (offs := l) (v0 := v0 + 1) hq (by rw [show v0 + 1 + (j : Int) = v0 + ((j + 1 : Nat) : Int) by omega]; exact e)
    unfold ai_sw1
    split
    · exact List.mem_cons_of_mem _ ih
    · exact ih
section SR
variable {p : Program} {l : Launch} {e : Env} {R : Room} {s : State} {m : MethodId} {args : Array Value} {below : List Frame} {meth : Method} {c : Code} {Q : State → Prop}
variable {D : va_G} {tyc : Nat → ClassId} {A : Nat → Prop} {sa : ai_B} {ws0 : va_W} {nL : Nat} {cc : ByteArray} {own : String} {Ts : List Cond}
variable {r : Nat → Int} {ad : Nat → Nat} {L S : List ai_V} {G : ai_G} {H : Heap} {locs : List Loc} {ls : Array Slot} {st : List Value} {pc nx : Nat} {fs : List ai_F} {dflt : Nat → List ai_V} {kind : Nat → Nat → Nat}
theorem ai_stol_ok {i : Nat} (row : ∀ (x : Int64) (rest : List Value) (lv' : List (Nat × Value)), i + 1 < nL → (i, Value.long x) :: (ai_pairs ls L).filter (fun q => !(q.1 == i) && (!(q.1 == i + 1) && !(q.1 + 1 == i && q.2.category == 2))) = lv' → lv_has ls nL (ai_pairs ls L) → (∀ ls' : Array Slot, lv_has ls' nL lv' → W p l e R s m args below meth c H locs G.2.2.1 G.2.2.2 Q (F0 m nx ls' rest)) → W p l e R s m args below meth c H locs G.2.2.1 G.2.2.2 Q (F0 m pc ls (.long x :: rest)))
    (h : ai_stol i nx L S G = some (.inl fs)) (hR : ai_Rel D tyc A s sa ws0 nL r ad L S G H locs ls st) (k : ∀ f ∈ fs, ai_Cn p l e R s m args below meth c Q D tyc A sa ws0 nL r ad G f) : W p l e R s m args below meth c H locs G.2.2.1 G.2.2.2 Q (F0 m pc ls st) := by
  obtain ⟨ws, hP, hD, hS, hE, hH, hO, hsa, hL, hSt⟩ := hR
  unfold ai_stol at h
  split at h
  · rename_i x S'
    obtain ⟨v, t, rfl, g0, g1, g2⟩ := ai_gF.long hSt
    split at h
    · rename_i e2
      have hf := ai_go_eq h
      subst hf
      have hi : i + 1 < L.length := Nat.le_of_ble_eq_true e2
      rw [hL.1] at hi
      refine row v t _ hi rfl (ai_pairs_has hL) (fun ls' hl' => ?_)
      exact k _ List.mem_cons_self r ad ai_ext.rfl' ai_ext.rfl' (Nat.le_refl _) (Nat.le_refl _) H locs ls' t ⟨ws, hP, hD, hS, hE, hH, hO, hsa, hL.set2 hi (a := .inr (.inl x)) ⟨g0, v, rfl, g1⟩ hl', g2⟩
    · cases h
  · cases h
theorem ai_iinc_ok {i : Nat} {n : Int} (hx : p.tables.exec = Jvm.exec) (hb : c.code = cc) (hn : ai_lo32 ≤ n ∧ n ≤ ai_hi32) (hdg : decode cc pc = .ok (.iinc i n, 3)) {x z : ai_X} {E' : ai_E} (hl : ai_lget L i = .inl x) (hi : i < L.length) (hbin : ai_bin G.1 0 x (0, n) = (z, E')) (hR : ai_Rel D tyc A s sa ws0 nL r ad L S G H locs ls st) (k : ai_Cn p l e R s m args below meth c Q D tyc A sa ws0 nL r ad G (pc + 3, ai_lset L i (.inl z), S, (E', G.2))) : W p l e R s m args below meth c H locs G.2.2.1 G.2.2.2 Q (F0 m pc ls st) := by
  obtain ⟨ws, hP, hD, hS, hE, hH, hO, hsa, hL, hSt⟩ := hR
  obtain ⟨v, g1, g2⟩ := ai_pairs_mem hL (i := i) (by rw [hl]; exact fun q => by cases q)
  rw [hl] at g2
  obtain ⟨hx1, ix, rfl, hx2⟩ := g2
  obtain ⟨kk, hkk⟩ := List.getElem?_of_mem g1
  have hn2 : (Int32.ofInt n).toInt = ai_vx r (0, n) := by
    show _ = r 0 + n
    rw [hE.1, Int32.toInt_ofInt_of_le (by unfold ai_lo32 at hn; omega) (by unfold ai_hi32 at hn; omega)]; omega
  obtain ⟨r', f1, f2, f3, f4, f5⟩ := ai_bin32 (o := 0) (by decide) hE hx1 hE.2.1 hx2 hn2 hbin
  rw [hL.1] at hi
  refine lv_iinc (v := ix + Int32.ofInt n) hx hb hdg (ai_pairs_has hL) hkk rfl hi rfl (fun ls' hl' => ?_)
  refine k r' ad f1 ai_ext.rfl' f2 (Nat.le_refl _) H locs ls' st ⟨ws, hP, hD, hS, f3, hH.mono f1 f2, hO.mono hH.1.1 f1 ai_ext.rfl' f2, hsa, (hL.mono f1 ai_ext.rfl' f2 (Nat.le_refl _)).set hi (a := .inl z) ⟨f4, _, rfl, f5⟩ rfl hl', hSt.mono f1 ai_ext.rfl' f2 (Nat.le_refl _)⟩
theorem ai_tsw_ok {d lo hi : Int} {offs : Array Int} {len : Nat} (hx : p.tables.exec = Jvm.exec) (hb : c.code = cc) (hok : 0 ≤ (pc : Int) + d ∧ (∀ o ∈ offs.toList, 0 ≤ (pc : Int) + o) ∧ offs.toList.length = (hi - lo + 1).toNat) (hdg : decode cc pc = .ok (.tableswitch d lo hi offs, len))
    (h : ai_tsw d lo hi offs.toList pc L S G = some (.inl fs)) (hR : ai_Rel D tyc A s sa ws0 nL r ad L S G H locs ls st) (k : ∀ f ∈ fs, ai_Cn p l e R s m args below meth c Q D tyc A sa ws0 nL r ad G f) : W p l e R s m args below meth c H locs G.2.2.1 G.2.2.2 Q (F0 m pc ls st) := by
  unfold ai_tsw at h
  split at h
  · rename_i x S'
    obtain ⟨E, hh, cs, sl⟩ := G
    have hE : ai_gE r E := hR.env
    obtain ⟨ix, t, rfl, hx1, hx2, h1⟩ := hR.stk.int
    cases h
    have hc : ∀ v : Int, ai_vx r (0, v) = v := fun v => by
      show r 0 + v = v
      rw [hE.1]; omega
    have go : ∀ {E1 : ai_E} {tgt : Nat}, ai_gE r E1 → E1.1 = E.1 → ai_Cn p l e R s m args below meth c Q D tyc A sa ws0 nL r ad (E, hh, cs, sl) (tgt, L, S', (E1, hh, cs, sl)) → W p l e R s m args below meth c H locs cs sl Q (F0 m tgt ls t) := fun {E1} {tgt} g1 g2 kk =>
      kk.re (G := (E, hh, cs, sl)) hR ai_ext.rfl' (by rw [g2]; exact Nat.le_refl _) g1 (by rw [g2]; exact h1)
    by_cases c1 : ix.toInt < lo
    · obtain ⟨E1, f1, f2, f3⟩ := ai_leq_ok hE (x := x) (y := (0, lo)) (k := -1) hx1 hE.2.1 (by rw [hc]; omega)
      refine lv_tableOut (tgt := (Int.ofNat pc + d).toNat) hx hb hdg (Or.inl c1) (by rw [Int.toNat_of_nonneg (by exact hok.1)]; rfl) (go f2 f3 (k _ ?_))
      refine List.mem_append_left _ ?_
      rw [f1]; exact List.mem_cons_self
    · by_cases c2 : hi < ix.toInt
      · obtain ⟨E1, f1, f2, f3⟩ := ai_leq_ok hE (x := (0, hi)) (y := x) (k := -1) hE.2.1 hx1 (by rw [hc]; omega)
        refine lv_tableOut (tgt := (Int.ofNat pc + d).toNat) hx hb hdg (Or.inr c2) (by rw [Int.toNat_of_nonneg (by exact hok.1)]; rfl) (go f2 f3 (k _ ?_))
        refine List.mem_append_right _ (List.mem_append_left _ ?_)
        rw [f1]; exact List.mem_cons_self
      · have hj : (ix.toInt - lo).toNat < offs.toList.length := by rw [hok.2.2]; omega
        obtain ⟨E1, f1, f2, f3⟩ := ai_same_ok hE (x := x) (y := (0, lo + ((ix.toInt - lo).toNat : Int))) hx1 hE.2.1 (by rw [hc]; omega)
        have ho : offs.toList[(ix.toInt - lo).toNat]? = some (offs.toList[(ix.toInt - lo).toNat]) := List.getElem?_eq_getElem hj
        have hm := ai_sw1_mem (L := L) (S := S') (h := hh) (cs := cs) (sl := sl) (pc := pc) ho f1
        refine lv_tableIn (tgt := (Int.ofNat pc + offs.toList[(ix.toInt - lo).toNat]).toNat) (off := offs.toList[(ix.toInt - lo).toNat]) hx hb hdg c1 c2 (by rw [← Array.getElem?_toList]; exact ho) (by rw [Int.toNat_of_nonneg (by exact hok.2.1 _ (List.getElem_mem hj))]; rfl) (go f2 f3 (k _ ?_))
        exact List.mem_append_right _ (List.mem_append_right _ hm)
  · cases h
theorem ai_lsw1_ok {r : Nat → Int} {x : ai_X} {key : Int} (hx : ai_vx r x = key) {L S : List ai_V} {h : ai_H} {cs sl pc : Nat} {d : Int} : ∀ {ps : List (Int × Int)} {E : ai_E}, ai_gE r E → x.1 < E.1 → ∃ E1, ai_gE r E1 ∧ E1.1 = E.1 ∧ ((Int.ofNat pc + lookupswitch.offset ps d key).toNat, L, S, (E1, h, cs, sl)) ∈ ai_lsw1 x L S h cs sl pc d E ps
  | [], E, hE, _ => ⟨E, hE, rfl, List.mem_cons_self⟩
  | (v, off) :: ps, E, hE, hn => by
    have hc : ai_vx r (0, v) = v := by
      show r 0 + v = v
      rw [hE.1]; omega
    rw [lookupswitch.offset_cons]
    unfold ai_lsw1
    by_cases q : v = key
    · rw [if_pos q]
      obtain ⟨E1, f1, f2, f3⟩ := ai_same_ok hE (x := x) (y := (0, v)) hn hE.2.1 (by rw [hc, hx, q])
      rw [f1]
      cases ai_differ E x (0, v) with
      | none => exact ⟨E1, f2, f3, List.mem_cons_self⟩
      | some E2 => exact ⟨E1, f2, f3, List.mem_cons_self⟩
    · rw [if_neg q]
      obtain ⟨E2, f1, f2, f3⟩ := ai_differ_ok hE (x := x) (y := (0, v)) hn hE.2.1 (by rw [hc, hx]; exact fun z => q z.symm)
      rw [f1]
      obtain ⟨E1, g1, g2, g3⟩ := ai_lsw1_ok hx (L := L) (S := S) (h := h) (cs := cs) (sl := sl) (pc := pc) (d := d) (ps := ps) f2 (by rw [f3]; exact hn)
      cases ai_same E x (0, v) with
      | none => exact ⟨E1, g1, g2.trans f3, g3⟩
      | some E3 => exact ⟨E1, g1, g2.trans f3, List.mem_cons_of_mem _ g3⟩
theorem ai_lsw_off {d key : Int} {pc : Nat} : ∀ {ps : List (Int × Int)}, 0 ≤ (pc : Int) + d → (∀ q ∈ ps, 0 ≤ (pc : Int) + q.2) → 0 ≤ (pc : Int) + lookupswitch.offset ps d key
  | [], h, _ => h
  | (v, off) :: ps, h, g => by
    rw [lookupswitch.offset_cons]
    by_cases q : v = key
    · rw [if_pos q]
      exact g _ List.mem_cons_self
    · rw [if_neg q]
      exact ai_lsw_off h (fun q hq => g q (List.mem_cons_of_mem _ hq))
theorem ai_lsw_ok {d : Int} {ps : Array (Int × Int)} {len : Nat} (hx : p.tables.exec = Jvm.exec) (hb : c.code = cc) (hok : (0 ≤ (pc : Int) + d ∧ ∀ q ∈ ps.toList, 0 ≤ (pc : Int) + q.2) ∧ (ps.toList.zip (ps.toList.drop 1)).all (fun (a, next) => a.1 < next.1) = true) (hdg : decode cc pc = .ok (.lookupswitch d ps, len))
    (h : ai_lsw d ps.toList pc L S G = some (.inl fs)) (hR : ai_Rel D tyc A s sa ws0 nL r ad L S G H locs ls st) (k : ∀ f ∈ fs, ai_Cn p l e R s m args below meth c Q D tyc A sa ws0 nL r ad G f) : W p l e R s m args below meth c H locs G.2.2.1 G.2.2.2 Q (F0 m pc ls st) := by
  unfold ai_lsw at h
  split at h
  · rename_i x S'
    obtain ⟨E, hh, cs, sl⟩ := G
    have hE : ai_gE r E := hR.env
    obtain ⟨ix, t, rfl, hx1, hx2, h1⟩ := hR.stk.int
    cases h
    obtain ⟨E1, f1, f2, f3⟩ := ai_lsw1_ok (key := ix.toInt) hx2.symm (L := L) (S := S') (h := hh) (cs := cs) (sl := sl) (pc := pc) (d := d) (ps := ps.toList) hE hx1
    refine lv_lookup (tgt := (Int.ofNat pc + lookupswitch.offset ps.toList d ix.toInt).toNat) hx hb hdg hok.2 rfl (by rw [Int.toNat_of_nonneg (by exact ai_lsw_off hok.1.1 hok.1.2)]; rfl) ?_
    exact (k _ f3).re (G := (E, hh, cs, sl)) hR ai_ext.rfl' (by rw [f2]; exact Nat.le_refl _) f1 (by rw [f2]; exact h1)
  · cases h
theorem ai_copy_ok {idx : Nat} (hx : p.tables.exec = Jvm.exec) (hb : c.code = cc) (hml : c.maxLocals = nL) (hts : ∀ w ∈ Ts, w.before args s = true) (hown : s.vm.findClass own = some m.cls) (hK : va_K D vwCl (ai_tys tyc) s)
    (hlink : Cond.methodLink own idx arraycopyName ∈ Ts ∧ Cond.native arraycopyName ∈ Ts ∧ Cond.static arraycopyName ∈ Ts ∧ Cond.initialized "java/lang/System" ∈ Ts) (hroom : 1 ≤ R.frames ∧ 200 ≤ R.locals) (hw : ai_words S ≤ 40) (hdg : decode cc pc = .ok (.invokestatic idx, 3))
    (h : ai_copy (pc + 3) L S G = some (.inl fs)) (hR : ai_Rel D tyc A s sa ws0 nL r ad L S G H locs ls st) (k : ∀ f ∈ fs, ai_Cn p l e R s m args below meth c Q D tyc A sa ws0 nL r ad G f) : W p l e R s m args below meth c H locs G.2.2.1 G.2.2.2 Q (F0 m pc ls st) := by
  unfold ai_copy at h
  split at h
  · rename_i n dp q sp q0 S'
    obtain ⟨E, hh, cs, sl⟩ := G
    obtain ⟨ws, hP, hD, hS, hE, hH, hO, hsa, hL, hSt⟩ := hR
    have hws := ai_words_ok hSt
    obtain ⟨nx', t0, rfl, n1, n2, h0⟩ := ai_gF.int hSt
    obtain ⟨dx, t1, rfl, d1, d2, h1⟩ := h0.int
    obtain ⟨t2, rfl, hq, h2⟩ := h1.ref
    obtain ⟨sx, t3, rfl, s1, s2, h3⟩ := h2.int
    obtain ⟨t4, rfl, hq0, h4⟩ := h3.ref
    have hc : ∀ v : Nat, ai_vx r (0, Int.ofNat v) = (v : Int) := fun v => by
      show r 0 + (v : Int) = v
      rw [hE.1]; omega
    rw [hc] at n2 d2 s2
    dsimp only at h
    split at h
    · rename_i ty kk lo hi ov tz mm lo' hi' ov' hc0 hc1
      split at h
      · rename_i e1 e2 e3 e4 e5
        have h16' := Nat.le_of_ble_eq_true e5
        have e1 := Nat.eq_of_beq_eq_true e1
        have e2 := Nat.eq_of_beq_eq_true e2
        have e3 := Nat.le_of_ble_eq_true e3
        have e4 := Nat.le_of_ble_eq_true e4
        subst e1; subst e2
        cases ep : ai_part lo hi ov n sp dp E [] with
        | mk E1 a =>
          rw [ep] at h
          dsimp only at h
          split at h
          · rename_i h' eput
            have hf := ai_go_eq h
            subst hf
            have h16 := (ai_put_ok eput).1
            obtain ⟨x1, hw1, hg1⟩ := hH.at h16 hq hc1
            rcases hg1 with ⟨z0, -⟩ | ⟨-, g, rfl, hg1⟩
            · cases z0
            have nneg : ∀ {z : Int32} {v : Nat}, z.toInt = (v : Int) → ¬ z < 0 ∧ z.toNatClampNeg = v := fun {z} {v} hz => ⟨by rw [Int32.lt_iff_toInt_lt, Int32.toInt_zero]; omega, by rw [ai_clamp, hz]; rfl⟩
            obtain ⟨a1, a2⟩ := nneg n2
            obtain ⟨b1, b2⟩ := nneg d2
            obtain ⟨c1, c2⟩ := nneg s2
            obtain ⟨x0, hw0, hg0⟩ := hH.at h16' hq0 hc0
            rcases hg0 with ⟨z0, -⟩ | ⟨-, f, rfl, hg0⟩
            · cases z0
            obtain ⟨r', y1, y2, y3, y4, y5, -, y7⟩ := ai_part_ok (a0 := sp) (B := sp + n) (fun j => ai_small32 (ai_i32 (f j))) hE hg0 e3 (Nat.le_refl _) (Nat.le_refl _) (fun q hq => by cases hq) (fun q hq => by cases hq) ep
            refine va_copyi hx hb (by rw [hml, hL.2.1]) hown (hts _ hlink.1) (hts _ hlink.2.1) (hts _ hlink.2.2.1) (hts _ hlink.2.2.2) hK hP hD hS (q0 - 16) (q - 16) 0 0 hw0 hw1 rfl rfl rfl c1 b1 a1 (by rw [c2, a2]; exact e3) (by rw [b2, a2]; exact e4) (fun i hi => rfl) hroom.1 ?_ hdg (fun H1 locs1 hP1 hD1 hS1 => ?_)
            · have : (t4.map fun v => v.category).sum ≤ ((Value.int nx' :: .int dx :: .ref (ad q) :: .int sx :: .ref (ad q0) :: t4).map fun v => v.category).sum := by
                simp only [List.map_cons, List.sum_cons]
                omega
              have hn : nativeFrameWords "java/lang/System" "arraycopy" 5 + 11 ≤ 160 := by decide +kernel
              omega
            · rw [c2, b2, a2] at hP1 hD1
              have hH' := hH.mono y1 y2
              have hcp : ai_gC tyc r' ad E1.1 hh.1 (.inr (.inl (0, mm, lo', hi', ai_lay a ov'))) (.inl (tyc 0, mm, .inl (va_cpy f g sp dp n))) := by
                refine Or.inr ⟨Or.inl rfl, _, rfl, ai_lay_ok (f := fun j => (g j).toInt) y3.1 y4 (fun z hz => ?_) (hg1.mono y1 y2) (fun j => ?_)⟩
                · obtain ⟨i, j, w1, w2, w3, w4, w5⟩ := y5 z hz
                  refine ⟨j, w1, ?_⟩
                  rw [w2]
                  show (f i).toInt = (va_cpy f g sp dp n j).toInt
                  rw [pk_cpy_in (by omega) (by omega), show sp + (j - dp) = i by omega]
                · by_cases hj : dp ≤ j ∧ j < dp + n
                  · obtain ⟨z, w1, w2⟩ := y7 (j - dp) (by omega)
                    exact Or.inl ⟨z, w1, by rw [w2, show dp + (j - dp) = j by omega]⟩
                  · exact Or.inr (by show (g j).toInt = (va_cpy f g sp dp n j).toInt; rw [pk_cpy_out (by omega)])
              obtain ⟨-, -, w3, w4⟩ := ai_put_ok eput
              have w4 := w4 hH.1.2.1
              have hnn : hh.1 ≤ h'.1 := by omega
              exact k _ List.mem_cons_self r' ad y1 ai_ext.rfl' y2 hnn H1 locs1 ls t4 ⟨_, hP1, hD1, hS1, y3, hH'.put eput hcp, (hO.mono hH.1.1 y1 ai_ext.rfl' y2).heap (fun j hj => by rw [w4 j (by omega), if_neg (by omega)]), hsa, hL.mono y1 ai_ext.rfl' y2 hnn, h4.mono y1 ai_ext.rfl' y2 hnn⟩
          · cases h
      · cases h
    · cases h
  · cases h
theorem ai_cont_ok {r : Nat → Int} {E : ai_E} (hE : ai_gE r E) {lo hi : Int} {j : Nat} {v : Int} : ∀ {l : List (ai_X × ai_X)}, ai_lw E.1 l → ai_ov r lo hi l j v → (ai_cont E lo hi l).1 ≤ v ∧ v ≤ (ai_cont E lo hi l).2
  | [], _, h => h
  | (i, x) :: l, hw, h => by
    have h1 := hw _ List.mem_cons_self
    have hb := ai_iv_ok hE h1.2
    unfold ai_cont
    cases e : ai_iv E x with
    | mk a b =>
      have e' : ai_iv E ((i, x) : ai_X × ai_X).2 = (a, b) := e
      rw [e'] at hb
      cases e2 : ai_cont E lo hi l with
      | mk c d =>
        have g1 := ai_min_le (a := a) (b := c)
        have g2 := ai_max_ge (a := b) (b := d)
        show ai_min a c ≤ v ∧ v ≤ ai_max b d
        by_cases q : ai_vx r i = (j : Int)
        · have := h.1 q
          rw [this]
          have b1 : a ≤ ai_vx r x := hb.1
          have b2 : ai_vx r x ≤ b := hb.2
          omega
        · have := ai_cont_ok hE (fun z hz => hw z (List.mem_cons_of_mem _ hz)) (h.2 q)
          rw [e2] at this
          have t1 : c ≤ v := this.1
          have t2 : v ≤ d := this.2
          omega
theorem ai_copyw_ok {idx : Nat} (hx : p.tables.exec = Jvm.exec) (hb : c.code = cc) (hml : c.maxLocals = nL) (hts : ∀ w ∈ Ts, w.before args s = true) (hown : s.vm.findClass own = some m.cls) (hK : va_K D vwCl (ai_tys tyc) s)
    (hlink : Cond.methodLink own idx arraycopyName ∈ Ts ∧ Cond.native arraycopyName ∈ Ts ∧ Cond.static arraycopyName ∈ Ts ∧ Cond.initialized "java/lang/System" ∈ Ts) (hroom : 1 ≤ R.frames ∧ 200 ≤ R.locals) (hw : ai_words S ≤ 40) (hdg : decode cc pc = .ok (.invokestatic idx, 3))
    (h : ai_copyw (pc + 3) L S G = some (.inl fs)) (hR : ai_Rel D tyc A s sa ws0 nL r ad L S G H locs ls st) (k : ∀ f ∈ fs, ai_Cn p l e R s m args below meth c Q D tyc A sa ws0 nL r ad G f) : W p l e R s m args below meth c H locs G.2.2.1 G.2.2.2 Q (F0 m pc ls st) := by
  unfold ai_copyw at h
  split at h
  · rename_i nn dp q sp q0 S'
    obtain ⟨E, hh, cs, sl⟩ := G
    obtain ⟨ws, hP, hD, hS, hE, hH, hO, hsa, hL, hSt⟩ := hR
    have hE : ai_gE r E := hE
    have hws := ai_words_ok hSt
    obtain ⟨nx', t0, rfl, n1, n2, h0⟩ := ai_gF.int hSt
    obtain ⟨dx, t1, rfl, d1, d2, h1⟩ := h0.int
    obtain ⟨t2, rfl, hq, h2⟩ := h1.ref
    obtain ⟨sx, t3, rfl, s1, s2, h3⟩ := h2.int
    obtain ⟨t4, rfl, hq0, h4⟩ := h3.ref
    have vn := ai_iv_ok hE n1
    have vd := ai_iv_ok hE d1
    have vs := ai_iv_ok hE s1
    dsimp only at h
    split at h
    · rename_i ty kk lo hi ov tz mm lo' hi' ov' hc0 hc1
      split at h
      · rename_i e1 e2 e3 e5
        rw [Bool.and_eq_true] at e1 e2 e3
        rw [Bool.and_eq_true] at e2
        have h16' := Nat.le_of_ble_eq_true e5
        have f1 := Nat.eq_of_beq_eq_true e1.1
        have f2 := Nat.eq_of_beq_eq_true e1.2
        subst f1; subst f2
        have g1 := ai_le_iff.mp e2.1
        have g2 := ai_le_iff.mp e2.2.1
        have g3 := ai_le_iff.mp e2.2.2
        have g4 : (ai_iv E sp).2 + (ai_iv E nn).2 ≤ (kk : Int) := ai_le_iff.mp e3.1
        have g5 : (ai_iv E dp).2 + (ai_iv E nn).2 ≤ (mm : Int) := ai_le_iff.mp e3.2
        have u1 : (ai_iv E nn).1 ≤ ai_vx r nn := vn.1
        have u2 : ai_vx r nn ≤ (ai_iv E nn).2 := vn.2
        have u3 : (ai_iv E dp).1 ≤ ai_vx r dp := vd.1
        have u4 : ai_vx r dp ≤ (ai_iv E dp).2 := vd.2
        have u5 : (ai_iv E sp).1 ≤ ai_vx r sp := vs.1
        have u6 : ai_vx r sp ≤ (ai_iv E sp).2 := vs.2
        split at h
        · rename_i h' eput
          have hf := ai_go_eq h
          subst hf
          have h16 := (ai_put_ok eput).1
          obtain ⟨x1, hw1, hg1⟩ := hH.at h16 hq hc1
          rcases hg1 with ⟨z0, -⟩ | ⟨-, g, rfl, hg1⟩
          · cases z0
          have nneg : ∀ {z : Int32} {v : Nat}, z.toInt = (v : Int) → ¬ z < 0 ∧ z.toNatClampNeg = v := fun {z} {v} hz => ⟨by rw [Int32.lt_iff_toInt_lt, Int32.toInt_zero]; omega, by rw [ai_clamp, hz]; rfl⟩
          obtain ⟨N, hN⟩ : ∃ N : Nat, ai_vx r nn = (N : Int) := ⟨(ai_vx r nn).toNat, by omega⟩
          obtain ⟨Dp, hDp⟩ : ∃ N : Nat, ai_vx r dp = (N : Int) := ⟨(ai_vx r dp).toNat, by omega⟩
          obtain ⟨Sp, hSp⟩ : ∃ N : Nat, ai_vx r sp = (N : Int) := ⟨(ai_vx r sp).toNat, by omega⟩
          obtain ⟨a1, a2⟩ := nneg (n2.trans hN)
          obtain ⟨b1, b2⟩ := nneg (d2.trans hDp)
          obtain ⟨c1, c2⟩ := nneg (s2.trans hSp)
          obtain ⟨x0, hw0, hg0⟩ := hH.at h16' hq0 hc0
          rcases hg0 with ⟨z0, -⟩ | ⟨-, f, rfl, hg0⟩
          · cases z0
          refine va_copyi hx hb (by rw [hml, hL.2.1]) hown (hts _ hlink.1) (hts _ hlink.2.1) (hts _ hlink.2.2.1) (hts _ hlink.2.2.2) hK hP hD hS (q0 - 16) (q - 16) 0 0 hw0 hw1 rfl rfl rfl c1 b1 a1 (by rw [c2, a2]; omega) (by rw [b2, a2]; omega) (fun i hi => rfl) hroom.1 ?_ hdg (fun H1 locs1 hP1 hD1 hS1 => ?_)
          · have : (t4.map fun v => v.category).sum ≤ ((Value.int nx' :: .int dx :: .ref (ad q) :: .int sx :: .ref (ad q0) :: t4).map fun v => v.category).sum := by
              simp only [List.map_cons, List.sum_cons]
              omega
            have hn : nativeFrameWords "java/lang/System" "arraycopy" 5 + 11 ≤ 160 := by decide +kernel
            omega
          · rw [c2, b2, a2] at hP1 hD1
            have m1 := ai_min_le (a := (ai_cont E lo hi ov).1) (b := (ai_cont E lo' hi' ov').1)
            have m2 := ai_max_ge (a := (ai_cont E lo hi ov).2) (b := (ai_cont E lo' hi' ov').2)
            have hcp : ai_gC tyc r ad E.1 hh.1 (.inr (.inl (0, mm, ai_min (ai_cont E lo hi ov).1 (ai_cont E lo' hi' ov').1, ai_max (ai_cont E lo hi ov).2 (ai_cont E lo' hi' ov').2, []))) (.inl (tyc 0, mm, .inl (va_cpy f g Sp Dp N))) := by
              refine Or.inr ⟨Or.inl rfl, _, rfl, fun z hz => (by cases hz), fun j hj => ?_⟩
              show ai_min _ _ ≤ (va_cpy f g Sp Dp N j).toInt ∧ (va_cpy f g Sp Dp N j).toInt ≤ ai_max _ _
              by_cases hj2 : Dp ≤ j ∧ j < Dp + N
              · rw [pk_cpy_in (by omega) (by omega)]
                have := ai_cont_ok hE hg0.1 (hg0.2 (Sp + (j - Dp)) (by omega))
                have t1 : (ai_cont E lo hi ov).1 ≤ (f (Sp + (j - Dp))).toInt := this.1
                have t2 : (f (Sp + (j - Dp))).toInt ≤ (ai_cont E lo hi ov).2 := this.2
                omega
              · rw [pk_cpy_out (by omega)]
                have := ai_cont_ok hE hg1.1 (hg1.2 j hj)
                have t1 : (ai_cont E lo' hi' ov').1 ≤ (g j).toInt := this.1
                have t2 : (g j).toInt ≤ (ai_cont E lo' hi' ov').2 := this.2
                omega
            obtain ⟨-, -, w3, w4⟩ := ai_put_ok eput
            have w4 := w4 hH.1.2.1
            have hnn : hh.1 ≤ h'.1 := by omega
            exact k _ List.mem_cons_self r ad ai_ext.rfl' ai_ext.rfl' (Nat.le_refl _) hnn H1 locs1 ls t4 ⟨_, hP1, hD1, hS1, hE, hH.put eput hcp, hO.heap (fun j hj => by rw [w4 j (by omega), if_neg (by omega)]), hsa, hL.mono ai_ext.rfl' ai_ext.rfl' (Nat.le_refl _) hnn, h4.mono ai_ext.rfl' ai_ext.rfl' (Nat.le_refl _) hnn⟩
        · cases h
      · cases h
    · cases h
  · cases h
theorem ai_copyx_ok {idx : Nat} (hx : p.tables.exec = Jvm.exec) (hb : c.code = cc) (hml : c.maxLocals = nL) (hts : ∀ w ∈ Ts, w.before args s = true) (hown : s.vm.findClass own = some m.cls) (hK : va_K D vwCl (ai_tys tyc) s)
    (hlink : Cond.methodLink own idx arraycopyName ∈ Ts ∧ Cond.native arraycopyName ∈ Ts ∧ Cond.static arraycopyName ∈ Ts ∧ Cond.initialized "java/lang/System" ∈ Ts) (hroom : 1 ≤ R.frames ∧ 200 ≤ R.locals) (hw : ai_words S ≤ 40) (hdg : decode cc pc = .ok (.invokestatic idx, 3))
    (h : ai_copyx (pc + 3) L S G = some (.inl fs)) (hR : ai_Rel D tyc A s sa ws0 nL r ad L S G H locs ls st) (k : ∀ f ∈ fs, ai_Cn p l e R s m args below meth c Q D tyc A sa ws0 nL r ad G f) : W p l e R s m args below meth c H locs G.2.2.1 G.2.2.2 Q (F0 m pc ls st) := by
  unfold ai_copyx at h
  split at h
  · rename_i z e
    cases h
    exact ai_copy_ok hx hb hml hts hown hK hlink hroom hw hdg e hR k
  · exact ai_copyw_ok hx hb hml hts hown hK hlink hroom hw hdg h hR k
end SR
