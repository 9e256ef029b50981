/-! ONE INSTRUCTION, on the heap -/
theorem ai_clamp (x : Int32) : x.toNatClampNeg = x.toInt.toNat := rfl
theorem ai_vpin {i : Int32} {j n : Nat} (h : i.toInt = (j : Int)) (hj : j < n) : vp_in i n ∧ i.toNatClampNeg = j := by
  refine ⟨vp_in_iff.mpr (by omega), ?_⟩
  rw [ai_clamp, h]; rfl
theorem ai_read_inv {ty nx : Nat} {L S : List ai_V} {G : ai_G} {fs : List ai_F} (h : ai_read ty nx L S G = some (.inl fs)) : ∃ i q S' E hh cs sl n lo hi l, S = .inl i :: .inr (.inr (some (some q))) :: S' ∧ G = (E, hh, cs, sl) ∧ ai_cell hh q = some (.inr (.inl (ty, n, lo, hi, l))) ∧ ai_inb E i n = true ∧
    ((∃ z, ai_kget E lo hi i l = .inl z ∧ fs = [(nx, L, ai_num ty z :: S', (E, hh, cs, sl))]) ∨ ∃ b z E', ai_kget E lo hi i l = .inr b ∧ ai_new E b = (z, E') ∧ fs = [(nx, L, ai_num ty z :: S', (E', hh, cs, sl))]) := by
  unfold ai_read at h
  split at h
  · rename_i i q S'
    obtain ⟨E, hh, cs, sl⟩ := G
    dsimp only at h
    split at h
    · rename_i w n lo hi l ec
      split at h
      · rename_i e1 e2
        have e1 := Nat.eq_of_beq_eq_true e1
        subst e1
        refine ⟨i, q, S', E, hh, cs, sl, n, lo, hi, l, rfl, rfl, ec, e2, ?_⟩
        cases eg : ai_kget E lo hi i l with
        | inl z =>
          rw [eg] at h
          exact Or.inl ⟨z, rfl, ai_go_eq h⟩
        | inr b =>
          rw [eg] at h
          dsimp only at h
          cases en : ai_new E b with
          | mk z E' =>
            rw [en] at h
            exact Or.inr ⟨b, z, E', rfl, en, ai_go_eq h⟩
      · cases h
    · cases h
  · cases h
/-- the number that stands there, as a symbol -/
theorem ai_read_val {r : Nat → Int} {E : ai_E} (hE : ai_gE r E) {i : ai_X} (hi' : i.1 < E.1) {lo hi : Int} {l : List (ai_X × ai_X)} {n j : Nat} {g : Nat → Int} (hg : ai_gK r E.1 lo hi l n g) (hj : j < n) (hij : ai_vx r i = (j : Int)) (hs : ai_small (g j)) {ty nx : Nat} {L S' : List ai_V} {F : ai_H × Nat × Nat} {fs : List ai_F}
    (h : (∃ z, ai_kget E lo hi i l = .inl z ∧ fs = [(nx, L, ai_num ty z :: S', (E, F))]) ∨ ∃ b z E', ai_kget E lo hi i l = .inr b ∧ ai_new E b = (z, E') ∧ fs = [(nx, L, ai_num ty z :: S', (E', F))]) :
    ∃ r' z E', fs = [(nx, L, ai_num ty z :: S', (E', F))] ∧ ai_ext E.1 r r' ∧ E.1 ≤ E'.1 ∧ ai_gE r' E' ∧ z.1 < E'.1 ∧ g j = ai_vx r' z := by
  have hk := ai_kget_ok (lo := lo) (hi := hi) hE hi' hij hg.1 (hg.2 j hj)
  rcases h with ⟨z, e1, e2⟩ | ⟨b, z, E', e1, e2, e3⟩
  · rw [e1] at hk
    exact ⟨r, z, E, e2, ai_ext.rfl', Nat.le_refl _, hE, hk.1, hk.2⟩
  · rw [e1] at hk
    obtain ⟨r', g1, g2, g3, g4, g5⟩ := ai_new_ok hE hk hs e2
    exact ⟨r', z, E', e3, g1, g2, g3, g4, g5.symm⟩
theorem ai_writ_inv {ty nx : Nat} {L S : List ai_V} {G : ai_G} {fs : List ai_F} (h : ai_writ ty nx L S G = some (.inl fs)) : ∃ v z i q S' E hh cs sl n lo hi l h', S = v :: .inl i :: .inr (.inr (some (some q))) :: S' ∧ ai_cut ty v = some z ∧ G = (E, hh, cs, sl) ∧ ai_cell hh q = some (.inr (.inl (ty, n, lo, hi, l))) ∧ ai_inb E i n = true ∧ (ty = 2 → ai_bit E z = true) ∧ ai_put hh q (.inr (.inl (ty, n, lo, hi, (i, z) :: ai_kdrop i l))) = some h' ∧ fs = [(nx, L, S', (E, h', cs, sl))] := by
  unfold ai_writ at h
  split at h
  · rename_i v i q S'
    cases ec : ai_cut ty v with
    | none => rw [ec] at h; cases h
    | some z =>
      rw [ec] at h
      obtain ⟨E, hh, cs, sl⟩ := G
      dsimp only at h
      split at h
      · rename_i w n lo hi l ecell
        split at h
        · rename_i e1 e2 e3
          have e1 := Nat.eq_of_beq_eq_true e1
          subst e1
          split at h
          · rename_i h' ep
            refine ⟨v, z, i, q, S', E, hh, cs, sl, n, lo, hi, l, h', rfl, ec, rfl, ecell, e2, fun e => ?_, ep, ai_go_eq h⟩
            subst e
            exact e3
          · cases h
        · cases h
      · cases h
  · cases h
theorem ai_bit_ok {r : Nat → Int} {E : ai_E} (hE : ai_gE r E) {z : ai_X} (hz : z.1 < E.1) (h : ai_bit E z = true) {x : Int32} (hx : x.toInt = ai_vx r z) : x = 0 ∨ x = 1 := by
  obtain ⟨a1, a2⟩ := ai_iv_ok hE hz
  unfold ai_bit at h
  cases e : ai_iv E z with
  | mk a b =>
    rw [e] at h a1 a2
    dsimp only at h a1 a2
    cases e1 : ai_le 0 a with
    | false => rw [e1] at h; cases h
    | true =>
      rw [e1] at h
      have e1 := ai_le_iff.mp e1
      have h := ai_le_iff.mp h
      have hh : x.toInt = 0 ∨ x.toInt = 1 := by omega
      rcases hh with hh | hh
      · exact Or.inl (Int32.toInt_inj.mp hh)
      · exact Or.inr (Int32.toInt_inj.mp hh)
section SH
variable {p : Program} {l : Launch} {e : Env} {R : Room} {s : State} {m : MethodId} {args : Array Value} {below : List Frame} {meth : Method} {c : Code} {Q : State → Prop}
variable {D : va_G} {tyc : Nat → ClassId} {A : Nat → Prop} {sa : ai_B} {ws0 : va_W} {nL : Nat} {cc : ByteArray} {own : String} {Ts : List Cond}
variable {r : Nat → Int} {ad : Nat → Nat} {L S : List ai_V} {G : ai_G} {H : Heap} {locs : List Loc} {ls : Array Slot} {st : List Value} {pc nx : Nat} {fs : List ai_F}
/-- a read of an int array, or of the script -/
theorem ai_iald_ok (hx : p.tables.exec = Jvm.exec) (hb : c.code = cc) (hK : va_K D vwCl (ai_tys tyc) s) (hxo : ai_Xo sa.2 A s) (hdg : decode cc pc = .ok (.iaload, 1))
    (h : ai_read 0 (pc + 1) L S G = some (.inl fs)) (hR : ai_Rel D tyc A s sa ws0 nL r ad L S G H locs ls st) (k : ∀ f ∈ fs, ai_Cn p l e R s m args below meth c Q D tyc A sa ws0 nL r ad G f) : W p l e R s m args below meth c H locs G.2.2.1 G.2.2.2 Q (F0 m pc ls st) := by
  obtain ⟨i, q, S', E, hh, cs, sl, n, lo, hi, ov, rfl, rfl, hc, hin, hfs⟩ := ai_read_inv h
  have hR0 := hR
  obtain ⟨ws, hP, hD, hS, hE, hH, hO, hsa, hL, hSt⟩ := hR
  obtain ⟨ix, t1, rfl, hi1, hi2, h1⟩ := ai_gF.int hSt
  obtain ⟨t, rfl, hq, h2⟩ := h1.ref
  obtain ⟨j, hj, hij⟩ := ai_inb_ok hE hi1 hin
  obtain ⟨hvp, hcl⟩ := ai_vpin (i := ix) (j := j) (n := n) (by rw [hi2]; exact hij) hj
  by_cases h16 : 16 ≤ q
  · obtain ⟨x, hw, hg⟩ := hH.at h16 hq hc
    rcases hg with ⟨e0, -⟩ | ⟨-, f, rfl, hg⟩
    · cases e0
    · obtain ⟨r', z, E', rfl, g1, g2, g3, g4, g5⟩ := ai_read_val hE hi1 hg hj hij (ai_small32 (ai_i32 _)) hfs
      refine va_iald hx hb hK hP (q - 16) 0 hw rfl hvp hdg ?_
      rw [hcl]
      exact (k _ List.mem_cons_self).re (G := (E, hh, cs, sl)) hR0 g1 g2 g3 ⟨⟨g4, _, rfl, g5⟩, h2.mono g1 ai_ext.rfl' g2 (Nat.le_refl _)⟩
  · obtain ⟨m', lo', hi', l', xs, ec, hX, hl1, hl2, hg⟩ := hO.use hxo q (by omega) _ hc
    cases ec
    obtain ⟨r', z, E', rfl, g1, g2, g3, g4, g5⟩ := ai_read_val hE hi1 hg hj hij (ai_small32 (ai_i32 _)) hfs
    refine va_sld hx hb hX hl1 hl2 hS hvp hdg ?_
    rw [hcl]
    exact (k _ List.mem_cons_self).re (G := (E, hh, cs, sl)) hR0 g1 g2 g3 ⟨⟨g4, _, rfl, g5⟩, h2.mono g1 ai_ext.rfl' g2 (Nat.le_refl _)⟩
theorem ai_lald_ok (hx : p.tables.exec = Jvm.exec) (hb : c.code = cc) (hK : va_K D vwCl (ai_tys tyc) s) (hdg : decode cc pc = .ok (.laload, 1))
    (h : ai_read 1 (pc + 1) L S G = some (.inl fs)) (hR : ai_Rel D tyc A s sa ws0 nL r ad L S G H locs ls st) (k : ∀ f ∈ fs, ai_Cn p l e R s m args below meth c Q D tyc A sa ws0 nL r ad G f) : W p l e R s m args below meth c H locs G.2.2.1 G.2.2.2 Q (F0 m pc ls st) := by
  obtain ⟨i, q, S', E, hh, cs, sl, n, lo, hi, ov, rfl, rfl, hc, hin, hfs⟩ := ai_read_inv h
  have hR0 := hR
  obtain ⟨ws, hP, hD, hS, hE, hH, hO, hsa, hL, hSt⟩ := hR
  obtain ⟨ix, t1, rfl, hi1, hi2, h1⟩ := ai_gF.int hSt
  obtain ⟨t, rfl, hq, h2⟩ := h1.ref
  obtain ⟨j, hj, hij⟩ := ai_inb_ok hE hi1 hin
  obtain ⟨hvp, hcl⟩ := ai_vpin (i := ix) (j := j) (n := n) (by rw [hi2]; exact hij) hj
  by_cases h16 : 16 ≤ q
  · obtain ⟨x, hw, hg⟩ := hH.at h16 hq hc
    rcases hg with ⟨-, f, rfl, hg⟩ | ⟨e0, -⟩
    · obtain ⟨r', z, E', rfl, g1, g2, g3, g4, g5⟩ := ai_read_val hE hi1 hg hj hij (ai_i64 _) hfs
      refine va_lald hx hb hK hP (q - 16) 1 hw rfl hvp hdg ?_
      rw [hcl]
      exact (k _ List.mem_cons_self).re (G := (E, hh, cs, sl)) hR0 g1 g2 g3 ⟨⟨g4, _, rfl, g5⟩, h2.mono g1 ai_ext.rfl' g2 (Nat.le_refl _)⟩
    · rcases e0 with e0 | e0 <;> cases e0
  · obtain ⟨z9, -, lo', hi', l', ec, -⟩ := hO q (by omega) _ hc
    cases ec
theorem ai_bald_ok (hx : p.tables.exec = Jvm.exec) (hb : c.code = cc) (hK : va_K D vwCl (ai_tys tyc) s) (hdg : decode cc pc = .ok (.baload, 1))
    (h : ai_read 2 (pc + 1) L S G = some (.inl fs)) (hR : ai_Rel D tyc A s sa ws0 nL r ad L S G H locs ls st) (k : ∀ f ∈ fs, ai_Cn p l e R s m args below meth c Q D tyc A sa ws0 nL r ad G f) : W p l e R s m args below meth c H locs G.2.2.1 G.2.2.2 Q (F0 m pc ls st) := by
  obtain ⟨i, q, S', E, hh, cs, sl, n, lo, hi, ov, rfl, rfl, hc, hin, hfs⟩ := ai_read_inv h
  have hR0 := hR
  obtain ⟨ws, hP, hD, hS, hE, hH, hO, hsa, hL, hSt⟩ := hR
  obtain ⟨ix, t1, rfl, hi1, hi2, h1⟩ := ai_gF.int hSt
  obtain ⟨t, rfl, hq, h2⟩ := h1.ref
  obtain ⟨j, hj, hij⟩ := ai_inb_ok hE hi1 hin
  obtain ⟨hvp, hcl⟩ := ai_vpin (i := ix) (j := j) (n := n) (by rw [hi2]; exact hij) hj
  by_cases h16 : 16 ≤ q
  · obtain ⟨x, hw, hg⟩ := hH.at h16 hq hc
    rcases hg with ⟨e0, -⟩ | ⟨-, f, rfl, hg⟩
    · cases e0
    · obtain ⟨r', z, E', rfl, g1, g2, g3, g4, g5⟩ := ai_read_val hE hi1 hg hj hij (ai_small32 (ai_i32 _)) hfs
      refine va_zald hx hb hK hP (q - 16) 2 hw rfl hvp hdg ?_
      rw [hcl]
      exact (k _ List.mem_cons_self).re (G := (E, hh, cs, sl)) hR0 g1 g2 g3 ⟨⟨g4, _, rfl, g5⟩, h2.mono g1 ai_ext.rfl' g2 (Nat.le_refl _)⟩
  · obtain ⟨z9, -, lo', hi', l', ec, -⟩ := hO q (by omega) _ hc
    cases ec
/-- behind a write to a cell of the world -/
theorem ai_Cn.put {S' : List ai_V} {st' : List Value} {E : ai_E} {hh h' : ai_H} {cs sl q : Nat} {d : ai_C} {x : va_E} {ws : va_W} {H1 : Heap} {locs1 : List Loc} (k : ai_Cn p l e R s m args below meth c Q D tyc A sa ws0 nL r ad (E, hh, cs, sl) (nx, L, S', (E, h', cs, sl))) (ep : ai_put hh q d = some h')
    (hE : ai_gE r E) (hH : ai_gH tyc r ad E.1 ws0 hh ws) (hO : ai_gO sa.2 r ad E.1 hh) (hsa : ∀ i, i < 10 → ad (i + 1) = sa.1 i) (hL : ai_gL r ad E.1 hh.1 nL L ls) (hSt : ai_gF r ad E.1 hh.1 S' st') (hx : ai_gC tyc r ad E.1 hh.1 d x)
    (hP : va_P D vwCl (ws.set (q - 16) (ad q, x)) H1) (hD : va_D A (ws.set (q - 16) (ad q, x))) (hS : va_S A s.heap H1 locs1) : W p l e R s m args below meth c H1 locs1 cs sl Q (F0 m nx ls st') := by
  obtain ⟨p1, p2, p3, p4⟩ := ai_put_ok ep
  have p4 := p4 hH.1.2.1
  refine k r ad ai_ext.rfl' ai_ext.rfl' (Nat.le_refl _) (by show hh.1 ≤ h'.1; omega) H1 locs1 ls st' ⟨_, hP, hD, hS, hE, hH.put ep hx, hO.heap (fun j hj => by rw [p4 j (by omega), if_neg (by omega)]), hsa, ?_, ?_⟩
  · show ai_gL r ad E.1 h'.1 nL L ls
    rw [p3]; exact hL
  · show ai_gF r ad E.1 h'.1 S' st'
    rw [p3]; exact hSt
theorem ai_cut_ok {ty : Nat} {v : ai_V} {z : ai_X} (h : ai_cut ty v = some z) : v = ai_num ty z := by
  rcases v with x | x | x
  · unfold ai_cut at h
    dsimp only at h
    split at h
    · cases h
    · rename_i hn
      cases h
      unfold ai_num
      split
      · exact absurd rfl hn
      · rfl
  · unfold ai_cut at h
    dsimp only at h
    split at h
    · cases h; rfl
    · cases h
  · cases h
theorem ai_iast_ok (hx : p.tables.exec = Jvm.exec) (hb : c.code = cc) (hK : va_K D vwCl (ai_tys tyc) s) (hdg : decode cc pc = .ok (.iastore, 1))
    (h : ai_writ 0 (pc + 1) L S G = some (.inl fs)) (hR : ai_Rel D tyc A s sa ws0 nL r ad L S G H locs ls st) (k : ∀ f ∈ fs, ai_Cn p l e R s m args below meth c Q D tyc A sa ws0 nL r ad G f) : W p l e R s m args below meth c H locs G.2.2.1 G.2.2.2 Q (F0 m pc ls st) := by
  obtain ⟨v, z, i, q, S', E, hh, cs, sl, n, lo, hi, ov, h', rfl, ev, rfl, hc, hin, -, ep, rfl⟩ := ai_writ_inv h
  obtain ⟨ws, hP, hD, hS, hE, hH, hO, hsa, hL, hSt⟩ := hR
  have ev := ai_cut_ok ev
  subst ev
  obtain ⟨vx, t0, rfl, hz1, hz2, h0⟩ := ai_gF.int (x := z) hSt
  obtain ⟨ix, t1, rfl, hi1, hi2, h1⟩ := h0.int
  obtain ⟨t, rfl, hq, h2⟩ := h1.ref
  obtain ⟨j, hj, hij⟩ := ai_inb_ok hE hi1 hin
  obtain ⟨hvp, hcl⟩ := ai_vpin (i := ix) (j := j) (n := n) (by rw [hi2]; exact hij) hj
  have h16 := (ai_put_ok ep).1
  obtain ⟨x, hw, hg⟩ := hH.at h16 hq hc
  rcases hg with ⟨e0, -⟩ | ⟨-, f, rfl, hg⟩
  · cases e0
  · refine va_iast hx hb hK hP hD hS (q - 16) 0 hw rfl hvp hdg (fun H1 locs1 hP1 hD1 hS1 => ?_)
    rw [hcl] at hP1 hD1
    exact (k _ List.mem_cons_self).put ep hE hH hO hsa hL h2 (Or.inr ⟨Or.inl rfl, _, rfl, ai_kput_ok hg hi1 hz1 hij (by simp [upd, hz2]) (fun a ha => by simp [upd, ha])⟩) hP1 hD1 hS1
theorem ai_last_ok (hx : p.tables.exec = Jvm.exec) (hb : c.code = cc) (hK : va_K D vwCl (ai_tys tyc) s) (hdg : decode cc pc = .ok (.lastore, 1))
    (h : ai_writ 1 (pc + 1) L S G = some (.inl fs)) (hR : ai_Rel D tyc A s sa ws0 nL r ad L S G H locs ls st) (k : ∀ f ∈ fs, ai_Cn p l e R s m args below meth c Q D tyc A sa ws0 nL r ad G f) : W p l e R s m args below meth c H locs G.2.2.1 G.2.2.2 Q (F0 m pc ls st) := by
  obtain ⟨v, z, i, q, S', E, hh, cs, sl, n, lo, hi, ov, h', rfl, ev, rfl, hc, hin, -, ep, rfl⟩ := ai_writ_inv h
  obtain ⟨ws, hP, hD, hS, hE, hH, hO, hsa, hL, hSt⟩ := hR
  have ev := ai_cut_ok ev
  subst ev
  obtain ⟨vx, t0, rfl, hz1, hz2, h0⟩ := ai_gF.long (x := z) hSt
  obtain ⟨ix, t1, rfl, hi1, hi2, h1⟩ := h0.int
  obtain ⟨t, rfl, hq, h2⟩ := h1.ref
  obtain ⟨j, hj, hij⟩ := ai_inb_ok hE hi1 hin
  obtain ⟨hvp, hcl⟩ := ai_vpin (i := ix) (j := j) (n := n) (by rw [hi2]; exact hij) hj
  have h16 := (ai_put_ok ep).1
  obtain ⟨x, hw, hg⟩ := hH.at h16 hq hc
  rcases hg with ⟨-, f, rfl, hg⟩ | ⟨e0, -⟩
  · refine va_last hx hb hK hP hD hS (q - 16) 1 hw rfl hvp hdg (fun H1 locs1 hP1 hD1 hS1 => ?_)
    rw [hcl] at hP1 hD1
    exact (k _ List.mem_cons_self).put ep hE hH hO hsa hL h2 (Or.inl ⟨rfl, _, rfl, ai_kput_ok hg hi1 hz1 hij (by simp [vp_updL, hz2]) (fun a ha => by simp [vp_updL, ha])⟩) hP1 hD1 hS1
  · rcases e0 with e0 | e0 <;> cases e0
theorem ai_bast_ok (hx : p.tables.exec = Jvm.exec) (hb : c.code = cc) (hK : va_K D vwCl (ai_tys tyc) s) (hdg : decode cc pc = .ok (.bastore, 1))
    (h : ai_writ 2 (pc + 1) L S G = some (.inl fs)) (hR : ai_Rel D tyc A s sa ws0 nL r ad L S G H locs ls st) (k : ∀ f ∈ fs, ai_Cn p l e R s m args below meth c Q D tyc A sa ws0 nL r ad G f) : W p l e R s m args below meth c H locs G.2.2.1 G.2.2.2 Q (F0 m pc ls st) := by
  obtain ⟨v, z, i, q, S', E, hh, cs, sl, n, lo, hi, ov, h', rfl, ev, rfl, hc, hin, hbit, ep, rfl⟩ := ai_writ_inv h
  obtain ⟨ws, hP, hD, hS, hE, hH, hO, hsa, hL, hSt⟩ := hR
  have ev := ai_cut_ok ev
  subst ev
  obtain ⟨vx, t0, rfl, hz1, hz2, h0⟩ := ai_gF.int (x := z) hSt
  obtain ⟨ix, t1, rfl, hi1, hi2, h1⟩ := h0.int
  obtain ⟨t, rfl, hq, h2⟩ := h1.ref
  obtain ⟨j, hj, hij⟩ := ai_inb_ok hE hi1 hin
  obtain ⟨hvp, hcl⟩ := ai_vpin (i := ix) (j := j) (n := n) (by rw [hi2]; exact hij) hj
  have h16 := (ai_put_ok ep).1
  obtain ⟨x, hw, hg⟩ := hH.at h16 hq hc
  have hnar : vp_nar .boolean vx = vx := by
    rcases ai_bit_ok hE hz1 (hbit rfl) hz2 with rfl | rfl <;> decide
  rcases hg with ⟨e0, -⟩ | ⟨-, f, rfl, hg⟩
  · cases e0
  · refine va_zast hx hb hK hP hD hS (q - 16) 2 hw rfl hvp hdg (fun H1 locs1 hP1 hD1 hS1 => ?_)
    rw [hcl, hnar] at hP1 hD1
    exact (k _ List.mem_cons_self).put ep hE hH hO hsa hL h2 (Or.inr ⟨Or.inr rfl, _, rfl, ai_kput_ok hg hi1 hz1 hij (by simp [upd, hz2]) (fun a ha => by simp [upd, ha])⟩) hP1 hD1 hS1
end SH
