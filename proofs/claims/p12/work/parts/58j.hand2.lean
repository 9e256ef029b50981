/-! BY HAND: a part of a sheet copied: what it answers, exactly; arrays copied that the domain leaves alone -/
noncomputable def cy_part (s a n : Int) : Bool := decide (0 ≤ a ∧ 0 ≤ n ∧ n ≤ s ∧ a ≤ s - n)
noncomputable def cy_code (sf st sof sot xa xo xn : Int) : Nat := if sf = -1 ∨ st = -1 then 1 else if sof ≠ sot then 2 else if cy_part sf xa xn = true ∧ cy_part st xo xn = true then 0 else 3
noncomputable def cy_lo (E : ai_E) (x : ai_X) (k : Int) : Bool := ai_le k (ai_iv E x).1
noncomputable def cy_hi (E : ai_E) (x : ai_X) (k : Int) : Bool := ai_le (ai_iv E x).2 k
noncomputable def cy_m (E : ai_E) (x : ai_X) : Bool := cy_lo E x (-1000) && cy_hi E x 1000
/-- a is no more than s less n, as is remembered -/
noncomputable def cy_le (E : ai_E) (a s n : ai_X) : Bool := match ai_find 1 s n E.2.2 with
  | some d => ai_lef a (d, 0) 0 E.2.2 && (cy_m E s && cy_m E n)
  | none => false
noncomputable def cy_gt (E : ai_E) (a s n : ai_X) : Bool := match ai_find 1 s n E.2.2 with
  | some d => ai_lef (d, 0) a (-1) E.2.2 && (cy_m E s && cy_m E n)
  | none => false
noncomputable def cy_yes (E : ai_E) (s a n : ai_X) : Bool := cy_lo E a 0 && (cy_lo E n 0 && ((ai_lef n s 0 E.2.2 && cy_le E a s n) || (ai_lef a s 0 E.2.2 && cy_le E n s a)))
noncomputable def cy_no (E : ai_E) (s a n : ai_X) : Bool := cy_hi E a (-1) || (cy_hi E n (-1) || (ai_lef s n (-1) E.2.2 || (cy_gt E a s n || (ai_lef s a (-1) E.2.2 || cy_gt E n s a))))
noncomputable def cy_eq (E : ai_E) (x y : ai_X) : Bool := ai_xeq x y || (ai_lef x y 0 E.2.2 && ai_lef y x 0 E.2.2)
noncomputable def cy_six (E : ai_E) (sf st sof sot a o n : ai_X) : Bool := Nat.blt sf.1 E.1 && (Nat.blt st.1 E.1 && (Nat.blt sof.1 E.1 && (Nat.blt sot.1 E.1 && (Nat.blt a.1 E.1 && (Nat.blt o.1 E.1 && Nat.blt n.1 E.1)))))
noncomputable def cy_end (E : ai_E) (sf st sof sot a o n : ai_X) (c : Nat) : Bool := cy_six E sf st sof sot a o n && (match c with
  | 1 => cy_lo E sf (-1) && cy_hi E sf (-1) || cy_lo E st (-1) && cy_hi E st (-1)
  | 2 => (cy_lo E sf 0 && cy_lo E st 0) && ai_nef sof sot E.2.2
  | 3 => (cy_lo E sf 0 && cy_lo E st 0) && (cy_eq E sof sot && (cy_no E sf a n || cy_no E st o n))
  | 0 => (cy_lo E sf 0 && cy_lo E st 0) && (cy_eq E sof sot && (cy_yes E sf a n && cy_yes E st o n))
  | _ => false)
section CY
variable {r : Nat → Int} {E : ai_E} {x y s a n : ai_X} {k : Int}
theorem cy_lo_ok (hE : ai_gE r E) (hx : x.1 < E.1) (h : cy_lo E x k = true) : k ≤ ai_vx r x := Int.le_trans (ai_le_iff.mp h) (ai_iv_ok hE hx).1
theorem cy_hi_ok (hE : ai_gE r E) (hx : x.1 < E.1) (h : cy_hi E x k = true) : ai_vx r x ≤ k := Int.le_trans (ai_iv_ok hE hx).2 (ai_le_iff.mp h)
theorem cy_ds (hE : ai_gE r E) : ∀ d ∈ E.2.2, r d.2.1 = ai_op d.1 (ai_vx r d.2.2.1) (ai_vx r d.2.2.2) := fun d hd => (hE.2.2.2.2 d hd).2.2.2
theorem cy_lef (hE : ai_gE r E) (h : ai_lef x y k E.2.2 = true) : ai_vx r x ≤ ai_vx r y + k := ai_lef_ok hE.1 (cy_ds hE) h
theorem cy_m_ok (hE : ai_gE r E) (hx : x.1 < E.1) (h : cy_m E x = true) : -1000 ≤ ai_vx r x ∧ ai_vx r x ≤ 1000 := by
  unfold cy_m at h
  rw [Bool.and_eq_true] at h
  exact ⟨cy_lo_ok hE hx h.1, cy_hi_ok hE hx h.2⟩
theorem cy_dif (hE : ai_gE r E) (hs : s.1 < E.1) (hn : n.1 < E.1) {d : Nat} (hd : ai_find 1 s n E.2.2 = some d) (m1 : cy_m E s = true) (m2 : cy_m E n = true) : ai_vx r (d, 0) = ai_vx r s - ai_vx r n := by
  have g := cy_ds hE _ (ai_find_ok hd)
  have g : r d = (ai_vx r s - ai_vx r n).bmod 4294967296 := g
  have b1 := cy_m_ok hE hs m1
  have b2 := cy_m_ok hE hn m2
  show r d + 0 = _
  rw [g, Int.bmod_eq_of_le_mul_two (by omega) (by omega), Int.add_zero]
theorem cy_le_ok (hE : ai_gE r E) (hs : s.1 < E.1) (hn : n.1 < E.1) (h : cy_le E a s n = true) : ai_vx r a ≤ ai_vx r s - ai_vx r n := by
  unfold cy_le at h
  split at h
  · rename_i d hd
    rw [Bool.and_eq_true, Bool.and_eq_true] at h
    have g := cy_lef hE h.1
    rw [cy_dif hE hs hn hd h.2.1 h.2.2] at g
    omega
  · cases h
theorem cy_gt_ok (hE : ai_gE r E) (hs : s.1 < E.1) (hn : n.1 < E.1) (h : cy_gt E a s n = true) : ai_vx r s - ai_vx r n < ai_vx r a := by
  unfold cy_gt at h
  split at h
  · rename_i d hd
    rw [Bool.and_eq_true, Bool.and_eq_true] at h
    have g := cy_lef hE h.1
    rw [cy_dif hE hs hn hd h.2.1 h.2.2] at g
    omega
  · cases h
theorem cy_yes_ok (hE : ai_gE r E) (hs : s.1 < E.1) (ha : a.1 < E.1) (hn : n.1 < E.1) (h : cy_yes E s a n = true) : cy_part (ai_vx r s) (ai_vx r a) (ai_vx r n) = true := by
  unfold cy_yes at h
  simp only [Bool.and_eq_true, Bool.or_eq_true] at h
  have h1 := cy_lo_ok hE ha h.1
  have h2 := cy_lo_ok hE hn h.2.1
  rcases h.2.2 with ⟨g1, g2⟩ | ⟨g1, g2⟩
  · have h3 := cy_lef hE g1
    have h4 := cy_le_ok hE hs hn g2
    exact decide_eq_true ⟨h1, h2, by omega, h4⟩
  · have h3 := cy_lef hE g1
    have h4 := cy_le_ok hE hs ha g2
    exact decide_eq_true ⟨h1, h2, by omega, by omega⟩
theorem cy_no_ok (hE : ai_gE r E) (hs : s.1 < E.1) (ha : a.1 < E.1) (hn : n.1 < E.1) (h : cy_no E s a n = true) : ¬ cy_part (ai_vx r s) (ai_vx r a) (ai_vx r n) = true := fun g => by
  have g := of_decide_eq_true g
  unfold cy_no at h
  simp only [Bool.or_eq_true] at h
  rcases h with h | h | h | h | h | h
  · have := cy_hi_ok hE ha h
    omega
  · have := cy_hi_ok hE hn h
    omega
  · have := cy_lef hE h
    omega
  · have := cy_gt_ok hE hs hn h
    omega
  · have := cy_lef hE h
    omega
  · have := cy_gt_ok hE hs ha h
    omega
theorem cy_eq_ok (hE : ai_gE r E) (h : cy_eq E x y = true) : ai_vx r x = ai_vx r y := by
  unfold cy_eq at h
  rw [Bool.or_eq_true, Bool.and_eq_true] at h
  rcases h with h | ⟨h1, h2⟩
  · rw [ai_xeq_iff.mp h]
  · have := cy_lef hE h1
    have := cy_lef hE h2
    omega
theorem cy_end_ok {sf st sof sot o : ai_X} {c : Nat} (hE : ai_gE r E) (h : cy_end E sf st sof sot a o n c = true) : cy_code (ai_vx r sf) (ai_vx r st) (ai_vx r sof) (ai_vx r sot) (ai_vx r a) (ai_vx r o) (ai_vx r n) = c := by
  unfold cy_end at h
  rw [Bool.and_eq_true] at h
  obtain ⟨h6, h⟩ := h
  unfold cy_six at h6
  simp only [Bool.and_eq_true] at h6
  obtain ⟨l1, l2, l3, l4, l5, l6, l7⟩ := h6
  have l1 : sf.1 < E.1 := Nat.le_of_ble_eq_true l1
  have l2 : st.1 < E.1 := Nat.le_of_ble_eq_true l2
  have l5 : a.1 < E.1 := Nat.le_of_ble_eq_true l5
  have l6 : o.1 < E.1 := Nat.le_of_ble_eq_true l6
  have l7 : n.1 < E.1 := Nat.le_of_ble_eq_true l7
  unfold cy_code
  have miss : cy_lo E sf 0 = true ∧ cy_lo E st 0 = true → ¬ (ai_vx r sf = -1 ∨ ai_vx r st = -1) := fun ⟨g1, g2⟩ => by
    have := cy_lo_ok hE l1 g1
    have := cy_lo_ok hE l2 g2
    omega
  split at h
  · rw [Bool.or_eq_true, Bool.and_eq_true, Bool.and_eq_true] at h
    rw [if_pos]
    rcases h with ⟨g1, g2⟩ | ⟨g1, g2⟩
    · have := cy_lo_ok hE l1 g1
      have := cy_hi_ok hE l1 g2
      omega
    · have := cy_lo_ok hE l2 g1
      have := cy_hi_ok hE l2 g2
      omega
  · rw [Bool.and_eq_true, Bool.and_eq_true] at h
    rw [if_neg (miss h.1), if_pos (ai_nef_ok hE.1 (cy_ds hE) h.2)]
  · rw [Bool.and_eq_true, Bool.and_eq_true, Bool.and_eq_true, Bool.or_eq_true] at h
    have he := cy_eq_ok hE h.2.1
    rw [if_neg (miss h.1), if_neg (fun q => q he), if_neg]
    rintro ⟨g1, g2⟩
    rcases h.2.2 with q | q
    · exact cy_no_ok hE l1 l5 l7 q g1
    · exact cy_no_ok hE l2 l6 l7 q g2
  · rw [Bool.and_eq_true, Bool.and_eq_true, Bool.and_eq_true, Bool.and_eq_true] at h
    have he := cy_eq_ok hE h.2.1
    rw [if_neg (miss h.1), if_neg (fun q => q he), if_pos ⟨cy_yes_ok hE l1 l5 l7 h.2.2.1, cy_yes_ok hE l2 l6 l7 h.2.2.2⟩]
  · cases h
end CY
section HCP
variable {p : Program} {l : Launch} {e : Env} {s : State} {m : MethodId} {args : Array Value} {below : List Frame} {meth : Method} {c : Code} {Q : State → Prop}
variable {D : va_G} {tyc : Nat → ClassId} {A : Nat → Prop} {sa : ai_B} {ws0 : va_W} {mi n : Nat}
variable {pc : Nat} {L S : List ai_V} {G : ai_G} {r : Nat → Int} {ad : Nat → Nat} {H : Heap} {locs : List Loc} {ls : Array Slot} {st : List Value}
noncomputable def cy_acp (mi pc : Nat) : Bool := match ls_code mi pc with
  | some (i, len, a, _) => (match i with
    | .invokestatic _ => Nat.beq a 1005 && Nat.beq len 3
    | _ => false)
  | none => false
theorem cy_acp_ok {mi pc : Nat} (h : cy_acp mi pc = true) : ∃ idx b, ls_code mi pc = some (.invokestatic idx, 3, 1005, b) := by
  unfold cy_acp at h
  split at h
  · rename_i i len a b ec
    split at h
    · rename_i idx
      rw [Bool.and_eq_true] at h
      have h1 := Nat.eq_of_beq_eq_true h.1
      have h2 := Nat.eq_of_beq_eq_true h.2
      subst h1 h2
      exact ⟨idx, b, ec⟩
    · cases h
  · cases h
/-- an array copied into another one (or into itself), both left alone by the domain -/
theorem hg_copy (hpl : lh_plain mi = true) (F : ls_Fr p (lt_rm (n + 1) mi) s m args meth c D tyc A sa mi) (hck : cy_acp mi pc = true) {xn xd xs : ai_X} {q0 q K M N Dp Sp : Nat} {f g : Nat → Int32} (hR : ai_Rel D tyc A s sa ws0 (ct_mt mi).2.2.1 r ad L (.inl xn :: .inl xd :: .inr (.inr (some (some q))) :: .inl xs :: .inr (.inr (some (some q0))) :: S) G H locs ls st)
    (hq : 16 ≤ q) (hq0 : 16 ≤ q0) (hc : ai_cell G.2.1 q = none) (hc0 : ai_cell G.2.1 q0 = none) (hf : hg_ia tyc ws0 q0 K f) (hg : hg_ia tyc ws0 q M g) (hN : ai_vx r xn = (N : Int)) (hD : ai_vx r xd = (Dp : Int)) (hS : ai_vx r xs = (Sp : Int)) (h1 : Sp + N ≤ K) (h2 : Dp + N ≤ M) (hw : ai_words S ≤ 30)
    (k : ∀ (ws1 : va_W) (H1 : Heap) (locs1 : List Loc) (st' : List Value), hg_ia tyc ws1 q M (va_cpy f g Sp Dp N) → (∀ x, x ≠ q - 16 → ws1[x]? = ws0[x]?) → ai_Rel D tyc A s sa ws1 (ct_mt mi).2.2.1 r ad L S G H1 locs1 ls st' → W p l e (lt_rm (n + 1) mi) s m args below meth c H1 locs1 G.2.2.1 G.2.2.2 Q (F0 m (pc + 3) ls st')) :
    W p l e (lt_rm (n + 1) mi) s m args below meth c H locs G.2.2.1 G.2.2.2 Q (F0 m pc ls st) := by
  unfold lh_plain at hpl
  simp only [Bool.and_eq_true, Bool.not_eq_true'] at hpl
  obtain ⟨p1, p3⟩ := hpl
  obtain ⟨mok, htab⟩ := ls_known p1
  rw [p3] at htab
  obtain ⟨idx, b, ec⟩ := cy_acp_ok hck
  obtain ⟨hdg, -, hwd, -, -⟩ := htab _ _ _ _ _ ec
  have hlink := hwd.2.2.2.2 rfl
  obtain ⟨hx, hb, hml, hts, hown, hSt0, hA, hbud, hcls, hroom, hlocks⟩ := F
  obtain ⟨ws, hP, hDj, hSs, hE, hH, hO, hsa, hL, hSt⟩ := hR
  have hws := ai_words_ok hSt
  obtain ⟨nx', t0, rfl, n1, n2, h0⟩ := ai_gF.int hSt
  obtain ⟨dx, t1, rfl, d1, d2, g1⟩ := h0.int
  obtain ⟨t2, rfl, hqn, g2⟩ := g1.ref
  obtain ⟨sx, t3, rfl, s1, s2, g3⟩ := g2.int
  obtain ⟨t4, rfl, hq0n, g4⟩ := g3.ref
  obtain ⟨a0, hw0⟩ := hf
  obtain ⟨a1, hw1⟩ := hg
  have e0 : ws[q0 - 16]? = ws0[q0 - 16]? := hH.2.2.2 (q0 - 16) (by omega) (by rw [show q0 - 16 + 16 = q0 by omega]; exact hc0)
  have e1 : ws[q - 16]? = ws0[q - 16]? := hH.2.2.2 (q - 16) (by omega) (by rw [show q - 16 + 16 = q by omega]; exact hc)
  have hw0' : ws[q0 - 16]? = some (a0, .inl (tyc 0, K, .inl f)) := by rw [e0]; exact hw0
  have hw1' : ws[q - 16]? = some (a1, .inl (tyc 0, M, .inl g)) := by rw [e1]; exact hw1
  have ha0 : a0 = ad q0 := by
    have := hH.2.1 _ _ hw0'
    rw [show q0 - 16 + 16 = q0 by omega] at this
    exact this
  have ha1 : a1 = ad q := by
    have := hH.2.1 _ _ hw1'
    rw [show q - 16 + 16 = q by omega] at this
    exact this
  subst ha0 ha1
  have nneg : ∀ {z : Int32} {v : Nat}, z.toInt = (v : Int) → ¬ z < 0 ∧ z.toNatClampNeg = v := fun {z} {v} hz => ⟨by rw [Int32.lt_iff_toInt_lt, Int32.toInt_zero]; omega, by rw [ai_clamp, hz]; rfl⟩
  obtain ⟨b1, b2⟩ := nneg (n2.trans hN)
  obtain ⟨c1, c2⟩ := nneg (d2.trans hD)
  obtain ⟨w1, w2⟩ := nneg (s2.trans hS)
  have hlt : q - 16 < ws.length := (List.getElem?_eq_some_iff.mp hw1').1
  have hlt0 : q - 16 < ws0.length := (List.getElem?_eq_some_iff.mp hw1).1
  refine va_copyi hx hb (by rw [hml, hL.2.1]) hown (hts _ hlink.1) (hts _ hlink.2.1) (hts _ hlink.2.2.1) (hts _ hlink.2.2.2) hSt0.1 hP hDj hSs (q0 - 16) (q - 16) 0 0 hw0' hw1' rfl rfl rfl w1 c1 b1 (by rw [w2, b2]; omega) (by rw [c2, b2]; omega) (fun i hi => rfl) (by have := hroom.1; omega) ?_ hdg (fun H1 locs1 hP1 hD1 hS1 => ?_)
  · have : (t4.map fun v => v.category).sum ≤ 30 := by
      have := ai_words_ok g4
      omega
    have hn : nativeFrameWords "java/lang/System" "arraycopy" 5 + 11 ≤ 160 := by decide +kernel
    have := hroom.2
    simp only [List.map_cons, List.sum_cons] at *
    omega
  · rw [w2, c2, b2] at hP1 hD1
    refine k (ws0.set (q - 16) (ad q, .inl (tyc 0, M, .inl (va_cpy f g Sp Dp N)))) H1 locs1 t4 ⟨ad q, List.getElem?_set_self hlt0⟩ (fun x hx => List.getElem?_set_ne (Ne.symm hx)) ⟨_, hP1, hD1, hS1, hE, ⟨by rw [List.length_set]; exact hH.1, fun x y hy => ?_, fun x hxn d hd => ?_, fun x hxn hd => ?_⟩, hO, hsa, hL, g4⟩
    · by_cases hxq : x = q - 16
      · subst hxq
        rw [List.getElem?_set_self hlt] at hy
        cases hy
        show ad q = _
        rw [show q - 16 + 16 = q by omega]
      · rw [List.getElem?_set_ne (Ne.symm hxq)] at hy
        exact hH.2.1 _ _ hy
    · by_cases hxq : x = q - 16
      · subst hxq
        rw [show q - 16 + 16 = q by omega, hc] at hd
        cases hd
      · rw [List.getElem?_set_ne (Ne.symm hxq)]
        exact hH.2.2.1 x hxn d hd
    · by_cases hxq : x = q - 16
      · subst hxq
        rw [List.getElem?_set_self hlt, List.getElem?_set_self hlt0]
      · rw [List.getElem?_set_ne (Ne.symm hxq), List.getElem?_set_ne (Ne.symm hxq)]
        exact hH.2.2.2 x hxn hd
end HCP
