/-! THE TEXTS' METHODS, BY HAND (length, coder, isLatin1, charAt, checkIndex): they change nothing -/
noncomputable def sr_yCoder : ai_MT := (⟨"java/lang/String", "coder", "()B"⟩, prog_22_method_152_code, 1, some .byte, none, 0)
noncomputable def sr_yLatin : ai_MT := (⟨"java/lang/String", "isLatin1", "()Z"⟩, prog_22_method_154_code, 1, some .boolean, none, 0)
noncomputable def sr_yLen : ai_MT := (⟨"java/lang/String", "length", "()I"⟩, prog_22_method_54_code, 1, some .int, none, 0)
noncomputable def sr_yPre : ai_MT := (⟨"jdk/internal/util/Preconditions", "checkIndex", "(IILjava/util/function/BiFunction;)I"⟩, prog_31_method_11_code, 3, some .int, none, 3)
noncomputable def sr_yChk : ai_MT := (⟨"java/lang/String", "checkIndex", "(II)V"⟩, prog_22_method_155_code, 2, none, none, 2)
noncomputable def sr_yCh1 : ai_MT := (⟨"java/lang/StringLatin1", "charAt", "([BI)C"⟩, prog_23_method_2_code, 2, some .char, none, 2)
noncomputable def sr_yChar : ai_MT := (⟨"java/lang/String", "charAt", "(I)C"⟩, prog_22_method_56_code, 2, some .char, none, 1)
theorem sr_m1 : ai_mok ft_W sr_yCoder := ft_mok_ok (gs := [[], [21], [], [], [156]]) (by decide +kernel)
theorem sr_m2 : ai_mok ft_W sr_yLatin := ft_mok_ok (gs := [[], [21], [], [], [166]]) (by decide +kernel)
theorem sr_m3 : ai_mok ft_W sr_yLen := ft_mok_ok (gs := [[], [21], [], [], [152]]) (by decide +kernel)
theorem sr_m4 : ai_mok ft_W sr_yPre := ft_mok_ok (gs := [[], [23], [], [], [177]]) (by decide +kernel)
theorem sr_m5 : ai_mok ft_W sr_yChk := ft_mok_ok (gs := [[], [21], [], [], [172]]) (by decide +kernel)
theorem sr_m6 : ai_mok ft_W sr_yCh1 := ft_mok_ok (gs := [[], [22], [], [], [169]]) (by decide +kernel)
theorem sr_m7 : ai_mok ft_W sr_yChar := ft_mok_ok (gs := [[], [21], [], [], [162]]) (by decide +kernel)
noncomputable def sr_ws : List Cond := [Cond.fieldLink "java/lang/String" 38 "java/lang/String" "COMPACT_STRINGS" "Z", Cond.fieldLink "java/lang/String" 15 "java/lang/String" "coder" "B", Cond.fieldLink "java/lang/String" 9 "java/lang/String" "value" "[B", Cond.fieldLink "java/lang/String" 1053 "jdk/internal/util/Preconditions" "SIOOBE_FORMATTER" "Ljava/util/function/BiFunction;",
  Cond.methodLink "LightsMarket$Reader" 142 sr_yLen.1, Cond.methodLink "LightsMarket$Reader" 146 sr_yChar.1, Cond.methodLink "LightsMarketModel" 333 sr_yLen.1, Cond.methodLink "LightsMarketModel" 337 sr_yChar.1,
  Cond.methodLink "java/lang/String" 335 sr_yCoder.1, Cond.methodLink "java/lang/String" 492 sr_yLatin.1, Cond.methodLink "java/lang/String" 495 sr_yCh1.1, Cond.methodLink "java/lang/StringLatin1" 9 sr_yChk.1, Cond.methodLink "java/lang/String" 1059 sr_yPre.1,
  Cond.instanceMethod sr_yLen.1, Cond.selects "java/lang/String" sr_yLen.1 sr_yLen.1, Cond.instanceMethod sr_yCoder.1, Cond.selects "java/lang/String" sr_yCoder.1 sr_yCoder.1, Cond.instanceMethod sr_yLatin.1, Cond.selects "java/lang/String" sr_yLatin.1 sr_yLatin.1, Cond.instanceMethod sr_yChar.1, Cond.selects "java/lang/String" sr_yChar.1 sr_yChar.1,
  Cond.static sr_yChk.1, Cond.static sr_yCh1.1, Cond.static sr_yPre.1]
theorem sr_w : ∀ w ∈ sr_ws, w ∈ ft_W := ft_all_ok (uw := ft_pick [[], [], [], [], [149, 0, 0, 1, 0, 0, 1, 1, 0, 0, 1, 0, 0, 1, 0, 1, 0, 1, 1, 0], [], [], [], [], [20, 0], [82, 0]] ft_ls) (fun _ hu => ft_pick_ok hu) (by decide +kernel)
theorem sr_at {w : Cond} (k : Nat) (h : sr_ws[k]? = some w) : w ∈ ft_W := sr_w w (List.mem_of_getElem? h)
noncomputable def sr_rm (k : Nat) : Room := { frames := 8 + k, cells := 0, slots := 0, locals := 400 + 64 * k }
/-- what holds before: the arguments, the heap, the texts, byte arrays of it -/
noncomputable def sr_X (A : Nat → Prop) (tb : List (Nat × Nat × (Nat → Value))) (U : State) : Prop := ∀ q ∈ tb, va_T .byte q.1 q.2.1 q.2.2 A U U.heap
noncomputable def sr_P (D : va_G) (tyc : Nat → ClassId) (A : Nat → Prop) (sa : ai_B) (tb : List (Nat × Nat × (Nat → Value))) (H0 : Heap) (As : List Value) : Array Value → State → Prop := fun a U => a = As.toArray ∧ U.heap = H0 ∧ ai_St D tyc A sa ct_strs ft_N U ∧ (∀ q, H0.size ≤ q → A q) ∧ sr_X A tb U
/-- what holds behind: the same heap, the answer -/
noncomputable def sr_Q (H0 : Heap) (P : Option Value → Prop) : Array Value → State → Outcome → State → Prop := fun _ _ o t => t.heap = H0 ∧ ∃ v, o = .returned v ∧ P v
abbrev sr_Met (l : Launch) (D : va_G) (tyc : Nat → ClassId) (A : Nat → Prop) (sa : ai_B) (k : Nat) (y : ai_MT) (tb : List (Nat × Nat × (Nat → Value))) (H : Heap) (As : List Value) (P : Option Value → Prop) : Prop := vx_Met l y.1 (ai_cw y :: ft_W) (sr_rm k) (sr_P D tyc A sa tb H As) (sr_Q H P) (fun _ _ _ => False) 0 0 A
theorem sr_met {l : Launch} {D : va_G} {tyc : Nat → ClassId} {A : Nat → Prop} {sa : ai_B} {y : ai_MT} {kk : Nat} {tb : List (Nat × Nat × (Nat → Value))} {H0 : Heap} {As : List Value} {P : Option Value → Prop} (mok : ai_mok ft_W y) (htb : y.2.2.2.2.1 = none)
    (body : ∀ (p : Program) (e : Env) (s : State) (m : MethodId) (below : List Frame) (meth : Method) (c : Code), ai_Fr p (sr_rm kk) s m As.toArray meth c D tyc A sa y.2.2.1 y.2.1 y.1.cls ft_W ct_strs ft_N (0, 0) ct_dflt ct_kind → meth.sig.returnType = y.2.2.2.1 → s.heap = H0 → sr_X A tb s →
      W p l e (sr_rm kk) s m As.toArray below meth c s.heap [] 0 0 (vx_MQ below (sr_Q H0 P) (fun _ _ _ => False) As.toArray s 0 0 A) (F0 m 0 ((lg_sl As ++ List.replicate (y.2.2.1 - (lg_sl As).length) Slot.unset).toArray) [])) : sr_Met l D tyc A sa kk y tb H0 As P := by
  unfold sr_Met ai_cw
  rw [htb]
  refine vx_ofW mok.1 rfl (fun p e s m args below meth c s₁ B hml ht hP => ?_)
  obtain ⟨hargs, hheap, hSt, hA0, hX⟩ := hP
  have hts : ∀ w ∈ ft_W, w.before args s = true := fun w hw => atoms_spec (ws := Cond.code y.1 y.2.1 y.2.2.1 y.2.2.2.1 :: ft_W) B.pre w (List.mem_cons_of_mem _ hw)
  subst hargs
  have F : ai_Fr p (sr_rm kk) s m As.toArray meth c D tyc A sa y.2.2.1 y.2.1 y.1.cls ft_W ct_strs ft_N (0, 0) ct_dflt ct_kind := ⟨B.exec, B.bytes, hml, hts, findClass_of_methodNamed B.named, hSt, by rw [hheap]; exact hA0, ⟨rfl, rfl⟩, sc_all, ⟨Nat.le_add_right _ _, Nat.le_add_right _ _⟩, B.notSynchronized⟩
  have R0 := body p e s m below meth c F B.returns hheap hX
  have e3 : entryFrame m As.toArray y.2.2.1 = F0 m 0 ((lg_sl As ++ List.replicate (y.2.2.1 - (lg_sl As).length) Slot.unset).toArray) [] := lg_entry_eq m As y.2.2.1
  rw [e3]
  exact R0
section SR
variable {p : Program} {l : Launch} {e : Env} {R : Room} {s : State} {m : MethodId} {args : Array Value} {below : List Frame} {meth : Method} {c : Code} {Q : State → Prop}
variable {D : va_G} {tyc : Nat → ClassId} {A : Nat → Prop} {sa : ai_B} {nL : Nat} {cc : ByteArray} {own : String} {bud : Nat × Nat}
variable {H : Heap} {locs : List Loc} {cells slots : Nat} {ls : Array Slot} {pc idx kk : Nat} {y : ai_MT} {b : Nat} {As rest : List Value} {P : Option Value → Prop} {tb : List (Nat × Nat × (Nat → Value))}
theorem sr_blind {H : Heap} : FrameBlind (sr_P D tyc A sa tb H As) := by
  intro a U g mk ⟨h1, h2, h3, h4, h5⟩
  exact ⟨h1, h2, h3.moved (fun w hw => (List.mem_filter.mp hw).2) (show U.WarmedH U.vm from State.WarmedH.refl U) (Nat.le_refl _) (fun q _ _ => rfl), h4, fun q hq => va_T.moved (show U.WarmedH U.vm from State.WarmedH.refl U).alike (h5 q hq)⟩
theorem sr_pre (hSt0 : ai_St D tyc A sa ct_strs ft_N s) (hA : ∀ q, s.heap.size ≤ q → A q) (hS : va_S A s.heap H locs) (hX : sr_X A tb s) (U : State) (hU : U.heap = H) (hW : s.WarmedH U.vm) : sr_P D tyc A sa tb H As As.toArray U :=
  ⟨rfl, hU, hSt0.moved (fun w hw => (List.mem_filter.mp hw).2) hW (by rw [hU]; exact hS.1) (fun q h1 h2 => by rw [hU]; exact hS.2.1 q h1 h2), fun q hq => hA q (Nat.le_trans hS.1 hq), fun q hq => by rw [hU]; exact (va_T.moved hW.alike (hX q hq)).kept hS.2.1⟩
theorem sr_callV (F : ai_Fr p R s m args meth c D tyc A sa nL cc own ft_W ct_strs ft_N bud ct_dflt ct_kind) (mok : ai_mok ft_W y) (hnone : y.2.2.2.2.1 = none) (w1 : Cond.methodLink own idx y.1 ∈ ft_W) (w2 : Cond.instanceMethod y.1 ∈ ft_W) (w3 : Cond.selects y.1.cls y.1 y.1 ∈ ft_W)
    (hrm : 8 + kk + 1 ≤ R.frames ∧ 400 + 64 * kk + 64 ≤ R.locals) (hdg : decode cc pc = .ok (.invokevirtual idx, 3)) (hn : As.length = y.2.2.2.2.2) (hls : ls.size = nL) (hw : (rest.map fun v => v.category).sum ≤ 8) (hS : va_S A s.heap H locs) (hroom : cells ≤ R.cells ∧ slots ≤ R.slots) (hX : sr_X A tb s)
    (hrec : ∃ cell : Cell, H[b]? = some cell ∧ cell.vm.isStatics = false ∧ s.vm.findClass y.1.cls = some cell.cls)
    (hMet : sr_Met l D tyc A sa kk y tb H (.ref b :: As) P)
    (k : ∀ (v : Option Value) (locs1 : List Loc), P v → va_S A s.heap H locs1 → W p l e R s m args below meth c H locs1 cells slots Q (F0 m (pc + 3) ls (v.toList ++ rest))) :
    W p l e R s m args below meth c H locs cells slots Q (F0 m pc ls (As.reverse ++ .ref b :: rest)) := by
  obtain ⟨hx, hb, hml, hts, hown, hSt0, hA, hbud, hcls, hroom0, hlocks⟩ := F
  obtain ⟨m1, m2, m3, m4, m5⟩ := mok
  have hgood : ∀ w ∈ ft_W, goodWord w = true := fun w hw => (List.mem_filter.mp hw).2
  have hfix : CallFix p m c cc nL s args ft_W own := ⟨hx, hb, hml, hown, hts⟩
  have hGws : GoodIn ft_W (ai_cw y :: ft_W) := goodIn_sub (fun w hw => (List.mem_cons.mp hw).elim (fun q => by rw [q]; exact m4) (fun q => q)) (List.all_eq_true.mpr (fun w hw => (List.mem_cons.mp hw).elim (fun q => by rw [q]; exact hgood _ m4) (fun q => hgood w q)))
  have hgo : ∀ {ws : List Cond}, (∀ w ∈ ws, w ∈ ft_W) → GoodIn ft_W ws := fun hm => goodIn_sub hm (List.all_eq_true.mpr (fun w hw => hgood w (hm w hw)))
  have hlo : (sr_rm kk).frames + 1 ≤ R.frames ∧ 8 + (y.2.2.1 + 11) + (sr_rm kk).locals ≤ R.locals := ⟨hrm.1, by show 8 + (y.2.2.1 + 11) + (400 + 64 * kk) ≤ R.locals; omega⟩
  have hM := hMet
  unfold sr_Met ai_cw at hM
  unfold ai_cw at hGws
  rw [hnone] at hM hGws
  have hRun := vx_runV (p := p) (l := l) (e := e) (R := R) (s := s) (m := m) (args := args) (below := below) (meth := meth) (c := c) (H := H) (locs := locs) (cells := cells) (slots := slots) (g := F0 m pc ls (As.reverse ++ .ref b :: rest)) (C := y.1.cls) (index := idx) (n := y.2.2.2.2.2) (b := b) (As := As) (rest := rest) hfix hM (cwV _ hts (hgo (fun w hw => by
    rcases List.mem_append.mp hw with hw | hw
    · simp only [List.mem_cons, List.not_mem_nil, or_false] at hw
      rcases hw with rfl | rfl | rfl | rfl
      · exact w1
      · exact w2
      · exact w3
      · exact m5
    · exact (hGws w hw).1)) rfl rfl rfl ⟨rfl, m2⟩ hlo) ⟨sr_blind, hrec, fun U hU hW => sr_pre hSt0 hA hS hX U hU hW⟩ rfl hn hls rfl (by show 2 * 0 + _ ≤ 8; omega) hdg hroom
  intro T hT X
  rcases hRun T hT X with ⟨v, st₀, t, T', Lx, h0, X', hLx, e1, e2, hq, stp⟩ | ⟨q, st₀, t, T', Lx, E, ce, h0, X', hLx, e1, e2, hxx, -⟩
  · obtain ⟨q1, v', q2, q3⟩ := hq
    cases q2
    obtain ⟨t2, a1, b1⟩ := k v (locs ++ Lx) q3 ⟨hS.1, hS.2.1, fun q hq => (List.mem_append.mp hq).elim (hS.2.2 q) (hLx q)⟩ T' (e1.trans q1) X'
    exact ⟨t2, stp t2 a1, b1⟩
  · exact hxx.elim
theorem sr_callS (F : ai_Fr p R s m args meth c D tyc A sa nL cc own ft_W ct_strs ft_N bud ct_dflt ct_kind) (mok : ai_mok ft_W y) (hnone : y.2.2.2.2.1 = none) (w1 : Cond.methodLink own idx y.1 ∈ ft_W) (w2 : Cond.static y.1 ∈ ft_W)
    (hrm : 8 + kk + 1 ≤ R.frames ∧ 400 + 64 * kk + 64 ≤ R.locals) (hdg : decode cc pc = .ok (.invokestatic idx, 3)) (hn : As.length = y.2.2.2.2.2) (hls : ls.size = nL) (hw : (rest.map fun v => v.category).sum ≤ 8) (hS : va_S A s.heap H locs) (hroom : cells ≤ R.cells ∧ slots ≤ R.slots) (hX : sr_X A tb s)
    (hMet : sr_Met l D tyc A sa kk y tb H As P)
    (k : ∀ (v : Option Value) (locs1 : List Loc), P v → va_S A s.heap H locs1 → W p l e R s m args below meth c H locs1 cells slots Q (F0 m (pc + 3) ls (v.toList ++ rest))) :
    W p l e R s m args below meth c H locs cells slots Q (F0 m pc ls (As.reverse ++ rest)) := by
  obtain ⟨hx, hb, hml, hts, hown, hSt0, hA, hbud, hcls, hroom0, hlocks⟩ := F
  obtain ⟨m1, m2, m3, m4, m5⟩ := mok
  have hgood : ∀ w ∈ ft_W, goodWord w = true := fun w hw => (List.mem_filter.mp hw).2
  have hfix : CallFix p m c cc nL s args ft_W own := ⟨hx, hb, hml, hown, hts⟩
  have hGws : GoodIn ft_W (ai_cw y :: ft_W) := goodIn_sub (fun w hw => (List.mem_cons.mp hw).elim (fun q => by rw [q]; exact m4) (fun q => q)) (List.all_eq_true.mpr (fun w hw => (List.mem_cons.mp hw).elim (fun q => by rw [q]; exact hgood _ m4) (fun q => hgood w q)))
  have hgo : ∀ {ws : List Cond}, (∀ w ∈ ws, w ∈ ft_W) → GoodIn ft_W ws := fun hm => goodIn_sub hm (List.all_eq_true.mpr (fun w hw => hgood w (hm w hw)))
  have hlo : (sr_rm kk).frames + 1 ≤ R.frames ∧ 8 + (y.2.2.1 + 11) + (sr_rm kk).locals ≤ R.locals := ⟨hrm.1, by show 8 + (y.2.2.1 + 11) + (400 + 64 * kk) ≤ R.locals; omega⟩
  have hM := hMet
  unfold sr_Met ai_cw at hM
  unfold ai_cw at hGws
  rw [hnone] at hM hGws
  have hRun := vx_runS (p := p) (l := l) (e := e) (R := R) (s := s) (m := m) (args := args) (below := below) (meth := meth) (c := c) (H := H) (locs := locs) (cells := cells) (slots := slots) (g := F0 m pc ls (As.reverse ++ rest)) (index := idx) (n := y.2.2.2.2.2) (As := As) (rest := rest) hfix hM (va_cwS _ hts (hgo (fun w hw => by
    rcases List.mem_append.mp hw with hw | hw
    · simp only [List.mem_cons, List.not_mem_nil, or_false] at hw
      rcases hw with rfl | rfl | rfl
      · exact w1
      · exact w2
      · exact m5
    · exact (hGws w hw).1)) rfl rfl rfl m2 hlo) ⟨sr_blind, fun U hU hW => sr_pre hSt0 hA hS hX U hU hW⟩ rfl hn hls rfl (by show 2 * 0 + _ ≤ 8; omega) hdg hroom
  intro T hT X
  rcases hRun T hT X with ⟨v, st₀, t, T', Lx, h0, X', hLx, e1, e2, hq, stp⟩ | ⟨q, st₀, t, T', Lx, E, ce, h0, X', hLx, e1, e2, hxx, -⟩
  · obtain ⟨q1, v', q2, q3⟩ := hq
    cases q2
    obtain ⟨t2, a1, b1⟩ := k v (locs ++ Lx) q3 ⟨hS.1, hS.2.1, fun q hq => (List.mem_append.mp hq).elim (hS.2.2 q) (hLx q)⟩ T' (e1.trans q1) X'
    exact ⟨t2, stp t2 a1, b1⟩
  · exact hxx.elim
end SR
section ST
variable {l : Launch} {D : va_G} {tyc : Nat → ClassId} {A : Nat → Prop} {sa : ai_B} {H : Heap} {i : Nat} {tb : List (Nat × Nat × (Nat → Value))}
theorem sr_d1 : decode prog_22_method_152_code 0 = .ok (.getstatic 38, 3) ∧ decode prog_22_method_152_code 3 = .ok (.ifCond .eq 10, 3) ∧ decode prog_22_method_152_code 6 = .ok (.aload_n 0, 1) ∧ decode prog_22_method_152_code 7 = .ok (.getfield 15, 3) ∧ decode prog_22_method_152_code 10 = .ok (.goto 4, 3) ∧ decode prog_22_method_152_code 14 = .ok (.ireturn, 1) := by decide +kernel
theorem sr_coder (hi : i < 10) : sr_Met l D tyc A sa 0 sr_yCoder tb H [.ref (sa.1 i)] (fun v => v = some (.int 0)) := by
  refine sr_met sr_m1 rfl (fun p e s m below meth c F hret hheap hX => ?_)
  obtain ⟨hx, hb, hml, hts, hown, hSt0, hA, hbud, hcls, hroom, hlocks⟩ := F
  obtain ⟨⟨adV, hV⟩, hC, hZq⟩ := hSt0.2.2.2.2.2.2.2.2.2.2
  obtain ⟨d0, d1, d2, d3, d4, d5⟩ := sr_d1
  refine va_gets hx hb hC va_S.rf hown (hts _ (sr_at 0 rfl)) (fun x h => h) d0 ?_
  refine lv_if_eq hx hb d1 (tgt := 13) rfl (fun q => absurd q (by decide)) (fun _ => ?_)
  refine lv_aload_n hx hb d2 (i := 0) rfl rfl ?_
  refine vk_getf hx hb (hV.1 i hi).2.1 va_S.rf hown (hts _ (sr_at 1 rfl)) (fun x h => h) d3 ?_
  refine lv_goto hx hb d4 (tgt := 14) rfl ?_
  exact vx_ret (W.zret hx hb hret rfl (fun t ht _ => ⟨ht.trans hheap, _, rfl, rfl⟩) (fun q hq => by cases hq) d5 hlocks)
theorem sr_d2 : decode prog_22_method_154_code 0 = .ok (.getstatic 38, 3) ∧ decode prog_22_method_154_code 3 = .ok (.ifCond .eq 14, 3) ∧ decode prog_22_method_154_code 6 = .ok (.aload_n 0, 1) ∧ decode prog_22_method_154_code 7 = .ok (.getfield 15, 3) ∧ decode prog_22_method_154_code 10 = .ok (.ifCond .ne 7, 3) ∧ decode prog_22_method_154_code 13 = .ok (.iconst 1, 1) ∧ decode prog_22_method_154_code 14 = .ok (.goto 4, 3) ∧ decode prog_22_method_154_code 18 = .ok (.ireturn, 1) := by decide +kernel
theorem sr_latin (hi : i < 10) : sr_Met l D tyc A sa 0 sr_yLatin tb H [.ref (sa.1 i)] (fun v => v = some (.int 1)) := by
  refine sr_met sr_m2 rfl (fun p e s m below meth c F hret hheap hX => ?_)
  obtain ⟨hx, hb, hml, hts, hown, hSt0, hA, hbud, hcls, hroom, hlocks⟩ := F
  obtain ⟨⟨adV, hV⟩, hC, hZq⟩ := hSt0.2.2.2.2.2.2.2.2.2.2
  obtain ⟨d0, d1, d2, d3, d4, d5, d6, d7⟩ := sr_d2
  refine va_gets hx hb hC va_S.rf hown (hts _ (sr_at 0 rfl)) (fun x h => h) d0 ?_
  refine lv_if_eq hx hb d1 (tgt := 17) rfl (fun q => absurd q (by decide)) (fun _ => ?_)
  refine lv_aload_n hx hb d2 (i := 0) rfl rfl ?_
  refine vk_getf hx hb (hV.1 i hi).2.1 va_S.rf hown (hts _ (sr_at 1 rfl)) (fun x h => h) d3 ?_
  refine lv_if_ne hx hb d4 (tgt := 17) rfl (fun q => absurd rfl q) (fun _ => ?_)
  refine lv_iconst hx hb d5 (v := 1) rfl ?_
  refine lv_goto hx hb d6 (tgt := 18) rfl ?_
  exact vx_ret (W.zret hx hb hret rfl (fun t ht _ => ⟨ht.trans hheap, _, rfl, rfl⟩) (fun q hq => by cases hq) d7 hlocks)
theorem sr_d3 : decode prog_22_method_54_code 0 = .ok (.aload_n 0, 1) ∧ decode prog_22_method_54_code 1 = .ok (.getfield 9, 3) ∧ decode prog_22_method_54_code 4 = .ok (.arraylength, 1) ∧ decode prog_22_method_54_code 5 = .ok (.aload_n 0, 1) ∧ decode prog_22_method_54_code 6 = .ok (.invokevirtual 335, 3) ∧ decode prog_22_method_54_code 9 = .ok (.ishr, 1) ∧ decode prog_22_method_54_code 10 = .ok (.ireturn, 1) := by decide +kernel
theorem sr_shr : ∀ i, i < 10 → (Int32.ofNat (ai_tl.getD i 0)) >>> ((0 : Int32) &&& 31) = Int32.ofNat (ai_tl.getD i 0) := by decide +kernel
theorem sr_len (hi : i < 10) : sr_Met l D tyc A sa 1 sr_yLen [] H [.ref (sa.1 i)] (fun v => v = some (.int (Int32.ofNat (ai_tl.getD i 0)))) := by
  refine sr_met sr_m3 rfl (fun p e s m below meth c F hret hheap hX => ?_)
  have F0' := F
  obtain ⟨hx, hb, hml, hts, hown, hSt0, hA, hbud, hcls, hroom, hlocks⟩ := F
  obtain ⟨⟨adV, hV⟩, hC, hZq⟩ := hSt0.2.2.2.2.2.2.2.2.2.2
  obtain ⟨d0, d1, d2, d3, d4, d5, d6⟩ := sr_d3
  refine lv_aload_n hx hb d0 (i := 0) rfl rfl ?_
  refine vk_getf hx hb (hV.1 i hi).2.2.1 va_S.rf hown (hts _ (sr_at 2 rfl)) (fun x h => h) d1 ?_
  refine va_tlen hx hb (hV.1 i hi).2.2.2 va_S.rf rfl d2 ?_
  refine lv_aload_n hx hb d3 (i := 0) rfl rfl ?_
  refine sr_callV (As := []) (y := sr_yCoder) (kk := 0) (tb := []) F0' sr_m1 rfl (sr_at 8 rfl) (sr_at 15 rfl) (sr_at 16 rfl) ⟨Nat.le_refl _, Nat.le_refl _⟩ d4 rfl rfl (by show (1 : Nat) + 0 ≤ 8; omega) va_S.rf ⟨Nat.le_refl _, Nat.le_refl _⟩ hX (vk_recv hV hi va_S.rf) (by rw [hheap]; exact sr_coder hi) (fun v locs1 hv hS1 => ?_)
  subst hv
  refine lv_ishr hx hb d5 ?_
  rw [sr_shr i hi]
  exact vx_ret (W.iret hx hb hret (fun t ht _ => ⟨ht.trans hheap, _, rfl, rfl⟩) hS1.2.2 d6 hlocks)
theorem sr_d4 : decode prog_31_method_11_code 0 = .ok (.iload_n 0, 1) ∧ decode prog_31_method_11_code 1 = .ok (.ifCond .lt 8, 3) ∧ decode prog_31_method_11_code 4 = .ok (.iload_n 0, 1) ∧ decode prog_31_method_11_code 5 = .ok (.iload_n 1, 1) ∧ decode prog_31_method_11_code 6 = .ok (.if_icmp .lt 10, 3) ∧ decode prog_31_method_11_code 16 = .ok (.iload_n 0, 1) ∧ decode prog_31_method_11_code 17 = .ok (.ireturn, 1) := by decide +kernel
theorem sr_prec {j n : Int32} {u : Value} (h0 : ¬ j < 0) (h1 : j < n) : sr_Met l D tyc A sa 0 sr_yPre tb H [.int j, .int n, u] (fun v => v = some (.int j)) := by
  refine sr_met sr_m4 rfl (fun p e s m below meth c F hret hheap hX => ?_)
  obtain ⟨hx, hb, hml, hts, hown, hSt0, hA, hbud, hcls, hroom, hlocks⟩ := F
  obtain ⟨d0, d1, d2, d3, d4, d5, d6⟩ := sr_d4
  refine lv_iload_n hx hb d0 (i := 0) rfl rfl ?_
  refine lv_if_lt hx hb d1 (tgt := 9) rfl (fun q => absurd q h0) (fun _ => ?_)
  refine lv_iload_n hx hb d2 (i := 0) rfl rfl ?_
  refine lv_iload_n hx hb d3 (i := 1) rfl rfl ?_
  refine lv_icmp_lt hx hb d4 (tgt := 16) rfl (fun _ => ?_) (fun q => absurd h1 q)
  refine lv_iload_n hx hb d5 (i := 0) rfl rfl ?_
  exact vx_ret (W.iret hx hb hret (fun t ht _ => ⟨ht.trans hheap, _, rfl, rfl⟩) (fun q hq => by cases hq) d6 hlocks)
theorem sr_d5 : decode prog_22_method_155_code 0 = .ok (.iload_n 0, 1) ∧ decode prog_22_method_155_code 1 = .ok (.iload_n 1, 1) ∧ decode prog_22_method_155_code 2 = .ok (.getstatic 1053, 3) ∧ decode prog_22_method_155_code 5 = .ok (.invokestatic 1059, 3) ∧ decode prog_22_method_155_code 8 = .ok (.pop, 1) ∧ decode prog_22_method_155_code 9 = .ok (.return_, 1) := by decide +kernel
theorem sr_chk {j n : Int32} (h0 : ¬ j < 0) (h1 : j < n) : sr_Met l D tyc A sa 1 sr_yChk tb H [.int j, .int n] (fun v => v = none) := by
  refine sr_met sr_m5 rfl (fun p e s m below meth c F hret hheap hX => ?_)
  have F0' := F
  obtain ⟨hx, hb, hml, hts, hown, hSt0, hA, hbud, hcls, hroom, hlocks⟩ := F
  obtain ⟨-, -, hZq⟩ := hSt0.2.2.2.2.2.2.2.2.2.2
  obtain ⟨d0, d1, d2, d3, d4, d5⟩ := sr_d5
  refine lv_iload_n hx hb d0 (i := 0) rfl rfl ?_
  refine lv_iload_n hx hb d1 (i := 1) rfl rfl ?_
  have go : ∀ u : Value, W p l e (sr_rm 1) s m [Value.int j, Value.int n].toArray below meth c s.heap [] 0 0 (vx_MQ below (sr_Q H (fun v => v = none)) (fun _ _ _ => False) [Value.int j, Value.int n].toArray s 0 0 A) (F0 m 5 ((lg_sl [Value.int j, Value.int n] ++ List.replicate (sr_yChk.2.2.1 - (lg_sl [Value.int j, Value.int n]).length) Slot.unset).toArray) ([Value.int j, Value.int n, u].reverse ++ [])) := fun u => by
    refine sr_callS (As := [.int j, .int n, u]) (rest := []) (y := sr_yPre) (kk := 0) (tb := tb) F0' sr_m4 rfl (sr_at 12 rfl) (sr_at 23 rfl) ⟨Nat.le_refl _, Nat.le_refl _⟩ d3 rfl rfl (Nat.zero_le _) va_S.rf ⟨Nat.le_refl _, Nat.le_refl _⟩ hX (by rw [hheap]; exact sr_prec h0 h1) (fun v locs1 hv hS1 => ?_)
    subst hv
    refine lv_pop hx hb d4 rfl ?_
    exact vx_ret (W.vret hx hb hret (fun t ht _ => ⟨ht.trans hheap, _, rfl, rfl⟩) hS1.2.2 d5 hlocks)
  rcases hZq with hZ | ⟨t, hZ⟩
  · exact va_gets hx hb hZ va_S.rf hown (hts _ (sr_at 3 rfl)) (fun x h => h) d2 (go .null)
  · exact va_gets hx hb hZ va_S.rf hown (hts _ (sr_at 3 rfl)) (fun x h => h) d2 (go (.ref t))
theorem sr_d6 : decode prog_23_method_2_code 0 = .ok (.iload_n 1, 1) ∧ decode prog_23_method_2_code 1 = .ok (.aload_n 0, 1) ∧ decode prog_23_method_2_code 2 = .ok (.arraylength, 1) ∧ decode prog_23_method_2_code 3 = .ok (.invokestatic 9, 3) ∧ decode prog_23_method_2_code 6 = .ok (.aload_n 0, 1) ∧ decode prog_23_method_2_code 7 = .ok (.iload_n 1, 1) ∧ decode prog_23_method_2_code 8 = .ok (.baload, 1) ∧ decode prog_23_method_2_code 9 = .ok (.sipush 255, 3) ∧ decode prog_23_method_2_code 12 = .ok (.iand, 1) ∧ decode prog_23_method_2_code 13 = .ok (.i2c, 1) ∧ decode prog_23_method_2_code 14 = .ok (.ireturn, 1) := by decide +kernel
noncomputable def sr_chr (x : Int32) : Int32 := ((x &&& 255).toUInt32 % 65536).toInt32
theorem sr_nar : ∀ i, i < 10 → ∀ j, j < ai_tl.getD i 0 → narrow .char (.int (sr_chr ((ai_tb.getD i []).getD j 0))) = .int (sr_chr ((ai_tb.getD i []).getD j 0)) := by decide +kernel
noncomputable def sr_is (v : Option Value) : Prop := ∃ x, v = some (.int x) ∧ narrow .char (.int x) = .int x
noncomputable def sr_tb (a i : Nat) : List (Nat × Nat × (Nat → Value)) := [(a, ai_tl.getD i 0, fun j => .int ((ai_tb.getD i []).getD j 0))]
theorem sr_lt : ∀ i, i < 10 → ∀ j, j < ai_tl.getD i 0 → ¬ (Int32.ofNat j) < 0 ∧ Int32.ofNat j < Int32.ofNat (ai_tl.getD i 0) ∧ (Int32.ofNat j).toNatClampNeg = j := by decide +kernel
theorem sr_char1 {a j : Nat} (hi : i < 10) (hj : j < ai_tl.getD i 0) : sr_Met l D tyc A sa 2 sr_yCh1 (sr_tb a i) H [.ref a, .int (Int32.ofNat j)] sr_is := by
  refine sr_met sr_m6 rfl (fun p e s m below meth c F hret hheap hX => ?_)
  have F0' := F
  obtain ⟨hx, hb, hml, hts, hown, hSt0, hA, hbud, hcls, hroom, hlocks⟩ := F
  obtain ⟨d0, d1, d2, d3, d4, d5, d6, d7, d8, d9, d10⟩ := sr_d6
  obtain ⟨j0, j1, j2⟩ := sr_lt i hi j hj
  have hT := hX _ (List.mem_cons_self)
  refine lv_iload_n hx hb d0 (i := 1) rfl rfl ?_
  refine lv_aload_n hx hb d1 (i := 0) rfl rfl ?_
  refine va_tlen hx hb hT va_S.rf rfl d2 ?_
  refine sr_callS (As := [.int (Int32.ofNat j), .int (Int32.ofNat (ai_tl.getD i 0))]) (rest := []) (y := sr_yChk) (kk := 1) (tb := []) F0' sr_m5 rfl (sr_at 11 rfl) (sr_at 21 rfl) ⟨Nat.le_refl _, Nat.le_refl _⟩ d3 rfl rfl (Nat.zero_le _) va_S.rf ⟨Nat.le_refl _, Nat.le_refl _⟩ (fun q hq => by cases hq) (by rw [hheap]; exact sr_chk j0 j1) (fun v locs1 hv hS1 => ?_)
  subst hv
  refine lv_aload_n hx hb d4 (i := 0) rfl rfl ?_
  refine lv_iload_n hx hb d5 (i := 1) rfl rfl ?_
  refine va_tb hx hb hT hS1 (i := Int32.ofNat j) (fun q => q.elim j0 (fun q => by rw [j2] at q; exact absurd hj (Nat.not_lt.mpr q))) rfl d6 ?_
  refine lv_sipush hx hb d7 (v := 255) rfl ?_
  dsimp only
  rw [j2]
  refine lv_iand hx hb d8 ?_
  refine lv_i2c hx hb d9 rfl ?_
  exact vx_ret (W.zret hx hb hret (sr_nar i hi j hj) (fun t ht _ => ⟨ht.trans hheap, _, rfl, _, rfl, sr_nar i hi j hj⟩) hS1.2.2 d10 hlocks)
theorem sr_d7 : decode prog_22_method_56_code 0 = .ok (.aload_n 0, 1) ∧ decode prog_22_method_56_code 1 = .ok (.invokevirtual 492, 3) ∧ decode prog_22_method_56_code 4 = .ok (.ifCond .eq 12, 3) ∧ decode prog_22_method_56_code 7 = .ok (.aload_n 0, 1) ∧ decode prog_22_method_56_code 8 = .ok (.getfield 9, 3) ∧ decode prog_22_method_56_code 11 = .ok (.iload_n 1, 1) ∧ decode prog_22_method_56_code 12 = .ok (.invokestatic 495, 3) ∧ decode prog_22_method_56_code 15 = .ok (.ireturn, 1) := by decide +kernel
theorem sr_char {j : Nat} (hi : i < 10) (hj : j < ai_tl.getD i 0) : sr_Met l D tyc A sa 3 sr_yChar [] H [.ref (sa.1 i), .int (Int32.ofNat j)] sr_is := by
  refine sr_met sr_m7 rfl (fun p e s m below meth c F hret hheap hX => ?_)
  have F0' := F
  obtain ⟨hx, hb, hml, hts, hown, hSt0, hA, hbud, hcls, hroom, hlocks⟩ := F
  obtain ⟨⟨adV, hV⟩, -, -⟩ := hSt0.2.2.2.2.2.2.2.2.2.2
  obtain ⟨d0, d1, d2, d3, d4, d5, d6, d7⟩ := sr_d7
  refine lv_aload_n hx hb d0 (i := 0) rfl rfl ?_
  refine sr_callV (As := []) (y := sr_yLatin) (kk := 0) (tb := []) F0' sr_m2 rfl (sr_at 9 rfl) (sr_at 17 rfl) (sr_at 18 rfl) ⟨by show 9 ≤ 11; omega, by show 464 ≤ 592; omega⟩ d1 rfl rfl (Nat.zero_le _) va_S.rf ⟨Nat.le_refl _, Nat.le_refl _⟩ hX (vk_recv hV hi va_S.rf) (by rw [hheap]; exact sr_latin hi) (fun v locs1 hv hS1 => ?_)
  subst hv
  refine lv_if_eq hx hb d2 (tgt := 16) rfl (fun q => absurd q (by decide)) (fun _ => ?_)
  refine lv_aload_n hx hb d3 (i := 0) rfl rfl ?_
  refine vk_getf hx hb (hV.1 i hi).2.2.1 hS1 hown (hts _ (sr_at 2 rfl)) (fun x h => h) d4 ?_
  refine lv_iload_n hx hb d5 (i := 1) rfl rfl ?_
  refine sr_callS (As := [.ref (adV i), .int (Int32.ofNat j)]) (rest := []) (y := sr_yCh1) (kk := 2) (tb := sr_tb (adV i) i) F0' sr_m6 rfl (sr_at 10 rfl) (sr_at 22 rfl) ⟨Nat.le_refl _, Nat.le_refl _⟩ d6 rfl rfl (Nat.zero_le _) hS1 ⟨Nat.le_refl _, Nat.le_refl _⟩ (fun q hq => by
    rcases List.mem_cons.mp hq with rfl | hq
    · exact (hV.1 i hi).2.2.2
    · cases hq) (by rw [hheap]; exact sr_char1 hi hj) (fun v locs2 hv hS2 => ?_)
  obtain ⟨x, rfl, hn⟩ := hv
  exact vx_ret (W.zret hx hb hret hn (fun t ht _ => ⟨ht.trans hheap, _, rfl, x, rfl, hn⟩) hS2.2.2 d7 hlocks)
end ST
