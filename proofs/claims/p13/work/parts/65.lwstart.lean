/-! THE WORLD AT THE LAW'S START -/
theorem st_D {s : State} {args : Array Value} (hts : ∀ w ∈ ft_W, w.before args s = true) : ∃ D : va_G, ∀ (c : Nat) (q : vw_C), vwCl[c]? = some q → u_Kn s q.1 q.2.1 q.2.2 (D.1 c) (D.2 c) := by
  have h : ∀ c : Nat, ∃ (k : ClassId) (i : Nat → Nat), ∀ q : vw_C, vwCl[c]? = some q → u_Kn s q.1 q.2.1 q.2.2 k i := by
    intro c
    by_cases hc : c < 13
    · obtain ⟨C, T, N, ty, e, w1, -, -, w4, -⟩ := sc_all c hc
      obtain ⟨k, i, hk⟩ := u_known hts w1 (hts _ w4)
      exact ⟨k, i, fun q hq => by rw [e] at hq; cases hq; exact hk⟩
    · exact ⟨0, fun _ => 0, fun q hq => absurd (show c < 13 from (List.getElem?_eq_some_iff.mp hq).1) hc⟩
  exact ⟨(fun c => Classical.choose (h c), fun c => Classical.choose (Classical.choose_spec (h c))), fun c q hq => Classical.choose_spec (Classical.choose_spec (h c)) q hq⟩
theorem st_arr {s : State} {args : Array Value} {ty : FieldType} (h : (Cond.arrayClass ty).before args s = true) (hp : ty = .int ∨ ty = .long ∨ ty = .boolean) : ∃ cA, ArrOfT s cA ty ∧ va_RA s cA ty := by
  obtain ⟨cA, kA, comp, h1, h2, h3⟩ := Cond.arrayClass_spec h
  refine ⟨cA, fun n z => ⟨fun k h => (by cases h), kA, h2, comp, h3⟩, ?_⟩
  rcases hp with rfl | rfl | rfl
  · exact h1
  · exact h1
  · exact h1
theorem st_arrA {s : State} (h : va_AOA .int s) : ∃ cA, ArrOfT s cA (.array .int) ∧ va_RA s cA (.array .int) := by
  obtain ⟨comp, cA, kA, h1, h2, h3, h4, h5⟩ := ai_over h
  exact ⟨cA, fun n z => ⟨fun k h => (by cases h), kA, h3, comp, h4⟩, h5⟩
theorem st_arrO {s : State} {C : String} (h : va_AO C s) : ∃ cA, ArrOfT s cA (.object C) ∧ va_RA s cA (.object C) := by
  obtain ⟨comp, cA, kA, h1, h2, h3, h4, h5⟩ := Cond.arrayOver_spec h
  exact ⟨cA, fun n z => ⟨fun k h => (by cases h), kA, h3, comp, h4⟩, kA, comp, h3, h4, h1, h5⟩
theorem st_K {s : State} {args : Array Value} (hts : ∀ w ∈ lw_tbl, w.before args s = true) : ∃ (D : va_G) (tyc : Nat → ClassId), va_K D vwCl (ai_tys tyc) s ∧ va_AO RX4 s ∧ va_AO "java/lang/String" s ∧ va_AOA .int s := by
  have hW : ∀ w ∈ ft_W, w.before args s = true := fun w hw => hts w (List.mem_filter.mp hw).1
  obtain ⟨D, hD⟩ := st_D hW
  have a4 : va_AO RX4 s := (hts (Cond.arrayOver (.object RX4)) (List.mem_of_getElem? (i := 167) (by decide +kernel)))
  have a5 : va_AO "java/lang/String" s := (hts (Cond.arrayOver (.object "java/lang/String")) (List.mem_of_getElem? (i := 1626) (by decide +kernel)))
  have a3 : va_AOA .int s := (hts (Cond.arrayOver (.array .int)) (List.mem_of_getElem? (i := 165) (by decide +kernel)))
  obtain ⟨t0, p0, q0⟩ := st_arr (ty := .int) (hts _ (List.mem_of_getElem? (i := 195) (by decide +kernel))) (Or.inl rfl)
  obtain ⟨t1, p1, q1⟩ := st_arr (ty := .long) (hts _ (List.mem_of_getElem? (i := 1971) (by decide +kernel))) (Or.inr (Or.inl rfl))
  obtain ⟨t2, p2, q2⟩ := st_arr (ty := .boolean) (hts _ (List.mem_of_getElem? (i := 616) (by decide +kernel))) (Or.inr (Or.inr rfl))
  obtain ⟨t3, p3, q3⟩ := st_arrA a3
  obtain ⟨t4, p4, q4⟩ := st_arrO a4
  obtain ⟨t5, p5, q5⟩ := st_arrO a5
  refine ⟨D, (fun k => match k with | 0 => t0 | 1 => t1 | 2 => t2 | 3 => t3 | 4 => t4 | _ => t5), ⟨hD, fun k q hk => ?_⟩, a4, a5, a3⟩
  match k, hk with
  | 0, hk => cases hk; exact ⟨p0, q0⟩
  | 1, hk => cases hk; exact ⟨p1, q1⟩
  | 2, hk => cases hk; exact ⟨p2, q2⟩
  | 3, hk => cases hk; exact ⟨p3, q3⟩
  | 4, hk => cases hk; exact ⟨p4, q4⟩
  | 5, hk => cases hk; exact ⟨p5, q5⟩
  | n + 6, hk => cases hk
theorem st_eqr {args : Array Value} {s : State} {X Y : Term} {a : Nat} (h : (Cond.eq X Y).before args s = true) (hX : X.eval args s none [] s = some (.ref a)) : Y.eval args s none [] s = some (.ref a) := by
  cases hv : Y.eval args s none [] s with
  | none => simp [Cond.before, Cond.holds, Cond.value, hX, hv] at h
  | some w =>
    simp only [Cond.before, Cond.holds, Cond.value, hX, hv] at h
    cases w <;> simp_all
noncomputable def st_tk : List Nat := [118, 124, 126, 128, 130, 136, 138, 140, 132, 134]
noncomputable def st_mk : List Nat := [9, 11, 13, 15, 17, 379, 387, 392, 394, 396]
noncomputable def st_tm (i : Nat) : Term := .string "LightsMarket$Reader" (st_tk.getD i 0)
noncomputable def st_mm (i : Nat) : Term := .string "LightsMarketModel" (st_mk.getD i 0)
noncomputable def st_nL : List Cond := flatC (Jvm.Cond.and given_1 narrow_1)
theorem st_w1 : ∀ i, i < 10 → Cond.exactly (st_tm i) "java/lang/String" ∈ st_nL := by decide +kernel
theorem st_w2 : ∀ i, i < 10 → Cond.eq (.field (st_tm i) "java/lang/String" "coder" "B") (.int 0) ∈ st_nL := by decide +kernel
theorem st_w3 : ∀ i, i < 10 → Cond.arrayOf (.field (st_tm i) "java/lang/String" "value" "[B") .byte ∈ st_nL := by decide +kernel
theorem st_w4 : ∀ i, i < 10 → Cond.eq (.length (.field (st_tm i) "java/lang/String" "value" "[B")) (.int (Int32.ofNat (ai_tl.getD i 0))) ∈ st_nL := by decide +kernel
theorem st_w5 : ∀ i, i < 10 → ∀ j, j < ai_tl.getD i 0 → Cond.eq (.elem (.field (st_tm i) "java/lang/String" "value" "[B") (.int (Int32.ofNat j))) (.int ((ai_tb.getD i []).getD j 0)) ∈ st_nL := by decide +kernel
theorem st_w6 : ∀ i, i < 10 → ∀ j, j < 10 → i ≠ j → Cond.not (Cond.eq (st_tm i) (st_tm j)) ∈ st_nL ∨ Cond.not (Cond.eq (st_tm j) (st_tm i)) ∈ st_nL := by decide +kernel
theorem st_w7 : ∀ i, i < 10 → Cond.eq (st_tm i) (st_mm i) ∈ st_nL := by decide +kernel
theorem st_w8 : ∀ i, i < 10 → ai_tl.getD i 0 < 2 ^ 31 := by decide +kernel
theorem st_texts {s : State} {b : Nat} {A : Nat → Prop} (hts : ∀ w ∈ lw_tbl, w.before #[Value.ref b] s = true) (hgv : (Jvm.Cond.and given_1 narrow_1).before #[Value.ref b] s = true) (hA : ∀ a : Nat, a < s.heap.size → ¬ A a) : ∃ f : Nat → Nat, (∃ adV : Nat → Nat, vk_S 10 ai_tl ai_tb f adV A s s.heap) ∧ ∀ q ∈ ct_strs, vk_R q.1 q.2.1 q.2.2.1 (f q.2.2.2) s := by
  have hn : ∀ w ∈ st_nL, w.before #[Value.ref b] s = true := flat_of_before _ hgv
  obtain ⟨f, adV, hS, he⟩ := vk_Sof (tm := st_tm) (len := ai_tl) (byt := ai_tb) (N := 10) (A := A) st_w8 (fun i hi => hn _ (st_w1 i hi)) (fun i hi => hn _ (st_w2 i hi)) (fun i hi => hn _ (st_w3 i hi)) (fun i hi => hn _ (st_w4 i hi)) (fun i hi j hj => hn _ (st_w5 i hi j hj)) (fun i j hi hj hij => (st_w6 i hi j hj hij).elim (fun h => Or.inl (hn _ h)) (fun h => Or.inr (hn _ h))) hA
  have hm : ∀ i, i < 10 → (st_mm i).eval #[Value.ref b] s none [] s = some (.ref (f i)) := fun i hi => st_eqr (hn _ (st_w7 i hi)) (he i hi)
  refine ⟨f, ⟨adV, hS⟩, fun q hq => ?_⟩
  unfold ct_strs at hq
  rcases List.mem_cons.mp hq with rfl | hq
  · exact vk_R.of (hts _ (List.mem_of_getElem? (i := 988) (by decide +kernel))) (he 0 (by decide))
  rcases List.mem_cons.mp hq with rfl | hq
  · exact vk_R.of (hts _ (List.mem_of_getElem? (i := 1041) (by decide +kernel))) (he 1 (by decide))
  rcases List.mem_cons.mp hq with rfl | hq
  · exact vk_R.of (hts _ (List.mem_of_getElem? (i := 1042) (by decide +kernel))) (he 2 (by decide))
  rcases List.mem_cons.mp hq with rfl | hq
  · exact vk_R.of (hts _ (List.mem_of_getElem? (i := 1043) (by decide +kernel))) (he 3 (by decide))
  rcases List.mem_cons.mp hq with rfl | hq
  · exact vk_R.of (hts _ (List.mem_of_getElem? (i := 1044) (by decide +kernel))) (he 4 (by decide))
  rcases List.mem_cons.mp hq with rfl | hq
  · exact vk_R.of (hts _ (List.mem_of_getElem? (i := 1045) (by decide +kernel))) (he 8 (by decide))
  rcases List.mem_cons.mp hq with rfl | hq
  · exact vk_R.of (hts _ (List.mem_of_getElem? (i := 1046) (by decide +kernel))) (he 9 (by decide))
  rcases List.mem_cons.mp hq with rfl | hq
  · exact vk_R.of (hts _ (List.mem_of_getElem? (i := 1047) (by decide +kernel))) (he 5 (by decide))
  rcases List.mem_cons.mp hq with rfl | hq
  · exact vk_R.of (hts _ (List.mem_of_getElem? (i := 1048) (by decide +kernel))) (he 6 (by decide))
  rcases List.mem_cons.mp hq with rfl | hq
  · exact vk_R.of (hts _ (List.mem_of_getElem? (i := 1049) (by decide +kernel))) (he 7 (by decide))
  rcases List.mem_cons.mp hq with rfl | hq
  · exact vk_R.of (hts _ (List.mem_of_getElem? (i := 1627) (by decide +kernel))) (hm 0 (by decide))
  rcases List.mem_cons.mp hq with rfl | hq
  · exact vk_R.of (hts _ (List.mem_of_getElem? (i := 1628) (by decide +kernel))) (hm 1 (by decide))
  rcases List.mem_cons.mp hq with rfl | hq
  · exact vk_R.of (hts _ (List.mem_of_getElem? (i := 1629) (by decide +kernel))) (hm 2 (by decide))
  rcases List.mem_cons.mp hq with rfl | hq
  · exact vk_R.of (hts _ (List.mem_of_getElem? (i := 1630) (by decide +kernel))) (hm 3 (by decide))
  rcases List.mem_cons.mp hq with rfl | hq
  · exact vk_R.of (hts _ (List.mem_of_getElem? (i := 1631) (by decide +kernel))) (hm 4 (by decide))
  rcases List.mem_cons.mp hq with rfl | hq
  · exact vk_R.of (hts _ (List.mem_of_getElem? (i := 2083) (by decide +kernel))) (hm 5 (by decide))
  rcases List.mem_cons.mp hq with rfl | hq
  · exact vk_R.of (hts _ (List.mem_of_getElem? (i := 2112) (by decide +kernel))) (hm 6 (by decide))
  rcases List.mem_cons.mp hq with rfl | hq
  · exact vk_R.of (hts _ (List.mem_of_getElem? (i := 2113) (by decide +kernel))) (hm 7 (by decide))
  rcases List.mem_cons.mp hq with rfl | hq
  · exact vk_R.of (hts _ (List.mem_of_getElem? (i := 2055) (by decide +kernel))) (hm 8 (by decide))
  rcases List.mem_cons.mp hq with rfl | hq
  · exact vk_R.of (hts _ (List.mem_of_getElem? (i := 2062) (by decide +kernel))) (hm 9 (by decide))
  cases hq
theorem st_St {s : State} {b L : Nat} {xs : Nat → Int32} (hts : ∀ w ∈ lw_tbl, w.before #[Value.ref b] s = true) (hX : va_X b L xs s s.heap) (hbl : b < s.heap.size) (hgv : (Jvm.Cond.and given_1 narrow_1).before #[Value.ref b] s = true) : ∃ (D : va_G) (tyc : Nat → ClassId) (f : Nat → Nat), ai_St D tyc (fun q => s.heap.size ≤ q) (f, [(0, b, L, xs)]) ct_strs ft_N s := by
  have hn : ∀ w ∈ st_nL, w.before #[Value.ref b] s = true := flat_of_before _ hgv
  have hA : ∀ a : Nat, a < s.heap.size → ¬ (fun q => s.heap.size ≤ q) a := fun a ha => Nat.not_le.mpr ha
  obtain ⟨D, tyc, hK, k1, k2, k3⟩ := st_K hts
  obtain ⟨f, ⟨adV, t1⟩, t2⟩ := st_texts (A := fun q => s.heap.size ≤ q) hts hgv hA
  refine ⟨D, tyc, f, hK, fun i hi => (t1.1 i hi).1, t2, ⟨k1, k2⟩, k3, fun z hz => ?_, fun w hw => va_Nw.of (ai_nk_tab (List.mem_filter.mp hw).2) (hts w (List.mem_filter.mp hw).1), ?_, ?_, fun q hq => ?_, ⟨adV, t1⟩, ?_, ?_⟩
  · rcases List.mem_cons.mp hz with rfl | hz
    · exact ⟨hX, hbl, Nat.not_le.mpr hbl⟩
    · cases hz
  · exact vx_Zqof (hts _ (List.mem_of_getElem? (i := 824) (by decide +kernel))) (hts _ (List.mem_of_getElem? (i := 139) (by decide +kernel))) (hn _ (by decide +kernel)) hA
  · exact vx_Zqof (hts _ (List.mem_of_getElem? (i := 826) (by decide +kernel))) (hts _ (List.mem_of_getElem? (i := 139) (by decide +kernel))) (hn _ (by decide +kernel)) hA
  · rcases List.mem_cons.mp hq with rfl | hq
    · exact va_Nc.of (hn _ (by decide +kernel))
    · cases hq
  · exact va_Zof (hts _ (List.mem_of_getElem? (i := 1002) (by decide +kernel))) (hts _ (List.mem_of_getElem? (i := 145) (by decide +kernel))) (va_eqt (hn (Cond.eq (.static "java/lang/String" "COMPACT_STRINGS" "Z") (.int 1)) (by decide +kernel))) hA
  · exact va_Zqof (hts _ (List.mem_of_getElem? (i := 1018) (by decide +kernel))) (hts _ (List.mem_of_getElem? (i := 147) (by decide +kernel))) (hn _ (by decide +kernel)) hA
theorem st_flag {l : Launch} (h : l.flags = flags0) : l.stackTraces = false := by
  unfold Launch.stackTraces
  rw [h]
  decide +kernel
