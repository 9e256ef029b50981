/-! THE WORLD AT THE LAW'S START: the words and the state -/
theorem st_texts {s : State} {b : Nat} {A : Nat → Prop} (hts : ∀ w ∈ lw_tbl, w.before #[Value.ref b] s = true) (hgv : (Jvm.Cond.and given_1 narrow_1).before #[Value.ref b] s = true) (hA : ∀ a : Nat, a < s.heap.size → ¬ A a) : ∃ f : Nat → Nat, (∃ adV : Nat → Nat, vk_S 10 ai_tl ai_tb f adV A s s.heap) ∧ ∀ q ∈ ct_strs, vk_R q.1 q.2.1 q.2.2.1 (f q.2.2.2) s := by
  have hn : ∀ w ∈ st_nL, w.before #[Value.ref b] s = true := flat_of_before _ hgv
  obtain ⟨f, adV, hS, he⟩ := vk_Sof (tm := st_tm) (len := ai_tl) (byt := ai_tb) (N := 10) (A := A) st_w8 (fun i hi => hn _ (st_w1 i hi)) (fun i hi => hn _ (st_w2 i hi)) (fun i hi => hn _ (st_w3 i hi)) (fun i hi => hn _ (st_w4 i hi)) (fun i hi j hj => hn _ (st_w5 i hi j hj)) (fun i j hi hj hij => (st_w6 i hi j hj hij).elim (fun h => Or.inl (hn _ h)) (fun h => Or.inr (hn _ h))) hA
  have hm : ∀ i, i < 10 → (st_mm i).eval #[Value.ref b] s none [] s = some (.ref (f i)) := fun i hi => st_eqr (hn _ (st_w7 i hi)) (he i hi)
  refine ⟨f, ⟨adV, hS⟩, fun q hq => ?_⟩
  unfold ct_strs at hq
  rcases List.mem_cons.mp hq with rfl | hq
  · exact vk_R.of (hts _ (List.mem_of_getElem? (i := 988) (by decide +kernel))) (he 0 (by decide))
  rcases List.mem_cons.mp hq with rfl | hq
  · exact vk_R.of (hts _ (List.mem_of_getElem? (i := 1041) (by decide +kernel))) (he 1 (by decide))
  rcases List.mem_cons.mp hq with rfl | hq
  · exact vk_R.of (hts _ (List.mem_of_getElem? (i := 1042) (by decide +kernel))) (he 2 (by decide))
  rcases List.mem_cons.mp hq with rfl | hq
  · exact vk_R.of (hts _ (List.mem_of_getElem? (i := 1043) (by decide +kernel))) (he 3 (by decide))
  rcases List.mem_cons.mp hq with rfl | hq
  · exact vk_R.of (hts _ (List.mem_of_getElem? (i := 1044) (by decide +kernel))) (he 4 (by decide))
  rcases List.mem_cons.mp hq with rfl | hq
  · exact vk_R.of (hts _ (List.mem_of_getElem? (i := 1045) (by decide +kernel))) (he 8 (by decide))
  rcases List.mem_cons.mp hq with rfl | hq
  · exact vk_R.of (hts _ (List.mem_of_getElem? (i := 1046) (by decide +kernel))) (he 9 (by decide))
  rcases List.mem_cons.mp hq with rfl | hq
  · exact vk_R.of (hts _ (List.mem_of_getElem? (i := 1047) (by decide +kernel))) (he 5 (by decide))
  rcases List.mem_cons.mp hq with rfl | hq
  · exact vk_R.of (hts _ (List.mem_of_getElem? (i := 1048) (by decide +kernel))) (he 6 (by decide))
  rcases List.mem_cons.mp hq with rfl | hq
  · exact vk_R.of (hts _ (List.mem_of_getElem? (i := 1049) (by decide +kernel))) (he 7 (by decide))
  rcases List.mem_cons.mp hq with rfl | hq
  · exact vk_R.of (hts _ (List.mem_of_getElem? (i := 1627) (by decide +kernel))) (hm 0 (by decide))
  rcases List.mem_cons.mp hq with rfl | hq
  · exact vk_R.of (hts _ (List.mem_of_getElem? (i := 1628) (by decide +kernel))) (hm 1 (by decide))
  rcases List.mem_cons.mp hq with rfl | hq
  · exact vk_R.of (hts _ (List.mem_of_getElem? (i := 1629) (by decide +kernel))) (hm 2 (by decide))
  rcases List.mem_cons.mp hq with rfl | hq
  · exact vk_R.of (hts _ (List.mem_of_getElem? (i := 1630) (by decide +kernel))) (hm 3 (by decide))
  rcases List.mem_cons.mp hq with rfl | hq
  · exact vk_R.of (hts _ (List.mem_of_getElem? (i := 1631) (by decide +kernel))) (hm 4 (by decide))
  rcases List.mem_cons.mp hq with rfl | hq
  · exact vk_R.of (hts _ (List.mem_of_getElem? (i := 2087) (by decide +kernel))) (hm 5 (by decide))
  rcases List.mem_cons.mp hq with rfl | hq
  · exact vk_R.of (hts _ (List.mem_of_getElem? (i := 2116) (by decide +kernel))) (hm 6 (by decide))
  rcases List.mem_cons.mp hq with rfl | hq
  · exact vk_R.of (hts _ (List.mem_of_getElem? (i := 2117) (by decide +kernel))) (hm 7 (by decide))
  rcases List.mem_cons.mp hq with rfl | hq
  · exact vk_R.of (hts _ (List.mem_of_getElem? (i := 2059) (by decide +kernel))) (hm 8 (by decide))
  rcases List.mem_cons.mp hq with rfl | hq
  · exact vk_R.of (hts _ (List.mem_of_getElem? (i := 2066) (by decide +kernel))) (hm 9 (by decide))
  cases hq
theorem st_St {s : State} {b L : Nat} {xs : Nat → Int32} (hts : ∀ w ∈ lw_tbl, w.before #[Value.ref b] s = true) (hX : va_X b L xs s s.heap) (hbl : b < s.heap.size) (hgv : (Jvm.Cond.and given_1 narrow_1).before #[Value.ref b] s = true) : ∃ (D : va_G) (tyc : Nat → ClassId) (f : Nat → Nat), ai_St D tyc (fun q => s.heap.size ≤ q) (f, [(0, b, L, xs)]) ct_strs ft_N s := by
  have hn : ∀ w ∈ st_nL, w.before #[Value.ref b] s = true := flat_of_before _ hgv
  have hA : ∀ a : Nat, a < s.heap.size → ¬ (fun q => s.heap.size ≤ q) a := fun a ha => Nat.not_le.mpr ha
  obtain ⟨D, tyc, hK, k1, k2, k3⟩ := st_K hts
  obtain ⟨f, ⟨adV, t1⟩, t2⟩ := st_texts (A := fun q => s.heap.size ≤ q) hts hgv hA
  refine ⟨D, tyc, f, hK, fun i hi => (t1.1 i hi).1, t2, ⟨k1, k2⟩, k3, fun z hz => ?_, fun w hw => va_Nw.of (ai_nk_tab (List.mem_filter.mp hw).2) (hts w (List.mem_filter.mp hw).1), ?_, ?_, fun q hq => ?_, ⟨adV, t1⟩, ?_, ?_⟩
  · rcases List.mem_cons.mp hz with rfl | hz
    · exact ⟨hX, hbl, Nat.not_le.mpr hbl⟩
    · cases hz
  · exact vx_Zqof (hts _ (List.mem_of_getElem? (i := 824) (by decide +kernel))) (hts _ (List.mem_of_getElem? (i := 139) (by decide +kernel))) (hn _ (by decide +kernel)) hA
  · exact vx_Zqof (hts _ (List.mem_of_getElem? (i := 826) (by decide +kernel))) (hts _ (List.mem_of_getElem? (i := 139) (by decide +kernel))) (hn _ (by decide +kernel)) hA
  · rcases List.mem_cons.mp hq with rfl | hq
    · exact va_Nc.of (hn _ (by decide +kernel))
    · cases hq
  · exact va_Zof (hts _ (List.mem_of_getElem? (i := 1002) (by decide +kernel))) (hts _ (List.mem_of_getElem? (i := 145) (by decide +kernel))) (va_eqt (hn (Cond.eq (.static "java/lang/String" "COMPACT_STRINGS" "Z") (.int 1)) (by decide +kernel))) hA
  · exact va_Zqof (hts _ (List.mem_of_getElem? (i := 1018) (by decide +kernel))) (hts _ (List.mem_of_getElem? (i := 147) (by decide +kernel))) (hn _ (by decide +kernel)) hA
theorem st_flag {l : Launch} (h : l.flags = flags0) : l.stackTraces = false := by
  unfold Launch.stackTraces
  rw [h]
  decide +kernel
