/-! THE WORLD AT THE LAW'S START -/
theorem st_D {s : State} {args : Array Value} (hts : ∀ w ∈ ft_W, w.before args s = true) : ∃ D : va_G, ∀ (c : Nat) (q : vw_C), vwCl[c]? = some q → u_Kn s q.1 q.2.1 q.2.2 (D.1 c) (D.2 c) := by
  have h : ∀ c : Nat, ∃ (k : ClassId) (i : Nat → Nat), ∀ q : vw_C, vwCl[c]? = some q → u_Kn s q.1 q.2.1 q.2.2 k i := by
    intro c
    by_cases hc : c < 13
    · obtain ⟨C, T, N, ty, e, w1, -, -, w4, -⟩ := sc_all c hc
      obtain ⟨k, i, hk⟩ := u_known hts w1 (hts _ w4)
      exact ⟨k, i, fun q hq => by rw [e] at hq; cases hq; exact hk⟩
    · exact ⟨0, fun _ => 0, fun q hq => absurd (show c < 13 from (List.getElem?_eq_some_iff.mp hq).1) hc⟩
  exact ⟨(fun c => Classical.choose (h c), fun c => Classical.choose (Classical.choose_spec (h c))), fun c q hq => Classical.choose_spec (Classical.choose_spec (h c)) q hq⟩
theorem st_arr {s : State} {args : Array Value} {ty : FieldType} (h : (Cond.arrayClass ty).before args s = true) (hp : ty = .int ∨ ty = .long ∨ ty = .boolean) : ∃ cA, ArrOfT s cA ty ∧ va_RA s cA ty := by
  obtain ⟨cA, kA, comp, h1, h2, h3⟩ := Cond.arrayClass_spec h
  refine ⟨cA, fun n z => ⟨fun k h => (by cases h), kA, h2, comp, h3⟩, ?_⟩
  rcases hp with rfl | rfl | rfl
  · exact h1
  · exact h1
  · exact h1
theorem st_arrA {s : State} (h : va_AOA .int s) : ∃ cA, ArrOfT s cA (.array .int) ∧ va_RA s cA (.array .int) := by
  obtain ⟨comp, cA, kA, h1, h2, h3, h4, h5⟩ := ai_over h
  exact ⟨cA, fun n z => ⟨fun k h => (by cases h), kA, h3, comp, h4⟩, h5⟩
theorem st_arrO {s : State} {C : String} (h : va_AO C s) : ∃ cA, ArrOfT s cA (.object C) ∧ va_RA s cA (.object C) := by
  obtain ⟨comp, cA, kA, h1, h2, h3, h4, h5⟩ := Cond.arrayOver_spec h
  exact ⟨cA, fun n z => ⟨fun k h => (by cases h), kA, h3, comp, h4⟩, kA, comp, h3, h4, h1, h5⟩
theorem st_K {s : State} {args : Array Value} (hts : ∀ w ∈ lw_tbl, w.before args s = true) : ∃ (D : va_G) (tyc : Nat → ClassId), va_K D vwCl (ai_tys tyc) s ∧ va_AO RX4 s ∧ va_AO "java/lang/String" s ∧ va_AOA .int s := by
  have hW : ∀ w ∈ ft_W, w.before args s = true := fun w hw => hts w (List.mem_filter.mp hw).1
  obtain ⟨D, hD⟩ := st_D hW
  have a4 : va_AO RX4 s := (hts (Cond.arrayOver (.object RX4)) (List.mem_of_getElem? (i := 167) (by decide +kernel)))
  have a5 : va_AO "java/lang/String" s := (hts (Cond.arrayOver (.object "java/lang/String")) (List.mem_of_getElem? (i := 1626) (by decide +kernel)))
  have a3 : va_AOA .int s := (hts (Cond.arrayOver (.array .int)) (List.mem_of_getElem? (i := 165) (by decide +kernel)))
  obtain ⟨t0, p0, q0⟩ := st_arr (ty := .int) (hts _ (List.mem_of_getElem? (i := 195) (by decide +kernel))) (Or.inl rfl)
  obtain ⟨t1, p1, q1⟩ := st_arr (ty := .long) (hts _ (List.mem_of_getElem? (i := 1971) (by decide +kernel))) (Or.inr (Or.inl rfl))
  obtain ⟨t2, p2, q2⟩ := st_arr (ty := .boolean) (hts _ (List.mem_of_getElem? (i := 616) (by decide +kernel))) (Or.inr (Or.inr rfl))
  obtain ⟨t3, p3, q3⟩ := st_arrA a3
  obtain ⟨t4, p4, q4⟩ := st_arrO a4
  obtain ⟨t5, p5, q5⟩ := st_arrO a5
  refine ⟨D, (fun k => match k with | 0 => t0 | 1 => t1 | 2 => t2 | 3 => t3 | 4 => t4 | _ => t5), ⟨hD, fun k q hk => ?_⟩, a4, a5, a3⟩
  match k, hk with
  | 0, hk => cases hk; exact ⟨p0, q0⟩
  | 1, hk => cases hk; exact ⟨p1, q1⟩
  | 2, hk => cases hk; exact ⟨p2, q2⟩
  | 3, hk => cases hk; exact ⟨p3, q3⟩
  | 4, hk => cases hk; exact ⟨p4, q4⟩
  | 5, hk => cases hk; exact ⟨p5, q5⟩
  | n + 6, hk => cases hk
theorem st_eqr {args : Array Value} {s : State} {X Y : Term} {a : Nat} (h : (Cond.eq X Y).before args s = true) (hX : X.eval args s none [] s = some (.ref a)) : Y.eval args s none [] s = some (.ref a) := by
  cases hv : Y.eval args s none [] s with
  | none => simp [Cond.before, Cond.holds, Cond.value, hX, hv] at h
  | some w =>
    simp only [Cond.before, Cond.holds, Cond.value, hX, hv] at h
    cases w <;> simp_all
noncomputable def st_tk : List Nat := [118, 124, 126, 128, 130, 136, 138, 140, 132, 134]
noncomputable def st_mk : List Nat := [9, 11, 13, 15, 17, 379, 387, 392, 394, 396]
noncomputable def st_tm (i : Nat) : Term := .string "LightsMarket$Reader" (st_tk.getD i 0)
noncomputable def st_mm (i : Nat) : Term := .string "LightsMarketModel" (st_mk.getD i 0)
noncomputable def st_nL : List Cond := flatC (Jvm.Cond.and given_1 narrow_1)
theorem st_w1 : ∀ i, i < 10 → Cond.exactly (st_tm i) "java/lang/String" ∈ st_nL := by decide +kernel
theorem st_w2 : ∀ i, i < 10 → Cond.eq (.field (st_tm i) "java/lang/String" "coder" "B") (.int 0) ∈ st_nL := by decide +kernel
theorem st_w3 : ∀ i, i < 10 → Cond.arrayOf (.field (st_tm i) "java/lang/String" "value" "[B") .byte ∈ st_nL := by decide +kernel
theorem st_w4 : ∀ i, i < 10 → Cond.eq (.length (.field (st_tm i) "java/lang/String" "value" "[B")) (.int (Int32.ofNat (ai_tl.getD i 0))) ∈ st_nL := by decide +kernel
theorem st_w5 : ∀ i, i < 10 → ∀ j, j < ai_tl.getD i 0 → Cond.eq (.elem (.field (st_tm i) "java/lang/String" "value" "[B") (.int (Int32.ofNat j))) (.int ((ai_tb.getD i []).getD j 0)) ∈ st_nL := by decide +kernel
theorem st_n0_1 : Cond.not (Cond.eq (st_tm 0) (st_tm 1)) ∈ st_nL := List.mem_of_getElem? (i := 58) (by decide +kernel)
theorem st_n0_2 : Cond.not (Cond.eq (st_tm 0) (st_tm 2)) ∈ st_nL := List.mem_of_getElem? (i := 67) (by decide +kernel)
theorem st_n0_3 : Cond.not (Cond.eq (st_tm 0) (st_tm 3)) ∈ st_nL := List.mem_of_getElem? (i := 77) (by decide +kernel)
theorem st_n0_4 : Cond.not (Cond.eq (st_tm 0) (st_tm 4)) ∈ st_nL := List.mem_of_getElem? (i := 88) (by decide +kernel)
theorem st_n0_5 : Cond.not (Cond.eq (st_tm 0) (st_tm 5)) ∈ st_nL := List.mem_of_getElem? (i := 127) (by decide +kernel)
theorem st_n0_6 : Cond.not (Cond.eq (st_tm 0) (st_tm 6)) ∈ st_nL := List.mem_of_getElem? (i := 141) (by decide +kernel)
theorem st_n0_7 : Cond.not (Cond.eq (st_tm 0) (st_tm 7)) ∈ st_nL := List.mem_of_getElem? (i := 155) (by decide +kernel)
theorem st_n0_8 : Cond.not (Cond.eq (st_tm 0) (st_tm 8)) ∈ st_nL := List.mem_of_getElem? (i := 101) (by decide +kernel)
theorem st_n0_9 : Cond.not (Cond.eq (st_tm 0) (st_tm 9)) ∈ st_nL := List.mem_of_getElem? (i := 114) (by decide +kernel)
theorem st_n1_2 : Cond.not (Cond.eq (st_tm 1) (st_tm 2)) ∈ st_nL := List.mem_of_getElem? (i := 68) (by decide +kernel)
theorem st_n1_3 : Cond.not (Cond.eq (st_tm 1) (st_tm 3)) ∈ st_nL := List.mem_of_getElem? (i := 78) (by decide +kernel)
theorem st_n1_4 : Cond.not (Cond.eq (st_tm 1) (st_tm 4)) ∈ st_nL := List.mem_of_getElem? (i := 89) (by decide +kernel)
theorem st_n1_5 : Cond.not (Cond.eq (st_tm 1) (st_tm 5)) ∈ st_nL := List.mem_of_getElem? (i := 128) (by decide +kernel)
theorem st_n1_6 : Cond.not (Cond.eq (st_tm 1) (st_tm 6)) ∈ st_nL := List.mem_of_getElem? (i := 142) (by decide +kernel)
theorem st_n1_7 : Cond.not (Cond.eq (st_tm 1) (st_tm 7)) ∈ st_nL := List.mem_of_getElem? (i := 156) (by decide +kernel)
theorem st_n1_8 : Cond.not (Cond.eq (st_tm 1) (st_tm 8)) ∈ st_nL := List.mem_of_getElem? (i := 102) (by decide +kernel)
theorem st_n1_9 : Cond.not (Cond.eq (st_tm 1) (st_tm 9)) ∈ st_nL := List.mem_of_getElem? (i := 115) (by decide +kernel)
theorem st_n2_3 : Cond.not (Cond.eq (st_tm 2) (st_tm 3)) ∈ st_nL := List.mem_of_getElem? (i := 79) (by decide +kernel)
theorem st_n2_4 : Cond.not (Cond.eq (st_tm 2) (st_tm 4)) ∈ st_nL := List.mem_of_getElem? (i := 90) (by decide +kernel)
theorem st_n2_5 : Cond.not (Cond.eq (st_tm 2) (st_tm 5)) ∈ st_nL := List.mem_of_getElem? (i := 129) (by decide +kernel)
theorem st_n2_6 : Cond.not (Cond.eq (st_tm 2) (st_tm 6)) ∈ st_nL := List.mem_of_getElem? (i := 143) (by decide +kernel)
theorem st_n2_7 : Cond.not (Cond.eq (st_tm 2) (st_tm 7)) ∈ st_nL := List.mem_of_getElem? (i := 157) (by decide +kernel)
theorem st_n2_8 : Cond.not (Cond.eq (st_tm 2) (st_tm 8)) ∈ st_nL := List.mem_of_getElem? (i := 103) (by decide +kernel)
theorem st_n2_9 : Cond.not (Cond.eq (st_tm 2) (st_tm 9)) ∈ st_nL := List.mem_of_getElem? (i := 116) (by decide +kernel)
theorem st_n3_4 : Cond.not (Cond.eq (st_tm 3) (st_tm 4)) ∈ st_nL := List.mem_of_getElem? (i := 91) (by decide +kernel)
theorem st_n3_5 : Cond.not (Cond.eq (st_tm 3) (st_tm 5)) ∈ st_nL := List.mem_of_getElem? (i := 130) (by decide +kernel)
theorem st_n3_6 : Cond.not (Cond.eq (st_tm 3) (st_tm 6)) ∈ st_nL := List.mem_of_getElem? (i := 144) (by decide +kernel)
theorem st_n3_7 : Cond.not (Cond.eq (st_tm 3) (st_tm 7)) ∈ st_nL := List.mem_of_getElem? (i := 158) (by decide +kernel)
theorem st_n3_8 : Cond.not (Cond.eq (st_tm 3) (st_tm 8)) ∈ st_nL := List.mem_of_getElem? (i := 104) (by decide +kernel)
theorem st_n3_9 : Cond.not (Cond.eq (st_tm 3) (st_tm 9)) ∈ st_nL := List.mem_of_getElem? (i := 117) (by decide +kernel)
theorem st_n4_5 : Cond.not (Cond.eq (st_tm 4) (st_tm 5)) ∈ st_nL := List.mem_of_getElem? (i := 131) (by decide +kernel)
theorem st_n4_6 : Cond.not (Cond.eq (st_tm 4) (st_tm 6)) ∈ st_nL := List.mem_of_getElem? (i := 145) (by decide +kernel)
theorem st_n4_7 : Cond.not (Cond.eq (st_tm 4) (st_tm 7)) ∈ st_nL := List.mem_of_getElem? (i := 159) (by decide +kernel)
theorem st_n4_8 : Cond.not (Cond.eq (st_tm 4) (st_tm 8)) ∈ st_nL := List.mem_of_getElem? (i := 105) (by decide +kernel)
theorem st_n4_9 : Cond.not (Cond.eq (st_tm 4) (st_tm 9)) ∈ st_nL := List.mem_of_getElem? (i := 118) (by decide +kernel)
theorem st_n5_6 : Cond.not (Cond.eq (st_tm 5) (st_tm 6)) ∈ st_nL := List.mem_of_getElem? (i := 148) (by decide +kernel)
theorem st_n5_7 : Cond.not (Cond.eq (st_tm 5) (st_tm 7)) ∈ st_nL := List.mem_of_getElem? (i := 162) (by decide +kernel)
theorem st_n6_7 : Cond.not (Cond.eq (st_tm 6) (st_tm 7)) ∈ st_nL := List.mem_of_getElem? (i := 163) (by decide +kernel)
theorem st_n8_5 : Cond.not (Cond.eq (st_tm 8) (st_tm 5)) ∈ st_nL := List.mem_of_getElem? (i := 132) (by decide +kernel)
theorem st_n8_6 : Cond.not (Cond.eq (st_tm 8) (st_tm 6)) ∈ st_nL := List.mem_of_getElem? (i := 146) (by decide +kernel)
theorem st_n8_7 : Cond.not (Cond.eq (st_tm 8) (st_tm 7)) ∈ st_nL := List.mem_of_getElem? (i := 160) (by decide +kernel)
theorem st_n8_9 : Cond.not (Cond.eq (st_tm 8) (st_tm 9)) ∈ st_nL := List.mem_of_getElem? (i := 119) (by decide +kernel)
theorem st_n9_5 : Cond.not (Cond.eq (st_tm 9) (st_tm 5)) ∈ st_nL := List.mem_of_getElem? (i := 133) (by decide +kernel)
theorem st_n9_6 : Cond.not (Cond.eq (st_tm 9) (st_tm 6)) ∈ st_nL := List.mem_of_getElem? (i := 147) (by decide +kernel)
theorem st_n9_7 : Cond.not (Cond.eq (st_tm 9) (st_tm 7)) ∈ st_nL := List.mem_of_getElem? (i := 161) (by decide +kernel)
theorem st_o0 (j : Nat) (hj : j < 10) (hn : 0 ≠ j) : Cond.not (Cond.eq (st_tm 0) (st_tm j)) ∈ st_nL ∨ Cond.not (Cond.eq (st_tm j) (st_tm 0)) ∈ st_nL :=
  match j, hj, hn with
  | 0, _, hn => absurd rfl hn
  | 1, _, _ => Or.inl st_n0_1
  | 2, _, _ => Or.inl st_n0_2
  | 3, _, _ => Or.inl st_n0_3
  | 4, _, _ => Or.inl st_n0_4
  | 5, _, _ => Or.inl st_n0_5
  | 6, _, _ => Or.inl st_n0_6
  | 7, _, _ => Or.inl st_n0_7
  | 8, _, _ => Or.inl st_n0_8
  | 9, _, _ => Or.inl st_n0_9
  | _ + 10, hj, _ => absurd hj (by omega)
theorem st_o1 (j : Nat) (hj : j < 10) (hn : 1 ≠ j) : Cond.not (Cond.eq (st_tm 1) (st_tm j)) ∈ st_nL ∨ Cond.not (Cond.eq (st_tm j) (st_tm 1)) ∈ st_nL :=
  match j, hj, hn with
  | 0, _, _ => Or.inr st_n0_1
  | 1, _, hn => absurd rfl hn
  | 2, _, _ => Or.inl st_n1_2
  | 3, _, _ => Or.inl st_n1_3
  | 4, _, _ => Or.inl st_n1_4
  | 5, _, _ => Or.inl st_n1_5
  | 6, _, _ => Or.inl st_n1_6
  | 7, _, _ => Or.inl st_n1_7
  | 8, _, _ => Or.inl st_n1_8
  | 9, _, _ => Or.inl st_n1_9
  | _ + 10, hj, _ => absurd hj (by omega)
theorem st_o2 (j : Nat) (hj : j < 10) (hn : 2 ≠ j) : Cond.not (Cond.eq (st_tm 2) (st_tm j)) ∈ st_nL ∨ Cond.not (Cond.eq (st_tm j) (st_tm 2)) ∈ st_nL :=
  match j, hj, hn with
  | 0, _, _ => Or.inr st_n0_2
  | 1, _, _ => Or.inr st_n1_2
  | 2, _, hn => absurd rfl hn
  | 3, _, _ => Or.inl st_n2_3
  | 4, _, _ => Or.inl st_n2_4
  | 5, _, _ => Or.inl st_n2_5
  | 6, _, _ => Or.inl st_n2_6
  | 7, _, _ => Or.inl st_n2_7
  | 8, _, _ => Or.inl st_n2_8
  | 9, _, _ => Or.inl st_n2_9
  | _ + 10, hj, _ => absurd hj (by omega)
theorem st_o3 (j : Nat) (hj : j < 10) (hn : 3 ≠ j) : Cond.not (Cond.eq (st_tm 3) (st_tm j)) ∈ st_nL ∨ Cond.not (Cond.eq (st_tm j) (st_tm 3)) ∈ st_nL :=
  match j, hj, hn with
  | 0, _, _ => Or.inr st_n0_3
  | 1, _, _ => Or.inr st_n1_3
  | 2, _, _ => Or.inr st_n2_3
  | 3, _, hn => absurd rfl hn
  | 4, _, _ => Or.inl st_n3_4
  | 5, _, _ => Or.inl st_n3_5
  | 6, _, _ => Or.inl st_n3_6
  | 7, _, _ => Or.inl st_n3_7
  | 8, _, _ => Or.inl st_n3_8
  | 9, _, _ => Or.inl st_n3_9
  | _ + 10, hj, _ => absurd hj (by omega)
theorem st_o4 (j : Nat) (hj : j < 10) (hn : 4 ≠ j) : Cond.not (Cond.eq (st_tm 4) (st_tm j)) ∈ st_nL ∨ Cond.not (Cond.eq (st_tm j) (st_tm 4)) ∈ st_nL :=
  match j, hj, hn with
  | 0, _, _ => Or.inr st_n0_4
  | 1, _, _ => Or.inr st_n1_4
  | 2, _, _ => Or.inr st_n2_4
  | 3, _, _ => Or.inr st_n3_4
  | 4, _, hn => absurd rfl hn
  | 5, _, _ => Or.inl st_n4_5
  | 6, _, _ => Or.inl st_n4_6
  | 7, _, _ => Or.inl st_n4_7
  | 8, _, _ => Or.inl st_n4_8
  | 9, _, _ => Or.inl st_n4_9
  | _ + 10, hj, _ => absurd hj (by omega)
theorem st_o5 (j : Nat) (hj : j < 10) (hn : 5 ≠ j) : Cond.not (Cond.eq (st_tm 5) (st_tm j)) ∈ st_nL ∨ Cond.not (Cond.eq (st_tm j) (st_tm 5)) ∈ st_nL :=
  match j, hj, hn with
  | 0, _, _ => Or.inr st_n0_5
  | 1, _, _ => Or.inr st_n1_5
  | 2, _, _ => Or.inr st_n2_5
  | 3, _, _ => Or.inr st_n3_5
  | 4, _, _ => Or.inr st_n4_5
  | 5, _, hn => absurd rfl hn
  | 6, _, _ => Or.inl st_n5_6
  | 7, _, _ => Or.inl st_n5_7
  | 8, _, _ => Or.inr st_n8_5
  | 9, _, _ => Or.inr st_n9_5
  | _ + 10, hj, _ => absurd hj (by omega)
theorem st_o6 (j : Nat) (hj : j < 10) (hn : 6 ≠ j) : Cond.not (Cond.eq (st_tm 6) (st_tm j)) ∈ st_nL ∨ Cond.not (Cond.eq (st_tm j) (st_tm 6)) ∈ st_nL :=
  match j, hj, hn with
  | 0, _, _ => Or.inr st_n0_6
  | 1, _, _ => Or.inr st_n1_6
  | 2, _, _ => Or.inr st_n2_6
  | 3, _, _ => Or.inr st_n3_6
  | 4, _, _ => Or.inr st_n4_6
  | 5, _, _ => Or.inr st_n5_6
  | 6, _, hn => absurd rfl hn
  | 7, _, _ => Or.inl st_n6_7
  | 8, _, _ => Or.inr st_n8_6
  | 9, _, _ => Or.inr st_n9_6
  | _ + 10, hj, _ => absurd hj (by omega)
theorem st_o7 (j : Nat) (hj : j < 10) (hn : 7 ≠ j) : Cond.not (Cond.eq (st_tm 7) (st_tm j)) ∈ st_nL ∨ Cond.not (Cond.eq (st_tm j) (st_tm 7)) ∈ st_nL :=
  match j, hj, hn with
  | 0, _, _ => Or.inr st_n0_7
  | 1, _, _ => Or.inr st_n1_7
  | 2, _, _ => Or.inr st_n2_7
  | 3, _, _ => Or.inr st_n3_7
  | 4, _, _ => Or.inr st_n4_7
  | 5, _, _ => Or.inr st_n5_7
  | 6, _, _ => Or.inr st_n6_7
  | 7, _, hn => absurd rfl hn
  | 8, _, _ => Or.inr st_n8_7
  | 9, _, _ => Or.inr st_n9_7
  | _ + 10, hj, _ => absurd hj (by omega)
theorem st_o8 (j : Nat) (hj : j < 10) (hn : 8 ≠ j) : Cond.not (Cond.eq (st_tm 8) (st_tm j)) ∈ st_nL ∨ Cond.not (Cond.eq (st_tm j) (st_tm 8)) ∈ st_nL :=
  match j, hj, hn with
  | 0, _, _ => Or.inr st_n0_8
  | 1, _, _ => Or.inr st_n1_8
  | 2, _, _ => Or.inr st_n2_8
  | 3, _, _ => Or.inr st_n3_8
  | 4, _, _ => Or.inr st_n4_8
  | 5, _, _ => Or.inl st_n8_5
  | 6, _, _ => Or.inl st_n8_6
  | 7, _, _ => Or.inl st_n8_7
  | 8, _, hn => absurd rfl hn
  | 9, _, _ => Or.inl st_n8_9
  | _ + 10, hj, _ => absurd hj (by omega)
theorem st_o9 (j : Nat) (hj : j < 10) (hn : 9 ≠ j) : Cond.not (Cond.eq (st_tm 9) (st_tm j)) ∈ st_nL ∨ Cond.not (Cond.eq (st_tm j) (st_tm 9)) ∈ st_nL :=
  match j, hj, hn with
  | 0, _, _ => Or.inr st_n0_9
  | 1, _, _ => Or.inr st_n1_9
  | 2, _, _ => Or.inr st_n2_9
  | 3, _, _ => Or.inr st_n3_9
  | 4, _, _ => Or.inr st_n4_9
  | 5, _, _ => Or.inl st_n9_5
  | 6, _, _ => Or.inl st_n9_6
  | 7, _, _ => Or.inl st_n9_7
  | 8, _, _ => Or.inr st_n8_9
  | 9, _, hn => absurd rfl hn
  | _ + 10, hj, _ => absurd hj (by omega)
theorem st_w6 (i : Nat) (hi : i < 10) (j : Nat) (hj : j < 10) (hn : i ≠ j) : Cond.not (Cond.eq (st_tm i) (st_tm j)) ∈ st_nL ∨ Cond.not (Cond.eq (st_tm j) (st_tm i)) ∈ st_nL :=
  match i, hi, hn with
  | 0, _, hn => st_o0 j hj hn
  | 1, _, hn => st_o1 j hj hn
  | 2, _, hn => st_o2 j hj hn
  | 3, _, hn => st_o3 j hj hn
  | 4, _, hn => st_o4 j hj hn
  | 5, _, hn => st_o5 j hj hn
  | 6, _, hn => st_o6 j hj hn
  | 7, _, hn => st_o7 j hj hn
  | 8, _, hn => st_o8 j hj hn
  | 9, _, hn => st_o9 j hj hn
  | _ + 10, hi, _ => absurd hi (by omega)
theorem st_w7 : ∀ i, i < 10 → Cond.eq (st_tm i) (st_mm i) ∈ st_nL := by decide +kernel
theorem st_w8 : ∀ i, i < 10 → ai_tl.getD i 0 < 2 ^ 31 := by decide +kernel
