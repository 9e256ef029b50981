/-! write: the reference's -/
noncomputable def wb_L (s : Nat) : List ai_V := [wa_r 264, wa_k s, wa_i 392, wa_i 393]
noncomputable def wb_W : List (Nat × pt_X) := [(70, [(1, 0, 0)])]
noncomputable def wb_p (s stop k : Nat) (cp : List (Nat × Int × Int)) (le : List (ai_X × ai_X)) : Bool := pt_row wbY 180 [stop] true (0, 0, 0) (wb_L s) [] [] ((74, (.ofNat (s + 1), 12)) :: cp) le [] [((stop, 0, 0), (wb_L s, [wa_k k]), wb_W, [])]
noncomputable def wb_q (s : Nat) (cp : List (Nat × Int × Int)) : Bool := pt_row wbY 180 [84] true (0, 0, 0) (wb_L s) [] [] ((74, (.ofNat (s + 1), 12)) :: cp) [((392, 1), (213 + s, 0))] [] [((84, 0, 0), (wb_L s, [wa_i 393, .inl (392, .ofNat (12 * s)), wa_r 283]), wb_W, [])]
noncomputable def wb_ok (s : Nat) : Bool := (wb_p s 29 1 [(213 + s, (-1, -1))] [] && (wb_p s 47 3 [(213 + s, (0, 12)), (392, (-2147483648, -1))] [] && wb_p s 47 3 [(213 + s, (0, 12)), (392, (0, 2147483647))] [((213 + s, 0), (392, 0))])) && ((wb_p s 72 4 [(213 + s, (1, 12)), (392, (0, 11)), (201 + s, (2, 2)), (393, (-2147483648, -32769))] [((392, 1), (213 + s, 0))] && wb_p s 72 4 [(213 + s, (1, 12)), (392, (0, 11)), (201 + s, (2, 2)), (393, (32768, 2147483647))] [((392, 1), (213 + s, 0))]) && ((wb_q s [(213 + s, (1, 12)), (392, (0, 11)), (201 + s, (0, 1))] && wb_q s [(213 + s, (1, 12)), (392, (0, 11)), (201 + s, (2, 2)), (393, (-32768, 32767))]) && pt_row wbY 180 [86] true (85, 0, 0) (wb_L s) [] [] [] [] [] [((86, 0, 0), (wb_L s, [wa_k 0]), [], [])]))
theorem wb_write_c : (List.range 12).all wb_ok = true := by decide +kernel
theorem wb_st : pt_sck wbY 180 84 2 283 144 0 = true := by decide +kernel
noncomputable def wb_P (r : Nat → Int) : Prop := ∃ s : Nat, s < 12 ∧ r 391 = (s : Int) ∧ r 391 + 1 ≤ r 74
noncomputable def wb_wQ (r : Nat → Int) (M : Nat → Nat → Int) (r2 : Nat → Int) (M2 : Nat → Nat → Int) (o : Option Int) : Prop := ∃ s : Nat, s < 12 ∧ r 391 = (s : Int) ∧ o = some (wv_r (r (213 + s)) (r (201 + s)) (r 392) (r 393)) ∧ (M2 = if wv_r (r (213 + s)) (r (201 + s)) (r 392) (r 393) = 0 then pt_sto M 283 (12 * s + (r 392).toNat) (r 393) else M) ∧ r2 70 = 0 ∧ ∀ t, t < 390 → t ≠ 70 → r2 t = r t
set_option maxHeartbeats 1000000 in
theorem wb_write {n : Nat} (hn : 4 ≤ n) : pt_Met (n + 1) 180 wbY [wa_r 264, wa_i 391, wa_i 392, wa_i 393] (fun r _ => wb_P r) wb_wQ 1 := by
  refine pt_intro (L0 := [wa_r 264, wa_i 391, wa_i 392, wa_i 393]) wa_pl.2.2.2 hn wbsys (by
    rw [wa_ml.2.2.2]
    rfl) (fun P r M h hp => ?_)
  obtain ⟨hseg, henv, hrel, -, -, -, hst, -, -, -, hret, -, -, -⟩ := h
  refine henv _ _ _ _ _ (fun hE _ => ?_)
  have h0 : r 0 = 0 := hE.1
  obtain ⟨s, hs, e1, e2⟩ := hp
  obtain ⟨bm, bs, b32⟩ := wb_bd hE
  obtain ⟨bz, bo⟩ := bs s hs
  have i2 := b32 2 (by omega)
  have i3 := b32 3 (by omega)
  have i2 : -2147483648 ≤ r 392 ∧ r 392 ≤ 2147483647 := i2
  have i3 : -2147483648 ≤ r 393 ∧ r 393 ≤ 2147483647 := i3
  have rows := List.all_eq_true.mp wb_write_c s (List.mem_range.mpr hs)
  unfold wb_ok at rows
  simp only [Bool.and_eq_true] at rows
  obtain ⟨⟨c1, c2, c3⟩, ⟨c4, c5⟩, ⟨c6, c7⟩, c8⟩ := rows
  refine hrel (0, 0, 0) _ (wb_L s) _ [] r M ⟨rfl, ⟨by show 0 < 490; omega, by show r 391 + 0 = r 0 + (s : Int); rw [h0, e1]; omega⟩, ⟨by show 392 < 490; omega, rfl⟩, ⟨by show 393 < 490; omega, rfl⟩, trivial⟩ trivial ?_
  have mn : (((s + 1 : Nat)) : Int) ≤ r 74 ∧ r 74 ≤ 12 := ⟨by omega, bm.2⟩
  obtain ⟨r', hr'⟩ : ∃ r', r' = pt_up r wb_W := ⟨_, rfl⟩
  have r'c : r' 70 = 0 := by
    rw [hr']
    rfl
  have r'n : ∀ t, t ≠ 70 → r' t = r t := fun t ht => by
    rw [hr']
    exact if_neg ht
  have r'0 : r' 0 = 0 := (r'n 0 (by omega)).trans h0
  have out : ∀ (pc k : Nat), pt_is 5 180 pc = true → k ≠ 0 → wv_r (r (213 + s)) (r (201 + s)) (r 392) (r 393) = (k : Int) → P (pc, 0, 0) (wb_L s) [wa_k k] (pt_up r wb_W) M := fun pc k h1 h2 h3 => hret (pc, 0, 0) _ (0, .ofNat k) _ M rfl h1 (Nat.ble_eq_true_of_le (Nat.zero_le _)) (Nat.ble_eq_true_of_le (Nat.zero_le _)) ⟨s, hs, e1, congrArg some (by rw [← hr']; show r' 0 + (k : Int) = _; rw [r'0, h3, Int.zero_add]), by rw [if_neg (by rw [h3]; omega)], by rw [← hr']; exact r'c, fun t _ hn => by rw [← hr']; exact r'n t hn⟩
  by_cases a : r (213 + s) = -1
  · exact hseg _ _ _ _ _ _ _ _ _ _ _ _ c1 ⟨pt_m0, pt_m2 mn ⟨by show (-1 : Int) ≤ r (213 + s); omega, by show r (213 + s) ≤ (-1 : Int); omega⟩, pt_m0⟩ ⟨fun _ => out 29 1 wa_is.2.2.2.2.2.2.1 (by omega) (by unfold wv_r; rw [if_pos a]; rfl), trivial⟩
  have a' : 0 ≤ r (213 + s) := by omega
  by_cases b : r 392 ≤ -1
  · exact hseg _ _ _ _ _ _ _ _ _ _ _ _ c2 ⟨pt_m0, pt_m3 mn ⟨a', bz.2⟩ ⟨i2.1, b⟩, pt_m0⟩ ⟨fun _ => out 47 3 wa_is.2.2.2.2.2.2.2.1 (by omega) (by unfold wv_r; rw [if_neg a, if_pos (Or.inl (by omega))]; rfl), trivial⟩
  have b' : 0 ≤ r 392 := by omega
  by_cases c : r (213 + s) ≤ r 392
  · exact hseg _ _ _ _ _ _ _ _ _ _ _ _ c3 ⟨pt_m0, pt_m3 mn ⟨a', bz.2⟩ ⟨b', i2.2⟩, pt_m1 (by show r (213 + s) + 0 ≤ r 392 + 0; omega)⟩ ⟨fun _ => out 47 3 wa_is.2.2.2.2.2.2.2.1 (by omega) (by unfold wv_r; rw [if_neg a, if_pos (Or.inr c)]; rfl), trivial⟩
  have c' : r 392 + 1 ≤ r (213 + s) := by omega
  have lec : ai_vx r (392, 1) ≤ ai_vx r (213 + s, 0) := by
    show r 392 + 1 ≤ r (213 + s) + 0
    omega
  have z1 : (1 : Int) ≤ r (213 + s) ∧ r (213 + s) ≤ 12 := ⟨by omega, bz.2⟩
  have t11 : (0 : Int) ≤ r 392 ∧ r 392 ≤ 11 := ⟨b', by omega⟩
  have good : wv_r (r (213 + s)) (r (201 + s)) (r 392) (r 393) = 0 → P (84, 0, 0) (wb_L s) [wa_i 393, .inl (392, .ofNat (12 * s)), wa_r 283] (pt_up r wb_W) M := fun h3 => by
    rw [← hr']
    refine hst (84, 0, 0) _ [] r' M 283 144 (12 * s + (r 392).toNat) (392, .ofNat (12 * s)) (393, 0) wb_st (by omega) (by show r' 392 + ((12 * s : Nat) : Int) = ((12 * s + (r 392).toNat : Nat) : Int); rw [r'n _ (by omega)]; omega) ?_
    refine hseg _ _ _ _ _ _ _ _ _ _ _ _ c8 ⟨pt_m0, pt_m0, pt_m0⟩ ⟨fun _ => ?_, trivial⟩
    refine hret (86, 0, 0) _ (0, .ofNat 0) _ _ rfl wa_is.2.2.2.2.2.2.2.2.2 (Nat.ble_eq_true_of_le (Nat.zero_le _)) (Nat.ble_eq_true_of_le (Nat.zero_le _)) ⟨s, hs, e1, congrArg some (by show r' 0 + 0 = _; rw [r'0, h3]; rfl), ?_, r'c, fun t _ hn => r'n t hn⟩
    rw [if_pos h3]
    show pt_sto M 283 (12 * s + (r 392).toNat) (r' 393 + 0) = _
    rw [Int.add_zero, r'n _ (by omega)]
  by_cases d : r (201 + s) = 2
  · have dd : (2 : Int) ≤ r (201 + s) ∧ r (201 + s) ≤ 2 := ⟨by omega, by omega⟩
    by_cases e : r 393 ≤ -32769
    · exact hseg _ _ _ _ _ _ _ _ _ _ _ _ c4 ⟨pt_m0, wm5 mn z1 t11 dd ⟨i3.1, e⟩, pt_m1 lec⟩ ⟨fun _ => out 72 4 wa_is.2.2.2.2.2.2.2.2.1 (by omega) (by unfold wv_r; rw [if_neg a, if_neg (by omega), if_pos ⟨d, Or.inl (by omega)⟩]; rfl), trivial⟩
    by_cases f : 32768 ≤ r 393
    · exact hseg _ _ _ _ _ _ _ _ _ _ _ _ c5 ⟨pt_m0, wm5 mn z1 t11 dd ⟨f, i3.2⟩, pt_m1 lec⟩ ⟨fun _ => out 72 4 wa_is.2.2.2.2.2.2.2.2.1 (by omega) (by unfold wv_r; rw [if_neg a, if_neg (by omega), if_pos ⟨d, Or.inr (by omega)⟩]; rfl), trivial⟩
    exact hseg _ _ _ _ _ _ _ _ _ _ _ _ c7 ⟨pt_m0, wm5 mn z1 t11 dd ⟨by show (-32768 : Int) ≤ r 393; omega, by show r 393 ≤ (32767 : Int); omega⟩, pt_m1 lec⟩ ⟨fun _ => good (by unfold wv_r; rw [if_neg a, if_neg (by omega), if_neg (by omega)]), trivial⟩
  · exact hseg _ _ _ _ _ _ _ _ _ _ _ _ c6 ⟨pt_m0, pt_m4 mn z1 t11 ⟨by show (0 : Int) ≤ r (201 + s); omega, by show r (201 + s) ≤ (1 : Int); omega⟩, pt_m1 lec⟩ ⟨fun _ => good (by unfold wv_r; rw [if_neg a, if_neg (by omega), if_neg (fun q => d q.1)]), trivial⟩
