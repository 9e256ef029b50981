/-! write: the class's put -/
noncomputable def wa_pL (s : Nat) : List ai_V := [wa_r 68, wa_k s, wa_i 393, wa_i 394]
noncomputable def wa_p (s stop k : Nat) (cp : List (Nat × Int × Int)) (le : List (ai_X × ai_X)) : Bool := pt_row waY 115 [stop] true (0, 0, 0) (wa_pL s) [] [] ((74, (.ofNat (s + 1), 12)) :: cp) le [] [((stop, 0, 0), (wa_pL s, [wa_k k]), [], [])]
noncomputable def wa_q (s : Nat) (cp : List (Nat × Int × Int)) : Bool := pt_row waY 115 [58] true (0, 0, 0) (wa_pL s) [] [] ((74, (.ofNat (s + 1), 12)) :: cp) [((393, 1), (213 + s, 0))] [] [((58, 0, 0), (wa_pL s, [wa_i 394, wa_i 393, wa_r (70 + s)]), [], [])]
noncomputable def wa_ok (s : Nat) : Bool := (wa_p s 19 1 [(213 + s, (-1, -1))] [] && (wa_p s 31 3 [(213 + s, (0, 12)), (393, (-2147483648, -1))] [] && wa_p s 31 3 [(213 + s, (0, 12)), (393, (0, 2147483647))] [((213 + s, 0), (393, 0))])) && ((wa_p s 49 4 [(213 + s, (1, 12)), (393, (0, 11)), (201 + s, (2, 2)), (394, (-2147483648, -32769))] [((393, 1), (213 + s, 0))] && wa_p s 49 4 [(213 + s, (1, 12)), (393, (0, 11)), (201 + s, (2, 2)), (394, (32768, 2147483647))] [((393, 1), (213 + s, 0))]) && ((wa_q s [(213 + s, (1, 12)), (393, (0, 11)), (201 + s, (0, 1))] && wa_q s [(213 + s, (1, 12)), (393, (0, 11)), (201 + s, (2, 2)), (394, (-32768, 32767))]) && (pt_row waY 115 [60] true (59, 0, 0) (wa_pL s) [] [] [] [] [] [((60, 0, 0), (wa_pL s, [wa_k 0]), [], [])] && pt_sck waY 115 58 2 (70 + s) 12 0)))
theorem wa_put_c : (List.range 12).all wa_ok = true := by decide +kernel
noncomputable def wa_pQ (r : Nat → Int) (M : Nat → Nat → Int) (r2 : Nat → Int) (M2 : Nat → Nat → Int) (o : Option Int) : Prop := ∃ s : Nat, s < 12 ∧ r 392 = (s : Int) ∧ o = some (wv_r (r (213 + s)) (r (201 + s)) (r 393) (r 394)) ∧ (M2 = if wv_r (r (213 + s)) (r (201 + s)) (r 393) (r 394) = 0 then pt_sto M (70 + s) (r 393).toNat (r 394) else M) ∧ ∀ t, t < 391 → r2 t = r t
noncomputable def wa_P (r : Nat → Int) : Prop := ∃ s : Nat, s < 12 ∧ r 392 = (s : Int) ∧ r 392 + 1 ≤ r 74
theorem wa_is : pt_is 5 115 19 = true ∧ pt_is 5 115 31 = true ∧ pt_is 5 115 49 = true ∧ pt_is 5 115 60 = true ∧ pt_is 5 137 29 = true ∧ pt_is 5 260 20 = true ∧ pt_is 5 180 29 = true ∧ pt_is 5 180 47 = true ∧ pt_is 5 180 72 = true ∧ pt_is 5 180 86 = true := by decide +kernel
set_option maxHeartbeats 1000000 in
theorem wa_put {n : Nat} (hn : 4 ≤ n) : pt_Met (n + 1) 115 waY [wa_r 68, wa_i 392, wa_i 393, wa_i 394] (fun r _ => wa_P r) wa_pQ 1 := by
  refine pt_intro (L0 := [wa_r 68, wa_i 392, wa_i 393, wa_i 394]) wa_pl.1 hn wasys (by
    rw [wa_ml.1]
    rfl) (fun P r M h hp => ?_)
  obtain ⟨hseg, henv, hrel, -, -, -, hst, -, -, -, hret, -, -, -⟩ := h
  refine henv _ _ _ _ _ (fun hE _ => ?_)
  have h0 : r 0 = 0 := hE.1
  obtain ⟨s, hs, e1, e2⟩ := hp
  obtain ⟨bm, bs, b32⟩ := wa_bd hE
  obtain ⟨bz, bo⟩ := bs s hs
  have i2 := b32 2 (by omega)
  have i3 := b32 3 (by omega)
  have i2 : -2147483648 ≤ r 393 ∧ r 393 ≤ 2147483647 := i2
  have i3 : -2147483648 ≤ r 394 ∧ r 394 ≤ 2147483647 := i3
  have rows := List.all_eq_true.mp wa_put_c s (List.mem_range.mpr hs)
  unfold wa_ok at rows
  simp only [Bool.and_eq_true] at rows
  obtain ⟨⟨c1, c2, c3⟩, ⟨c4, c5⟩, ⟨c6, c7⟩, c8, c9⟩ := rows
  refine hrel (0, 0, 0) _ (wa_pL s) _ [] r M ⟨rfl, ⟨by show 0 < 491; omega, by show r 392 + 0 = r 0 + (s : Int); rw [h0, e1]; omega⟩, ⟨by show 393 < 491; omega, rfl⟩, ⟨by show 394 < 491; omega, rfl⟩, trivial⟩ trivial ?_
  have mn : (((s + 1 : Nat)) : Int) ≤ r 74 ∧ r 74 ≤ 12 := ⟨by omega, bm.2⟩
  have out : ∀ (pc k : Nat), pt_is 5 115 pc = true → k ≠ 0 → wv_r (r (213 + s)) (r (201 + s)) (r 393) (r 394) = (k : Int) → P (pc, 0, 0) (wa_pL s) [wa_k k] r M := fun pc k h1 h2 h3 => hret (pc, 0, 0) _ (0, .ofNat k) _ M rfl h1 (Nat.ble_eq_true_of_le (Nat.zero_le _)) (Nat.ble_eq_true_of_le (Nat.zero_le _)) ⟨s, hs, e1, congrArg some (by show r 0 + (k : Int) = _; rw [h0, h3, Int.zero_add]), by rw [if_neg (by rw [h3]; omega)], fun t _ => rfl⟩
  by_cases a : r (213 + s) = -1
  · exact hseg _ _ _ _ _ _ _ _ _ _ _ _ c1 ⟨pt_m0, pt_m2 mn ⟨by show (-1 : Int) ≤ r (213 + s); omega, by show r (213 + s) ≤ (-1 : Int); omega⟩, pt_m0⟩ ⟨fun _ => out 19 1 wa_is.1 (by omega) (by unfold wv_r; rw [if_pos a]; rfl), trivial⟩
  have a' : 0 ≤ r (213 + s) := by omega
  by_cases b : r 393 ≤ -1
  · exact hseg _ _ _ _ _ _ _ _ _ _ _ _ c2 ⟨pt_m0, pt_m3 mn ⟨a', bz.2⟩ ⟨i2.1, b⟩, pt_m0⟩ ⟨fun _ => out 31 3 wa_is.2.1 (by omega) (by unfold wv_r; rw [if_neg a, if_pos (Or.inl (by omega))]; rfl), trivial⟩
  have b' : 0 ≤ r 393 := by omega
  by_cases c : r (213 + s) ≤ r 393
  · exact hseg _ _ _ _ _ _ _ _ _ _ _ _ c3 ⟨pt_m0, pt_m3 mn ⟨a', bz.2⟩ ⟨b', i2.2⟩, pt_m1 (by show r (213 + s) + 0 ≤ r 393 + 0; omega)⟩ ⟨fun _ => out 31 3 wa_is.2.1 (by omega) (by unfold wv_r; rw [if_neg a, if_pos (Or.inr c)]; rfl), trivial⟩
  have c' : r 393 + 1 ≤ r (213 + s) := by omega
  have lec : ai_vx r (393, 1) ≤ ai_vx r (213 + s, 0) := by
    show r 393 + 1 ≤ r (213 + s) + 0
    omega
  have z1 : (1 : Int) ≤ r (213 + s) ∧ r (213 + s) ≤ 12 := ⟨by omega, bz.2⟩
  have t11 : (0 : Int) ≤ r 393 ∧ r 393 ≤ 11 := ⟨b', by omega⟩
  have good : wv_r (r (213 + s)) (r (201 + s)) (r 393) (r 394) = 0 → P (58, 0, 0) (wa_pL s) [wa_i 394, wa_i 393, wa_r (70 + s)] r M := fun h3 => by
    refine hst (58, 0, 0) _ [] r M (70 + s) 12 (r 393).toNat (393, 0) (394, 0) c9 (by omega) (by show r 393 + 0 = (((r 393).toNat : Nat) : Int); omega) ?_
    refine hseg _ _ _ _ _ _ _ _ _ _ _ _ c8 ⟨pt_m0, pt_m0, pt_m0⟩ ⟨fun _ => ?_, trivial⟩
    refine hret (60, 0, 0) _ (0, .ofNat 0) _ _ rfl wa_is.2.2.2.1 (Nat.ble_eq_true_of_le (Nat.zero_le _)) (Nat.ble_eq_true_of_le (Nat.zero_le _)) ⟨s, hs, e1, congrArg some (by show r 0 + 0 = _; rw [h0, h3]; rfl), ?_, fun t _ => rfl⟩
    rw [if_pos h3]
    show pt_sto M (70 + s) (r 393).toNat (r 394 + 0) = _
    rw [Int.add_zero]
  by_cases d : r (201 + s) = 2
  · have dd : (2 : Int) ≤ r (201 + s) ∧ r (201 + s) ≤ 2 := ⟨by omega, by omega⟩
    by_cases e : r 394 ≤ -32769
    · exact hseg _ _ _ _ _ _ _ _ _ _ _ _ c4 ⟨pt_m0, wm5 mn z1 t11 dd ⟨i3.1, e⟩, pt_m1 lec⟩ ⟨fun _ => out 49 4 wa_is.2.2.1 (by omega) (by unfold wv_r; rw [if_neg a, if_neg (by omega), if_pos ⟨d, Or.inl (by omega)⟩]; rfl), trivial⟩
    by_cases f : 32768 ≤ r 394
    · exact hseg _ _ _ _ _ _ _ _ _ _ _ _ c5 ⟨pt_m0, wm5 mn z1 t11 dd ⟨f, i3.2⟩, pt_m1 lec⟩ ⟨fun _ => out 49 4 wa_is.2.2.1 (by omega) (by unfold wv_r; rw [if_neg a, if_neg (by omega), if_pos ⟨d, Or.inr (by omega)⟩]; rfl), trivial⟩
    exact hseg _ _ _ _ _ _ _ _ _ _ _ _ c7 ⟨pt_m0, wm5 mn z1 t11 dd ⟨by show (-32768 : Int) ≤ r 394; omega, by show r 394 ≤ (32767 : Int); omega⟩, pt_m1 lec⟩ ⟨fun _ => good (by unfold wv_r; rw [if_neg a, if_neg (by omega), if_neg (by omega)]), trivial⟩
  · exact hseg _ _ _ _ _ _ _ _ _ _ _ _ c6 ⟨pt_m0, pt_m4 mn z1 t11 ⟨by show (0 : Int) ≤ r (201 + s); omega, by show r (201 + s) ≤ (1 : Int); omega⟩, pt_m1 lec⟩ ⟨fun _ => good (by unfold wv_r; rw [if_neg a, if_neg (by omega), if_neg (fun q => d q.1)]), trivial⟩
