/-! THE LEAST (the class): what mills of water make at most -/
noncomputable def zu_kg (j : Nat) : List (Nat × pt_X × pt_X) := (List.range j).map (fun i => (1, gz_p (137 + i), gz_k 2))
noncomputable def zu_wy (m : Nat) : List (Nat × pt_X × pt_X) := [(0, gz_k 2, gz_p (137 + m)), (0, gz_p (137 + m), gz_k 2)] ++ zu_kg m
noncomputable def zu_wE (x : ai_V) (g : List (Nat × pt_X × pt_X)) : pt_E := ((22, 0, 0), ([wa_r 17, wa_u], [x]), [], g)
theorem zu_wc : pt_row zxY 32 [22] true (0, 0, 0) [wa_r 17, wa_u] [] [] [] [] [] [zu_wE (wa_i 145) ((0, gz_k 1, gz_p 73) :: zu_wy 0), zu_wE (wa_i (145 + 1)) ((0, gz_k 2, gz_p 73) :: zu_wy 1), zu_wE (wa_i (145 + 2)) ((0, gz_k 3, gz_p 73) :: zu_wy 2), zu_wE (wa_i (145 + 3)) ((0, gz_k 4, gz_p 73) :: (0, gz_p 73, gz_k 4) :: zu_wy 3), zu_wE (wa_k 0) ((0, gz_k 4, gz_p 73) :: (0, gz_p 73, gz_k 4) :: zu_kg 4), zu_wE (wa_k 0) ((0, gz_k 3, gz_p 73) :: (0, gz_p 73, gz_k 3) :: zu_kg 3), zu_wE (wa_k 0) ((0, gz_k 2, gz_p 73) :: (0, gz_p 73, gz_k 2) :: zu_kg 2), zu_wE (wa_k 0) ((0, gz_k 1, gz_p 73) :: (0, gz_p 73, gz_k 1) :: zu_kg 1), zu_wE (wa_k 0) [(0, gz_k 0, gz_p 73), (0, gz_p 73, gz_k 0)]] = true := by decide +kernel
theorem zu_wk : (pt_is 5 32 22 = true ∧ (ct_mt 32).2.2.1 = 2) ∧ lh_plain 32 = true ∧ ct_bud 32 = (0, 0) := by decide +kernel
theorem zu_wM {n : Nat} (hn : 4 ≤ n) : pt_Met (n + 1) 32 zxY [wa_r 17] (fun _ _ => True) (fun r M r2 M2 o => o = some (zw_v r) ∧ (∀ t, t < 727 → r2 t = r t) ∧ M2 = M) 1 := by
  refine pt_intro (L0 := [wa_r 17, wa_u]) zu_wk.2.1 hn zxsys (by
    rw [zu_wk.1.2]
    rfl) (fun P r M h hp => ?_)
  obtain ⟨hseg, henv, -, -, -, -, -, -, -, -, hret, -⟩ := h
  refine henv _ _ _ _ _ (fun hE _ => ?_)
  have h0 : r 0 = 0 := hE.1
  have e : zw_v r = if ((0 : Nat) : Int) < r 73 then (if r (137 + 0) = 2 then r (145 + 0) else if ((1 : Nat) : Int) < r 73 then (if r (137 + 1) = 2 then r (145 + 1) else if ((2 : Nat) : Int) < r 73 then (if r (137 + 2) = 2 then r (145 + 2) else if ((3 : Nat) : Int) < r 73 then (if r (137 + 3) = 2 then r (145 + 3) else 0) else 0) else 0) else 0) else 0 := rfl
  have fin : ∀ x : ai_X, ai_vx r x = zw_v r → P (22, 0, 0) [wa_r 17, wa_u] [.inl x] r M := fun x ex => hret (22, 0, 0) _ x r M rfl zu_wk.1.1 (by decide +kernel) (by decide +kernel) ⟨congrArg some ex, fun _ _ => rfl, rfl⟩
  have nil : ai_vx r (0, .ofNat 0) = 0 := by
    show r 0 + 0 = 0
    rw [h0]
    rfl
  refine hseg _ _ _ _ _ r M _ _ _ _ _ zu_wc ⟨pt_m0, pt_m0, pt_m0⟩ ⟨fun g => ?_, fun g => ?_, fun g => ?_, fun g => ?_, fun g => ?_, fun g => ?_, fun g => ?_, fun g => ?_, fun g => ?_, trivial⟩
  · have a1 : 1 ≤ r 73 := g.1
    have a2 : 2 ≤ r (137 + 0) := g.2.1
    have a3 : r (137 + 0) ≤ 2 := g.2.2.1
    refine fin (145, 0) ?_
    show r (145 + 0) + 0 = zw_v r
    rw [e]
    (repeat' split) <;> omega
  · have a1 : 2 ≤ r 73 := g.1
    have a2 : 2 ≤ r (137 + 1) := g.2.1
    have a3 : r (137 + 1) ≤ 2 := g.2.2.1
    have b0 : r (137 + 0) ≠ 2 := g.2.2.2.1
    refine fin (145 + 1, 0) ?_
    show r (145 + 1) + 0 = zw_v r
    rw [e]
    (repeat' split) <;> omega
  · have a1 : 3 ≤ r 73 := g.1
    have a2 : 2 ≤ r (137 + 2) := g.2.1
    have a3 : r (137 + 2) ≤ 2 := g.2.2.1
    have b0 : r (137 + 0) ≠ 2 := g.2.2.2.1
    have b1 : r (137 + 1) ≠ 2 := g.2.2.2.2.1
    refine fin (145 + 2, 0) ?_
    show r (145 + 2) + 0 = zw_v r
    rw [e]
    (repeat' split) <;> omega
  · have a1 : 4 ≤ r 73 := g.1
    have a2 : 2 ≤ r (137 + 3) := g.2.2.1
    have a3 : r (137 + 3) ≤ 2 := g.2.2.2.1
    have b0 : r (137 + 0) ≠ 2 := g.2.2.2.2.1
    have b1 : r (137 + 1) ≠ 2 := g.2.2.2.2.2.1
    have b2 : r (137 + 2) ≠ 2 := g.2.2.2.2.2.2.1
    refine fin (145 + 3, 0) ?_
    show r (145 + 3) + 0 = zw_v r
    rw [e]
    (repeat' split) <;> omega
  · have b0 : r (137 + 0) ≠ 2 := g.2.2.1
    have b1 : r (137 + 1) ≠ 2 := g.2.2.2.1
    have b2 : r (137 + 2) ≠ 2 := g.2.2.2.2.1
    have b3 : r (137 + 3) ≠ 2 := g.2.2.2.2.2.1
    refine fin (0, .ofNat 0) (nil.trans ?_)
    rw [e]
    (repeat' split) <;> omega
  · have a1 : r 73 ≤ 3 := g.2.1
    have b0 : r (137 + 0) ≠ 2 := g.2.2.1
    have b1 : r (137 + 1) ≠ 2 := g.2.2.2.1
    have b2 : r (137 + 2) ≠ 2 := g.2.2.2.2.1
    refine fin (0, .ofNat 0) (nil.trans ?_)
    rw [e]
    (repeat' split) <;> omega
  · have a1 : r 73 ≤ 2 := g.2.1
    have b0 : r (137 + 0) ≠ 2 := g.2.2.1
    have b1 : r (137 + 1) ≠ 2 := g.2.2.2.1
    refine fin (0, .ofNat 0) (nil.trans ?_)
    rw [e]
    (repeat' split) <;> omega
  · have a1 : r 73 ≤ 1 := g.2.1
    have b0 : r (137 + 0) ≠ 2 := g.2.2.1
    refine fin (0, .ofNat 0) (nil.trans ?_)
    rw [e]
    (repeat' split) <;> omega
  · have a1 : r 73 ≤ 0 := g.2.1
    refine fin (0, .ofNat 0) (nil.trans ?_)
    rw [e]
    (repeat' split) <;> omega
