/-! THE LEAST (the reference): what mills of water make at most -/
noncomputable def zw_g (r : Nat → Int) : Nat → Nat → Int
  | 0, _ => 0
  | d + 1, m => if (m : Int) < r 73 then (if r (137 + m) = 2 then r (145 + m) else zw_g r d (m + 1)) else 0
noncomputable def zw_v (r : Nat → Int) : Int := zw_g r 4 0
noncomputable def zw_L (m : Nat) : List ai_V := [wa_r 264, wa_k m]
noncomputable abbrev zw_r (pc : Nat) (L : List ai_V) (cp : List (Nat × Int × Int)) (Es : List pt_E) : Bool := pt_row zyY 221 [2, 26, 34] true (pc, 0, 0) L [] [] cp [] [] Es
theorem zw_c0 : zw_r 0 [wa_r 264, wa_u] [] [((2, 0, 0), (zw_L 0, []), [], [])] = true := by decide +kernel
theorem zw_c1 : (List.range 4).all (fun m => zw_r 2 (zw_L m) [(73, (.ofNat (m + 1), 4))] [((2, 0, 0), (zw_L (m + 1), []), [], [(1, gz_p (137 + m), gz_k 2)]), ((26, 0, 0), (zw_L m, [wa_i (145 + m)]), [], [(0, gz_k 2, gz_p (137 + m)), (0, gz_p (137 + m), gz_k 2)])]) = true := by decide +kernel
theorem zw_c2 : (List.range 5).all (fun m => zw_r 2 (zw_L m) [(73, (0, .ofNat m))] [((34, 0, 0), (zw_L m, [wa_k 0]), [], [])]) = true := by decide +kernel
theorem zw_k : ((pt_is 5 221 26 = true ∧ pt_is 5 221 34 = true) ∧ (ct_mt 221).2.2.1 = 2) ∧ lh_plain 221 = true ∧ ct_bud 221 = (0, 0) := by decide +kernel
theorem zw_bd : zyE.2.1.any (fun q => decide (q = (73, ((0 : Int), (4 : Int))))) = true := by decide +kernel
theorem zw_M {n : Nat} (hn : 4 ≤ n) : pt_Met (n + 1) 221 zyY [wa_r 264] (fun _ _ => True) (fun r M r2 M2 o => o = some (zw_v r) ∧ (∀ t, t < 727 → r2 t = r t) ∧ M2 = M) 1 := by
  refine pt_intro (L0 := [wa_r 264, wa_u]) zw_k.2.1 hn zysys (by
    rw [zw_k.1.2]
    rfl) (fun P r M h hp => ?_)
  obtain ⟨hseg, henv, -, -, -, -, -, -, -, -, hret, -⟩ := h
  refine henv _ _ _ _ _ (fun hE _ => ?_)
  have h0 : r 0 = 0 := hE.1
  have bI := ze_eb hE zw_bd
  have out : ∀ m : Nat, m ≤ 4 → r 73 ≤ (m : Int) → zw_v r = 0 → P (2, 0, 0) (zw_L m) [] r M := fun m hm c e => by
    refine hseg _ _ _ _ _ r M _ _ _ _ _ (List.all_eq_true.mp zw_c2 m (List.mem_range.mpr (by omega))) ⟨pt_m0, pt_m1 ⟨by show (0 : Int) ≤ r 73; omega, by show r 73 ≤ (m : Int); omega⟩, pt_m0⟩ ⟨fun _ => ?_, trivial⟩
    refine hret (34, 0, 0) _ (0, .ofNat 0) r M rfl zw_k.1.1.2 (by decide +kernel) (by decide +kernel) ⟨congrArg some ?_, fun _ _ => rfl, rfl⟩
    show r 0 + 0 = zw_v r
    rw [h0, e]
    rfl
  have key : ∀ (d m : Nat), m + d = 4 → zw_v r = zw_g r d m → P (2, 0, 0) (zw_L m) [] r M := fun d => by
    induction d with
    | zero => exact fun m hm e => out m (by omega) (by omega) e
    | succ d ih =>
      intro m hm e
      have e : zw_v r = if (m : Int) < r 73 then (if r (137 + m) = 2 then r (145 + m) else zw_g r d (m + 1)) else 0 := e
      by_cases c : (m : Int) < r 73
      · rw [if_pos c] at e
        refine hseg _ _ _ _ _ r M _ _ _ _ _ (List.all_eq_true.mp zw_c1 m (List.mem_range.mpr (by omega))) ⟨pt_m0, pt_m1 ⟨by show ((m + 1 : Nat) : Int) ≤ r 73; omega, by show r 73 ≤ 4; omega⟩, pt_m0⟩ ⟨fun g => ?_, fun g => ?_, trivial⟩
        · have g : r (137 + m) ≠ 2 := g.1
          rw [if_neg g] at e
          exact ih (m + 1) (by omega) e
        · have g1 : 2 ≤ r (137 + m) := g.1
          have g2 : r (137 + m) ≤ 2 := g.2.1
          rw [if_pos (by omega)] at e
          refine hret (26, 0, 0) _ (145 + m, 0) r M rfl zw_k.1.1.1 (by decide +kernel) (by decide +kernel) ⟨congrArg some ?_, fun _ _ => rfl, rfl⟩
          rw [e]
          exact Int.add_zero _
      · rw [if_neg c] at e
        exact out m (by omega) (by omega) e
  refine hseg _ _ _ _ _ r M _ _ _ _ _ zw_c0 ⟨pt_m0, pt_m0, pt_m0⟩ ⟨fun _ => ?_, trivial⟩
  exact key 4 0 rfl rfl
