/-! TEXTS (the reference): feed -/
noncomputable def fb_L (u : ai_V) : List ai_V := [wa_r 264, wa_i 392, wa_i 393, wa_i 394, wa_i 395, wa_i 396, u, wa_u]
noncomputable def fb_a : List ai_V := [wa_r 264, wa_i 392, wa_i 393, wa_i 394, wa_i 395, wa_i 396]
noncomputable def fb_x (i : Nat) : pt_X := [(0, 392 + i / 4, 0), (1, 0, fd_s (i % 4)), (2, 9, 0), (1, 0, 255), (2, 5, 0)]
theorem fb_c : (gb_rw 184 [19, 23] true 0 (fb_L wa_u) [] [(75, (0, 180))] 23 (fb_L (wa_k 0)) [] [(70, gz_k 0)] = true ∧ gb_rw 184 [19, 23] true 0 (fb_L wa_u) [] [(75, (181, 200))] 19 (fb_L wa_u) [gz_n (-1)] [(70, gz_k 0)] = true ∧ gb_rw 184 [103, 124] true 23 (fb_L (wa_k 20)) [] [] 124 (fb_L wa_u) [wa_i 75] [] = true) ∧
    (List.range 20).all (fun i => gb_rw 184 [103, 124] true 23 (fb_L (wa_k i)) [] [(75, (0, 199))] 103 (fb_L (wa_k i)) [wa_i 471, wa_i 75, wa_r 285] [(471, fb_x i)] && gb_rw 184 [23] false 104 (fb_L (wa_k i)) [] [(75, (0, 199))] 23 (fb_L (wa_k (i + 1))) [] [(75, gz_d 75 1)]) = true := by decide +kernel
theorem fb_k : (pt_sck gbY 184 103 2 285 200 0 = true ∧ pt_is 5 184 19 = true ∧ pt_is 5 184 124 = true) ∧ (ct_mt 184).2.2.1 = 8 ∧ ct_bud 184 = (0, 0) ∧ lh_plain 184 = true := by decide +kernel
theorem fb_bd : (75, ((0 : Int), (200 : Int))) ∈ gbE.2.1 := by decide +kernel
section FBN
variable {n : Nat} {Z : (Nat → Int) → (Nat → Nat → Int) → Option Int → Prop} {P : pt_P} {b : Nat} {r0 : Nat → Int} {M0 : Nat → Nat → Int} {vs : Nat → Int}
theorem fb_loop (h : pt_Cl n 184 gbY 1 Z P) (hb : b + 20 ≤ 200) (hv : ∀ j, j < 5 → vs j = r0 (392 + j)) (hz : ∀ r2, r2 75 = ((b + 20 : Nat) : Int) → (∀ t, t ≠ 75 → t ≠ 471 → r2 t = r0 t) → Z r2 (fd_K 285 M0 b 20 vs) (some ((b + 20 : Nat) : Int))) :
    ∀ (d i : Nat) (r : Nat → Int), i + d = 20 → r 75 = ((b + i : Nat) : Int) → (∀ t, t ≠ 75 → t ≠ 471 → r t = r0 t) → P (23, 0, 0) (fb_L (wa_k i)) [] r (fd_K 285 M0 b i vs) := by
  obtain ⟨hseg, henv, -, -, -, -, hst, -, -, -, hret, -⟩ := h
  obtain ⟨⟨-, -, c4⟩, ci⟩ := fb_c
  intro d
  induction d with
  | zero =>
    intro i r hi e1 e2
    have ei : i = 20 := by omega
    subst ei
    refine hseg _ _ _ _ _ r _ _ _ _ _ _ c4 ⟨pt_m0, pt_m0, pt_m0⟩ ⟨fun _ => ?_, trivial⟩
    show P (124, 0, 0) (fb_L wa_u) [wa_i 75] r _
    refine hret (124, 0, 0) _ (75, 0) r _ rfl fb_k.1.2.2 (by decide +kernel) (by decide +kernel) ?_
    have ev : ai_vx r (75, 0) = ((b + 20 : Nat) : Int) := by
      show r 75 + 0 = _
      rw [e1, Int.add_zero]
    rw [ev]
    exact hz r e1 e2
  | succ d ih =>
    intro i r hi e1 e2
    have c := List.all_eq_true.mp ci i (List.mem_range.mpr (by omega))
    rw [Bool.and_eq_true] at c
    obtain ⟨c1, c2⟩ := c
    have bd : ∀ r2 : Nat → Int, r2 75 = ((b + i : Nat) : Int) → (0 : Int) ≤ r2 75 ∧ r2 75 ≤ 199 := fun r2 e => by omega
    refine hseg _ _ _ _ _ r _ _ _ _ _ _ c1 ⟨pt_m0, pt_m1 (bd r e1), pt_m0⟩ ⟨fun _ => ?_, trivial⟩
    obtain ⟨r1, hr1⟩ : ∃ r1, r1 = pt_up r [(471, fb_x i)] := ⟨_, rfl⟩
    show P (103, 0, 0) (fb_L (wa_k i)) (.inl (471, 0) :: .inl (75, 0) :: .inr (.inr (some (some 285))) :: []) (pt_up r [(471, fb_x i)]) _
    rw [← hr1]
    have n1 : ∀ t, t ≠ 471 → r1 t = r t := fun t x => by
      rw [hr1]
      exact if_neg x
    have s1 : r1 471 = fd_b (vs (i / 4)) (i % 4) := by
      rw [hr1]
      show ai_op 5 (ai_op 9 (r (392 + i / 4)) (fd_s (i % 4))) 255 = _
      rw [e2 (392 + i / 4) (by omega) (by omega), ← hv _ (by omega)]
      rfl
    have b1 : r1 75 = ((b + i : Nat) : Int) := (n1 _ (by omega)).trans e1
    refine hst (103, 0, 0) _ [] r1 _ 285 200 (b + i) (75, 0) (471, 0) fb_k.1.1 (by omega) (by show r1 75 + 0 = _; omega) ?_
    have ev : ai_vx r1 (471, 0) = fd_b (vs (i / 4)) (i % 4) := by
      show r1 471 + 0 = _
      rw [s1, Int.add_zero]
    rw [ev, fd_Ks]
    refine hseg _ _ _ _ _ r1 _ _ _ _ _ _ c2 ⟨pt_m0, pt_m1 (bd r1 b1), pt_m0⟩ ⟨fun _ => ?_, trivial⟩
    obtain ⟨r2, hr2⟩ : ∃ r2, r2 = pt_up r1 [(75, gz_d 75 1)] := ⟨_, rfl⟩
    show P (23, 0, 0) (fb_L (wa_k (i + 1))) [] (pt_up r1 [(75, gz_d 75 1)]) _
    rw [← hr2]
    have n2 : ∀ t, t ≠ 75 → r2 t = r1 t := fun t x => by
      rw [hr2]
      exact if_neg x
    exact ih (i + 1) r2 (by omega) (by rw [hr2]; show r1 75 + 1 = _; omega) (fun t h1 h2 => by rw [n2 t h1, n1 t h2, e2 t h1 h2])
end FBN
noncomputable def fb_Q (r : Nat → Int) (M : Nat → Nat → Int) (r2 : Nat → Int) (M2 : Nat → Nat → Int) (o : Option Int) : Prop :=
  (r 75 ≤ 180 → o = some (r 75 + 20) ∧ r2 75 = r 75 + 20 ∧ M2 = fd_K 285 M (r 75).toNat 20 (fun j => r (392 + j))) ∧ (181 ≤ r 75 → o = some (-1) ∧ r2 75 = r 75 ∧ M2 = M) ∧ r2 70 = 0 ∧ ∀ t, t < 391 → t ≠ 75 → t ≠ 70 → r2 t = r t
theorem fb_M {n : Nat} (hn : 4 ≤ n) : pt_Met (n + 1) 184 gbY fb_a (fun _ _ => True) fb_Q 1 := by
  refine pt_intro (L0 := fb_L wa_u) fb_k.2.2.2 hn gbsys (by
    rw [fb_k.2.1]
    rfl) (fun P r M h _ => ?_)
  have h' := h
  obtain ⟨hseg, henv, -, -, -, -, -, -, -, -, hret, -⟩ := h'
  obtain ⟨⟨c1, c2, -⟩, -⟩ := fb_c
  refine henv _ _ _ _ _ (fun hE _ => ?_)
  have bd : (0 : Int) ≤ r 75 ∧ r 75 ≤ 200 := (hE.2.2.2.1 _ fb_bd).2
  have z0 : r 0 = 0 := hE.1
  obtain ⟨r1, hr1⟩ : ∃ r1, r1 = pt_up r [(70, gz_k 0)] := ⟨_, rfl⟩
  have n1 : ∀ t, t ≠ 70 → r1 t = r t := fun t x => by
    rw [hr1]
    exact if_neg x
  have cd1 : r1 70 = 0 := by
    rw [hr1]
    rfl
  by_cases c : r 75 ≤ 180
  · obtain ⟨b, eb⟩ : ∃ b : Nat, r 75 = (b : Int) := ⟨(r 75).toNat, by omega⟩
    have tb : (r 75).toNat = b := by omega
    refine hseg _ _ _ _ _ r M _ _ _ _ _ c1 ⟨pt_m0, pt_m1 ⟨bd.1, c⟩, pt_m0⟩ ⟨fun _ => ?_, trivial⟩
    show P (23, 0, 0) (fb_L (wa_k 0)) [] (pt_up r [(70, gz_k 0)]) M
    rw [← hr1]
    have g := fb_loop (r0 := r1) (M0 := M) (b := b) (vs := fun j => r (392 + j)) h (by omega) (fun j hj => (n1 _ (by omega)).symm) (fun r2 g1 g2 => ?_) 20 0 r1 (by omega) ((n1 _ (by omega)).trans eb) (fun _ _ _ => rfl)
    · rw [fd_K0] at g
      exact g
    · refine ⟨fun _ => ⟨congrArg some ?_, ?_, by rw [tb]⟩, fun q => by omega, (g2 _ (by omega) (by omega)).trans cd1, fun t h1 h2 h3 => (g2 t h2 (by omega)).trans (n1 t h3)⟩
      · show ((b + 20 : Nat) : Int) = r 75 + 20
        omega
      · rw [g1]
        omega
  · refine hseg _ _ _ _ _ r M _ _ _ _ _ c2 ⟨pt_m0, pt_m1 ⟨by show (181 : Int) ≤ r 75; omega, bd.2⟩, pt_m0⟩ ⟨fun _ => ?_, trivial⟩
    show P (19, 0, 0) (fb_L wa_u) [gz_n (-1)] (pt_up r [(70, gz_k 0)]) M
    rw [← hr1]
    refine hret (19, 0, 0) _ (0, -1) r1 M rfl fb_k.1.2.1 (by decide +kernel) (by decide +kernel) ⟨fun g => absurd g c, fun _ => ⟨congrArg some ?_, n1 _ (by omega), rfl⟩, cd1, fun t h1 h2 h3 => n1 t h3⟩
    show r1 0 + -1 = -1
    rw [n1 0 (by omega), z0]
    rfl
