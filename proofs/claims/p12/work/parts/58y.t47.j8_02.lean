/-! TEXTS (the class): the law's helper of offer -/
noncomputable def oh_L : List ai_V := [wa_r 16, wa_i 392, wa_i 393, wa_r 335, wa_u]
noncomputable def oh_S : List ai_V := [wa_i 393, wa_i 392, wa_r 16, .inl (0, 0), wa_r 335]
noncomputable def oh_T : List ai_V := [.inl (0, 0), wa_r 335]
noncomputable def oh_a : List ai_V := [wa_r 16, wa_i 392, wa_i 393]
theorem oh_c : pt_row gcY 263 [5] true (0, 0, 0) oh_L [] [] [] [] [] [((5, 0, 0), (oh_L, oh_S), [], [])] = true ∧ pt_row gcY 263 [22] false (8, 1, 6) oh_L (wa_i 471 :: oh_T) [] [] [] [] [((22, 1, 6), (oh_L, [.inl (0, 0)]), [(390, gz_p 471)], [])] = true := by decide +kernel
theorem oh_k : (cy_vk 263 5 141 gcY.2.1 oh_S oh_a oh_T && pt_cck gcY 263 141 (5, 0, 0) 1 471 oh_L oh_T oh_a oh_a) = true := by decide +kernel
theorem oh_self {r : Nat → Int} (h0 : r 0 = 0) : pt_up r (pt_wc oh_a oh_a) = r := wa_up_self h0 (fun q hq => by
  have hq : q ∈ [(392, pt_xr (392, 0)), (393, pt_xr (393, 0))] := hq
  simp only [List.mem_cons, List.not_mem_nil, or_false] at hq
  rcases hq with rfl | rfl <;> rfl)
noncomputable def oh_Q (v : Nat) (A : Nat → Int) (N : Nat) (r : Nat → Int) (M : Nat → Nat → Int) (r2 : Nat → Int) (M2 : Nat → Nat → Int) (o : Option Int) : Prop := o = some 0 ∧ (r2 390 = (ps_read A N).2.2.1 ∧ of_F v A N r M r2 M2) ∧ ∀ t, t < 391 → of_p t = false → t ≠ 11 + 8 * v → t ≠ 390 → r2 t = r t
theorem oh_M {n v N : Nat} {A : Nat → Int} (hn : 61 ≤ n) (hv : v < 4) : pt_Met (n + 1 + 1 + 1) 263 gcY (oh_a ++ [wa_r 335]) (of_P v A N) (oh_Q v A N) 1 := by
  refine pt_intro (L0 := oh_L) of_l.2.2.2.2 (by omega) gcsys (by
    rw [of_l.2.1.2]
    rfl) (fun P r M h hp => ?_)
  obtain ⟨hseg, henv, -, -, -, -, -, -, hcall, -, hret, -, -, -⟩ := h
  refine henv _ _ _ _ _ (fun hE _ => ?_)
  have h0 : r 0 = 0 := hE.1
  obtain ⟨c1, c2⟩ := oh_c
  refine hseg _ _ _ _ _ r M _ _ _ _ _ c1 ⟨pt_m0, pt_m0, pt_m0⟩ ⟨fun _ => ?_, trivial⟩
  show P (5, 0, 0) oh_L oh_S r M
  have ck := oh_k
  rw [Bool.and_eq_true] at ck
  refine hcall (5, 0, 0) _ _ _ _ _ r M 141 1 471 _ _ of_l.2.2.2.1 ck.1 ck.2 (of_M (v := v) (A := A) (N := N) hn) (by
    rw [oh_self h0]
    exact hp) (fun r1 M1 o hQ => ?_)
  rw [oh_self h0] at hQ
  obtain ⟨rc, rs⟩ := wa_rm (n := n + 1 + 1) of_l.2.2.1.1
  rw [rc, rs]
  obtain ⟨rfl, F1, f2⟩ := hQ
  obtain ⟨r4, hr4⟩ : ∃ r4, r4 = pt_mrg 391 r r1 471 (some (ps_read A N).2.2.1) := ⟨_, rfl⟩
  show P (8, 1, 6) oh_L (wa_i 471 :: oh_T) (pt_mrg 391 r r1 471 (some (ps_read A N).2.2.1)) M1
  rw [← hr4]
  have lo4 : ∀ t, t < 391 → r4 t = r1 t := fun t ht => by
    rw [hr4]
    exact wa_mlt ht
  have z4 : r4 471 = (ps_read A N).2.2.1 := by
    rw [hr4]
    exact wa_mz (by omega)
  refine henv _ _ _ _ _ (fun hE1 _ => ?_)
  refine hseg _ _ _ _ _ r4 M1 _ _ _ _ _ c2 ⟨pt_m0, pt_m0, pt_m0⟩ ⟨fun _ => ?_, trivial⟩
  obtain ⟨r5, hr5⟩ : ∃ r5, r5 = pt_up r4 [(390, gz_p 471)] := ⟨_, rfl⟩
  show P (22, 1, 6) oh_L [.inl (0, 0)] (pt_up r4 [(390, gz_p 471)]) M1
  rw [← hr5]
  have n5 : ∀ t, t ≠ 390 → r5 t = r4 t := fun t x => by
    rw [hr5]
    exact if_neg x
  have a5 : r5 390 = (ps_read A N).2.2.1 := by
    rw [hr5]
    exact z4
  have f5 : ∀ t, t < 391 → t ≠ 390 → r5 t = r1 t := fun t a b => (n5 t b).trans (lo4 t a)
  obtain ⟨⟨x1, x2, x3⟩, x4, x5, x6⟩ := F1
  refine hret (22, 1, 6) _ (0, 0) r5 M1 rfl of_l.1.2 (by decide +kernel) (by decide +kernel) ⟨congrArg some ?_, ⟨a5, ⟨(f5 _ (by omega) (by omega)).trans x1, (f5 _ (by omega) (by omega)).trans x2, x3⟩, fun w => ⟨(f5 _ (by omega) (by omega)).trans (x4 w).1, (x4 w).2⟩, fun w => ⟨(f5 _ (by omega) (by omega)).trans (x5 w).1, (x5 w).2⟩, x6⟩, fun t a b c d => (f5 t a d).trans (f2 t a b c)⟩
  show r5 0 + 0 = 0
  rw [n5 0 (by omega), hE1.1]
  rfl
