/-! TEXTS (the reference): offer reads -/
noncomputable def gb_oL : List ai_V := [wa_r 264, wa_i 392, wa_u, wa_u]
noncomputable def gb_oc (pc mj : Nat) : Bool := cy_vk 203 pc mj gbY.2.1 [wa_r 264] [wa_r 264] [] && pt_cck gbY 203 mj (pc, 0, 0) 0 471 gb_oL [] [wa_r 264] [wa_r 264]
theorem gb_o_c : (gb_rw 203 [70] false 69 gb_oL [] [] 70 gb_oL [wa_r 264] [] = true ∧ gb_rw 203 [74] false 73 gb_oL [] [] 74 gb_oL [wa_r 264] [] = true) ∧
    (gb_rw 203 [92, 98] true 77 gb_oL [] [(83, (0, 0)), (78, (1, 4))] 92 gb_oL [wa_r 264] [] = true ∧ gb_rw 203 [92, 98] true 77 gb_oL [] [(83, (0, 0)), (78, (0, 0))] 98 gb_oL [] [] = true ∧ gb_rw 203 [92, 98] true 77 gb_oL [] [(83, (1, 3))] 98 gb_oL [] [] = true ∧ gb_rw 203 [77] false 95 gb_oL [] [] 77 gb_oL [] [] = true) ∧
    (gb_oc 70 188 = true ∧ gb_oc 74 202 = true ∧ gb_oc 92 202 = true) ∧ pt_tck gbY 203 68 286 5 = true := by decide +kernel
section GBQ
variable {n : Nat} {rt : Nat} {Z : (Nat → Int) → (Nat → Nat → Int) → Option Int → Prop} {P : pt_P} {A : Nat → Int} {N : Nat} {r0 : Nat → Int} {M0 : Nat → Nat → Int}
/-- a clause more -/
theorem gb_ocl (h : pt_Cl n 203 gbY rt Z P) (hn : 58 ≤ n) {pc i : Nat} {σ : ps_S} {r : Nat → Int} {M : Nat → Nat → Int} (hck : gb_oc pc 202 = true) (hi : i ≤ 8) (q : σ.2.2.1 = 0) (hR : gb_R A N σ r M) (hz : ga_Zs N σ) (hT : gb_TB i σ.2.1 M) (hfr : gb_frc r0 M0 r M) (hhi : ∀ t, 391 ≤ t → t ≠ 471 → r t = r0 t)
    (k : ∀ r2 M2, gb_R A N (ps_cl A N i σ) r2 M2 → ga_Zs N (ps_cl A N i σ) → ((ps_cl A N i σ).2.2.1 = 0 → i + 1 ≤ 8 ∧ gb_TB (i + 1) (ps_cl A N i σ).2.1 M2) → gb_frc r0 M0 r2 M2 → (∀ t, 391 ≤ t → t ≠ 471 → r2 t = r0 t) → P (pc + 3, 0, 0) gb_oL [] r2 M2) : P (pc, 0, 0) gb_oL [wa_r 264] r M := by
  obtain ⟨n, rfl⟩ : ∃ m, n = m + 1 := ⟨n - 1, by omega⟩
  unfold gb_oc at hck
  rw [Bool.and_eq_true] at hck
  obtain ⟨-, -, -, -, -, -, -, -, hcall, -⟩ := h
  have hA := hR.1.2.1
  refine hcall (pc, 0, 0) _ _ _ _ _ r M 202 0 471 _ _ (gb_b0 202 (by decide)).2 hck.1 hck.2 (gb_cM (A := A) (N := N) (i := i) (σ := σ) (by omega) hi q) (show (gb_R A N σ r M ∧ ga_Zs N σ) ∧ gb_TB i σ.2.1 M from ⟨⟨hR, hz⟩, hT⟩) (fun r2 M2 o hq => ?_)
  obtain ⟨⟨rfl, g1⟩, g2, g3⟩ := hq
  have g1 : gb_frc r M r2 M2 := g1
  obtain ⟨c1, c2⟩ := wa_rm (n := n + 1) (gb_b0 202 (by decide)).1
  rw [c1, c2]
  obtain ⟨r3, hr3⟩ : ∃ r3, r3 = pt_mrg 391 r r2 471 none := ⟨_, rfl⟩
  show P (pc + 3, 0, 0) gb_oL [] (pt_mrg 391 r r2 471 none) M2
  rw [← hr3]
  have l3 : ∀ t, t < 391 → r3 t = r2 t := fun t ht => by
    rw [hr3]
    exact if_pos ht
  refine k r3 M2 (gb_R_c l3 g2) (ga_Zs_ok (ps_ok_cl hA) hz) (fun w => ⟨?_, g3 w⟩) ((hfr.tr g1).cg l3) (fun t a b => ?_)
  · rcases Nat.lt_or_ge i 8 with y | y
    · omega
    · exfalso
      have fl : ∀ k : Int, k ≠ 0 → (ps_fl A N k σ).2.2.1 ≠ 0 := fun k hk => by
        unfold ps_fl
        rw [if_pos q]
        exact hk
      unfold ps_cl at w
      split at w
      · rw [if_neg (by omega)] at w
        exact fl 2 (by omega) w
      · exact fl 1 (by omega) w
  · rw [hr3]
    exact (if_neg (by omega)).trans (hhi t a b)
theorem gb_oloop (h : pt_Cl n 203 gbY rt Z P) (hn : 58 ≤ n)
    (kk : ∀ r2 M2, gb_R A N (ps_read A N) r2 M2 → ga_Zs N (ps_read A N) → ((ps_read A N).2.2.1 = 0 → ∃ i, i ≤ 8 ∧ gb_TB i (ps_read A N).2.1 M2) → gb_frc r0 M0 r2 M2 → (∀ t, 391 ≤ t → t ≠ 471 → r2 t = r0 t) → P (98, 0, 0) gb_oL [] r2 M2) :
    ∀ (f i : Nat) (σ : ps_S) (r : Nat → Int) (M : Nat → Nat → Int), i + f = 9 → 1 ≤ i → (σ.2.2.1 = 0 → i ≤ 8 ∧ gb_TB i σ.2.1 M) → gb_R A N σ r M → ga_Zs N σ → gb_frc r0 M0 r M → (∀ t, 391 ≤ t → t ≠ 471 → r t = r0 t) → ps_rd A N f i σ = ps_read A N → P (77, 0, 0) gb_oL [] r M := by
  have h' := h
  obtain ⟨hseg, -⟩ := h'
  obtain ⟨-, ⟨c1, c2, c3, c4⟩, ⟨-, -, k3⟩, -⟩ := gb_o_c
  intro f
  induction f with
  | zero =>
    intro i σ r M hi h1 hp hR hz hfr hhi e
    have e : σ = ps_read A N := e
    have b := hR.2.1
    have q : σ.2.2.1 ≠ 0 := fun q => by
      have := (hp q).1
      omega
    refine hseg _ _ _ _ _ r M _ _ _ _ _ c3 ⟨pt_m0, pt_m1 ⟨by show (1 : Int) ≤ r 83; omega, by show r 83 ≤ 3; omega⟩, pt_m0⟩ ⟨fun _ => ?_, trivial⟩
    subst e
    exact kk r M hR hz (fun w => absurd w q) hfr hhi
  | succ f ih =>
    intro i σ r M hi h1 hp hR hz hfr hhi e
    unfold ps_rd at e
    have b := hR.2.1
    by_cases q : σ.2.2.1 = 0
    · have k0 : (0 : Int) ≤ r 83 ∧ r 83 ≤ 0 := by omega
      obtain ⟨⟨⟨a1, a2, a3, a4⟩, a5, a6⟩, a7⟩ := hR.2.2 q
      have km := gb_km_v (t := ps_tk A N σ.1)
      have tt := ps_tk4 (A := A) (n := N) (p := σ.1)
      by_cases t0 : ps_tk A N σ.1 = 0
      · rw [if_neg (by omega)] at e
        subst e
        refine hseg _ _ _ _ _ r M _ _ _ _ _ c2 ⟨pt_m0, pt_mc k0 (pt_m1 ⟨by show (0 : Int) ≤ r 78; rw [a2, km.1 t0]; omega, by show r 78 ≤ 0; rw [a2, km.1 t0]; omega⟩), pt_m0⟩ ⟨fun _ => ?_, trivial⟩
        exact kk r M hR hz (fun w => ⟨i, hp w⟩) hfr hhi
      · rw [if_pos ⟨q, Or.inr t0⟩] at e
        have tr : (1 : Int) ≤ r 78 ∧ r 78 ≤ 4 := by
          rw [a2]
          rcases (by omega : ps_tk A N σ.1 = 1 ∨ ps_tk A N σ.1 = 2 ∨ ps_tk A N σ.1 = 3 ∨ ps_tk A N σ.1 = 4) with t | t | t | t
          · rw [km.2.1 t]; omega
          · rw [km.2.2.1 t]; omega
          · rw [km.2.2.2.1 t]; omega
          · rw [km.2.2.2.2 t]; omega
        refine hseg _ _ _ _ _ r M _ _ _ _ _ c1 ⟨pt_m0, pt_mc k0 (pt_m1 tr), pt_m0⟩ ⟨fun _ => ?_, trivial⟩
        show P (92, 0, 0) gb_oL [wa_r 264] r M
        refine gb_ocl h hn k3 (hp q).1 q hR hz (hp q).2 hfr hhi (fun r2 M2 g1 g2 g3 g4 g5 => ?_)
        refine hseg _ _ _ _ _ r2 M2 _ _ _ _ _ c4 ⟨pt_m0, pt_m0, pt_m0⟩ ⟨fun _ => ?_, trivial⟩
        exact ih (i + 1) _ r2 M2 (by omega) (by omega) g3 g1 g2 g4 g5 e
    · rw [if_neg (fun w => q w.1)] at e
      refine hseg _ _ _ _ _ r M _ _ _ _ _ c3 ⟨pt_m0, pt_m1 ⟨by show (1 : Int) ≤ r 83; omega, by show r 83 ≤ 3; omega⟩, pt_m0⟩ ⟨fun _ => ?_, trivial⟩
      subst e
      exact kk r M hR hz (fun w => absurd w q) hfr hhi
/-- from the begin of a reading to its end -/
theorem gb_oread (h : pt_Cl n 203 gbY rt Z P) (hST : ps_ST 203 gbY P) (hn : 58 ≤ n) {r : Nat → Int} {M : Nat → Nat → Int} (hT : gb_T A N r M) (e1 : r 76 = 0 ∧ r 83 = 0 ∧ r 86 = 0)
    (kk : ∀ r2 M2, gb_R A N (ps_read A N) r2 M2 → ga_Zs N (ps_read A N) → ((ps_read A N).2.2.1 = 0 → ∃ i, i ≤ 8 ∧ gb_TB i (ps_read A N).2.1 M2) → gb_frc r M r2 M2 → (∀ t, 391 ≤ t → t ≠ 471 → r2 t = r t) → P (98, 0, 0) gb_oL [] r2 M2) : P (68, 0, 0) gb_oL [gz_n 0, gz_n 4, wa_r 286] r M := by
  have h' := h
  obtain ⟨hseg, henv, -, -, -, -, -, -, hcall, -⟩ := h'
  obtain ⟨⟨c5, c6⟩, -, ⟨k1, k2, -⟩, s1⟩ := gb_o_c
  have hA := hT.2.1
  refine henv _ _ _ _ _ (fun hE _ => ?_)
  have z0 : r 0 = 0 := hE.1
  show P (68, 0, 0) gb_oL (.inl (0, 0) :: .inl (0, 4) :: .inr (.inr (some (some 286))) :: []) r M
  refine hST (68, 0, 0) _ [] r M 286 5 4 (0, 4) (0, 0) s1 (by omega) (by show r 0 + 4 = _; rw [z0]; rfl) (Or.inl ⟨rfl, rfl⟩) ?_
  have ev : ai_vx r (0, 0) = 0 := by
    show r 0 + 0 = 0
    omega
  rw [ev]
  obtain ⟨M1, hM1⟩ : ∃ M1, M1 = pt_sto M 286 4 0 := ⟨_, rfl⟩
  rw [← hM1]
  have F1 : gb_frc r M r M1 := by
    rw [hM1]
    exact gb_frc.st (fun _ _ => rfl) (Or.inl ⟨rfl, rfl⟩)
  have T1 : gb_T A N r M1 := gb_T_c rfl (by
    rw [hM1]
    funext x
    exact if_neg (fun w => by have := w.1; omega)) hT
  refine hseg _ _ _ _ _ r M1 _ _ _ _ _ c5 ⟨pt_m0, pt_m0, pt_m0⟩ ⟨fun _ => ?_, trivial⟩
  show P (70, 0, 0) gb_oL (wa_r 264 :: []) r M1
  have ck := k1
  unfold gb_oc at ck
  rw [Bool.and_eq_true] at ck
  obtain ⟨n, rfl⟩ : ∃ m, n = m + 1 := ⟨n - 1, by omega⟩
  refine hcall (70, 0, 0) _ _ _ _ _ r M1 188 0 471 _ _ (gb_b0 188 (by decide)).2 ck.1 ck.2 (gb_sM (A := A) (N := N) (p := 0) (by omega)) (show gb_T A N r M1 ∧ r 76 = ((0 : Nat) : Int) ∧ 0 ≤ N from ⟨T1, e1.1, Nat.zero_le _⟩) (fun r2 M2 o hq => ?_)
  obtain ⟨⟨rfl, rfl⟩, q1, q5⟩ := hq
  have q5 : ∀ t, t < 391 → gb_sch t = false → r2 t = r t := q5
  obtain ⟨rc1, rc2⟩ := wa_rm (n := n + 1) (gb_b0 188 (by decide)).1
  rw [rc1, rc2]
  obtain ⟨r3, hr3⟩ : ∃ r3, r3 = pt_mrg 391 r r2 471 none := ⟨_, rfl⟩
  show P (73, 0, 0) gb_oL [] (pt_mrg 391 r r2 471 none) M2
  rw [← hr3]
  have l3 : ∀ t, t < 391 → r3 t = r2 t := fun t ht => by
    rw [hr3]
    exact if_pos ht
  have f3 : ∀ t, t < 391 → gb_sch t = false → r3 t = r t := fun t b1 b2 => (l3 t b1).trans (q5 t b1 b2)
  have R3 : gb_R A N (0, [], 0, -1) r3 M2 := ⟨gb_T_c (f3 _ (by omega) (by decide)) rfl T1, ⟨(f3 _ (by omega) (by decide)).trans e1.2.1, fun w => absurd rfl w, by decide, by decide⟩, fun _ => ⟨gb_tok_c (fun t _ h => l3 t (by omega)) q1, (f3 _ (by omega) (by decide)).trans e1.2.2, fun j hj => absurd hj (by show ¬ j < 0; omega)⟩⟩
  have Z3 : ga_Zs N (0, [], 0, -1) := fun _ => ⟨Nat.zero_le _, Nat.le_refl _⟩
  have F3 : gb_frc r M r3 M2 := F1.tr ⟨fun t b1 b2 => f3 t b1 (gb_pch_n b2).1, fun _ _ _ => rfl⟩
  have h3 : ∀ t, 391 ≤ t → t ≠ 471 → r3 t = r t := fun t a b => by
    rw [hr3]
    exact if_neg (by omega)
  have B3 : gb_TB 0 [] M2 := ⟨⟨rfl, rfl⟩, by rw [hM1]; exact if_pos ⟨rfl, rfl⟩, fun k hk => absurd hk (by omega)⟩
  refine hseg _ _ _ _ _ r3 M2 _ _ _ _ _ c6 ⟨pt_m0, pt_m0, pt_m0⟩ ⟨fun _ => ?_, trivial⟩
  refine gb_ocl (r0 := r) (M0 := M) (i := 0) (σ := (0, [], 0, -1)) h hn k2 (by omega) rfl R3 Z3 B3 F3 h3 (fun r4 M4 g1 g2 g3 g4 g5 => ?_)
  exact gb_oloop (r0 := r) (M0 := M) h hn kk 8 1 _ r4 M4 (by omega) (by omega) g3 g1 g2 g4 g5 (by
    unfold ps_read
    conv => rhs; unfold ps_rd
    rw [if_pos ⟨rfl, Or.inl rfl⟩])
end GBQ
