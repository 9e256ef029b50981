/-! TEXTS (the reference): what a state says of a reading; emit, need, readNumber, valueNow -/
noncomputable def gb_enc (c : Int) : List Int := if 0 ≤ c then [0, c] else if -5 ≤ c then [19 - c] else if -11 ≤ c then [-5 - c] else if c = -12 then [9] else if c = -13 then [7] else if c = -14 then [8] else []
noncomputable def gb_cs (l : List Int) : List Int := l.flatMap gb_enc
theorem gb_cs_a {l : List Int} {c : Int} : gb_cs (l ++ [c]) = gb_cs l ++ gb_enc c := by
  unfold gb_cs
  rw [List.flatMap_append, List.flatMap_cons, List.flatMap_nil, List.append_nil]
theorem gb_enc_l {c : Int} : (gb_enc c).length ≤ 2 := by
  unfold gb_enc
  repeat' split
  all_goals exact Nat.le_of_ble_eq_true rfl
theorem gb_cs_l : ∀ {l : List Int}, (gb_cs l).length ≤ 2 * l.length
  | [] => Nat.le_refl _
  | c :: l => by
    have h := gb_cs_l (l := l)
    have e : gb_cs (c :: l) = gb_enc c ++ gb_cs l := List.flatMap_cons ..
    have := gb_enc_l (c := c)
    rw [e, List.length_append, List.length_cons]
    omega
noncomputable def gb_C (l : List Int) (r : Nat → Int) (M : Nat → Nat → Int) : Prop := r 86 = (l.length : Int) ∧ ∀ j, j < l.length → M 290 (1600 + j) = l.getD j 0
noncomputable def gb_R (A : Nat → Int) (N : Nat) (σ : ps_S) (r : Nat → Int) (M : Nat → Nat → Int) : Prop := gb_T A N r M ∧ (r 83 = σ.2.2.1 ∧ (σ.2.2.1 ≠ 0 → r 84 = σ.2.2.2) ∧ 0 ≤ σ.2.2.1 ∧ σ.2.2.1 ≤ 3) ∧ (σ.2.2.1 = 0 → gb_tok A N σ.1 r ∧ gb_C (gb_cs σ.2.1) r M)
noncomputable def gb_pch (t : Nat) : Bool := [76, 78, 79, 80, 81, 82, 83, 84, 86].elem t
theorem gb_pch_n {t : Nat} (h : gb_pch t = false) : gb_sch t = false ∧ t ≠ 83 ∧ t ≠ 84 ∧ t ≠ 86 := by
  have key : ∀ u ∈ [76, 78, 79, 80, 81, 82, 83, 84, 86], t ≠ u := fun u hu e => by
    subst e
    have := List.elem_eq_true_of_mem hu
    unfold gb_pch at h
    rw [this] at h
    cases h
  refine ⟨?_, key _ (by simp), key _ (by simp), key _ (by simp)⟩
  rw [Bool.eq_false_iff]
  intro w
  have w : t ∈ [76, 78, 79, 80, 81, 82] := List.elem_iff.mp w
  exact key t (by
    simp only [List.mem_cons, List.not_mem_nil, or_false] at w ⊢
    omega) rfl
noncomputable def gb_fr (r : Nat → Int) (M : Nat → Nat → Int) (r2 : Nat → Int) (M2 : Nat → Nat → Int) : Prop := (∀ t, t < 391 → gb_pch t = false → r2 t = r t) ∧ (∀ z, z ≠ 290 → M2 z = M z) ∧ ∀ j, j < 1600 → M2 290 j = M 290 j
theorem gb_fr.rf {r : Nat → Int} {M : Nat → Nat → Int} : gb_fr r M r M := ⟨fun _ _ _ => rfl, fun _ _ => rfl, fun _ _ => rfl⟩
theorem gb_fr.tr {r r2 r3 : Nat → Int} {M M2 M3 : Nat → Nat → Int} (h : gb_fr r M r2 M2) (g : gb_fr r2 M2 r3 M3) : gb_fr r M r3 M3 := ⟨fun t h1 h2 => (g.1 t h1 h2).trans (h.1 t h1 h2), fun z hz => (g.2.1 z hz).trans (h.2.1 z hz), fun j hj => (g.2.2 j hj).trans (h.2.2 j hj)⟩
theorem gb_fr.cg {r0 r r2 : Nat → Int} {M0 M : Nat → Nat → Int} (h : gb_fr r0 M0 r M) (e : ∀ t, t < 391 → r2 t = r t) : gb_fr r0 M0 r2 M := ⟨fun t h1 h2 => (e t h1).trans (h.1 t h1 h2), h.2⟩
theorem gb_fr.cl {r0 r1 r2 : Nat → Int} {M0 M : Nat → Nat → Int} (e : ∀ t, t < 391 → r1 t = r0 t) (h : gb_fr r1 M0 r2 M) : gb_fr r0 M0 r2 M := ⟨fun t h1 h2 => (h.1 t h1 h2).trans (e t h1), h.2⟩
theorem gb_R_c {A : Nat → Int} {N : Nat} {σ : ps_S} {r r2 : Nat → Int} {M : Nat → Nat → Int} (e : ∀ t, t < 391 → r2 t = r t) (h : gb_R A N σ r M) : gb_R A N σ r2 M := by
  obtain ⟨h1, ⟨h2, h3, h4⟩, h5⟩ := h
  refine ⟨gb_T_c (e _ (by omega)) rfl h1, ⟨(e _ (by omega)).trans h2, fun w => (e _ (by omega)).trans (h3 w), h4⟩, fun k => ?_⟩
  obtain ⟨a1, a2, a3⟩ := h5 k
  exact ⟨gb_tok_c (fun t _ h => e t (by omega)) a1, (e _ (by omega)).trans a2, a3⟩
noncomputable def gb_K (n mj : Nat) (A : Nat → Int) (N : Nat) (σ τ : ps_S) (a : Int) : Prop := pt_Met n mj gbY [wa_r 264, wa_i 392] (fun r M => (gb_R A N σ r M ∧ ga_Zs N σ) ∧ r 392 = a) (fun r M r2 M2 o => o = none ∧ gb_R A N τ r2 M2 ∧ gb_fr r M r2 M2) 0
theorem gb_bdV : (80, ((-2147483648 : Int), (2147483647 : Int))) ∈ gbE.2.1 ∧ (79, ((-2147483648 : Int), (2147483647 : Int))) ∈ gbE.2.1 := by decide +kernel
section GBK
variable {n mi : Nat} {rt : Nat} {Z : (Nat → Int) → (Nat → Nat → Int) → Option Int → Prop} {P : pt_P} {A : Nat → Int} {N : Nat} {σ τ : ps_S} {r : Nat → Int} {M : Nat → Nat → Int} {pc : Nat} {L S' : List ai_V} {a : Int} {y : ai_X}
theorem gb_call {Pre : (Nat → Int) → (Nat → Nat → Int) → Prop} {Post : (Nat → Int) → (Nat → Nat → Int) → (Nat → Int) → (Nat → Nat → Int) → Option Int → Prop} (h : pt_Cl n mi gbY rt Z P) {mj : Nat} (hb : ct_bud mj = (0, 0) ∧ lh_plain mj = true) (hck : (cy_vk mi pc mj gbY.2.1 (.inl y :: wa_r 264 :: S') [wa_r 264, .inl y] S' && pt_cck gbY mi mj (pc, 0, 0) 0 471 L S' [wa_r 264, .inl y] [wa_r 264, wa_i 392]) = true) (met : pt_Met n mj gbY [wa_r 264, wa_i 392] Pre Post 0) (hpre : ∀ rc, (∀ t, t < 391 → rc t = r t) → rc 392 = ai_vx r y → Pre rc M)
    (k : ∀ rc r2 M2 r3, (∀ t, t < 391 → rc t = r t) → rc 392 = ai_vx r y → (∃ o, Post rc M r2 M2 o) → (∀ t, t < 391 → r3 t = r2 t) → (∀ t, 391 ≤ t → t ≠ 471 → r3 t = r t) → P (pc + 3, 0, 0) L S' r3 M2) : P (pc, 0, 0) L (.inl y :: wa_r 264 :: S') r M := by
  rw [Bool.and_eq_true] at hck
  obtain ⟨-, henv, -, -, -, -, -, -, hcall, -⟩ := h
  refine henv _ _ _ _ _ (fun hE _ => ?_)
  obtain ⟨rc, hrc⟩ : ∃ rc, rc = pt_up r (pt_wc [wa_r 264, .inl y] [wa_r 264, wa_i 392]) := ⟨_, rfl⟩
  have rcv : ∀ t, rc t = if t = 392 then ai_vx r y else r t := fun t => by
    rw [hrc, ← pt_xr_ok hE.1 y]
    rfl
  have rcl : ∀ t, t < 391 → rc t = r t := fun t ht => by rw [rcv, if_neg (by omega)]
  have rca : rc 392 = ai_vx r y := by rw [rcv, if_pos rfl]
  refine hcall (pc, 0, 0) _ _ _ _ _ r M mj 0 471 _ _ hb.2 hck.1 hck.2 met (by rw [← hrc]; exact hpre rc rcl rca) (fun r2 M2 o hq => ?_)
  rw [← hrc] at hq
  obtain ⟨c1, c2⟩ := wa_rm (n := n) hb.1
  rw [c1, c2]
  refine k rc r2 M2 _ rcl rca ⟨o, hq⟩ (fun t ht => if_pos ht) (fun t h1 h2 => ?_)
  show (if t < 391 then r2 t else _) = r t
  rw [if_neg (by omega)]
  cases o with
  | none => rfl
  | some x =>
    show (if t = 471 then x else r t) = r t
    rw [if_neg h2]
theorem gb_use (h : pt_Cl n mi gbY rt Z P) {mj : Nat} (hb : ct_bud mj = (0, 0) ∧ lh_plain mj = true) (hck : (cy_vk mi pc mj gbY.2.1 (.inl y :: wa_r 264 :: S') [wa_r 264, .inl y] S' && pt_cck gbY mi mj (pc, 0, 0) 0 471 L S' [wa_r 264, .inl y] [wa_r 264, wa_i 392]) = true) (met : gb_K n mj A N σ τ a) (hR : gb_R A N σ r M) (hz : ga_Zs N σ) (ha : ai_vx r y = a)
    (k : ∀ r2 M2, gb_R A N τ r2 M2 → gb_fr r M r2 M2 → (∀ t, 391 ≤ t → t ≠ 471 → r2 t = r t) → P (pc + 3, 0, 0) L S' r2 M2) : P (pc, 0, 0) L (.inl y :: wa_r 264 :: S') r M :=
  gb_call h hb hck met (fun rc e1 e2 => ⟨⟨gb_R_c e1 hR, hz⟩, e2.trans ha⟩) (fun rc r2 M2 r3 e1 e2 ho e3 e4 => by
    obtain ⟨o, rfl, g1, g2⟩ := ho
    exact k r3 M2 (gb_R_c e3 g1) ((gb_fr.cl e1 g2).cg e3) e4)
/-- step: the next token -/
theorem gb_useA (h : pt_Cl n mi gbY rt Z P) (hn : 6 ≤ n) (hck : (cy_vk mi pc 188 gbY.2.1 (wa_r 264 :: S') [wa_r 264] S' && pt_cck gbY mi 188 (pc, 0, 0) 0 471 L S' [wa_r 264] [wa_r 264]) = true) (hR : gb_R A N σ r M) (hz : σ.1 ≤ N) (hk : σ.2.2.1 = 0)
    (go : ∀ r2, gb_R A N (ps_av A N σ) r2 M → gb_fr r M r2 M → (∀ t, 391 ≤ t → r2 t = r t) → P (pc + 3, 0, 0) L S' r2 M) : P (pc, 0, 0) L (wa_r 264 :: S') r M := by
  obtain ⟨n, rfl⟩ : ∃ m, n = m + 1 := ⟨n - 1, by omega⟩
  rw [Bool.and_eq_true] at hck
  obtain ⟨-, henv, -, -, -, -, -, -, hcall, -⟩ := h
  have hR' := hR
  obtain ⟨h1, ⟨h2, h3, h4⟩, h5⟩ := hR'
  obtain ⟨⟨⟨a1, a2, a3, a4⟩, a5, a6⟩, a7, a8⟩ := h5 hk
  have hA := h1.2.1
  have en : ps_en A N σ.1 ≤ N := by
    by_cases t0 : ps_tk A N σ.1 = 0
    · have := ps_en_0 hA hz t0
      omega
    · exact (ps_en_le hA hz t0).2
  refine hcall (pc, 0, 0) _ _ _ _ _ r M 188 0 471 _ _ (gb_b0 188 (by decide)).2 hck.1 hck.2 (gb_sM (A := A) (N := N) (p := ps_en A N σ.1) (by omega)) (show gb_T A N r M ∧ r 76 = (ps_en A N σ.1 : Int) ∧ ps_en A N σ.1 ≤ N from ⟨h1, a3, en⟩) (fun r2 M2 o hq => ?_)
  obtain ⟨⟨rfl, rfl⟩, q1, q5⟩ := hq
  have q5 : ∀ t, t < 391 → gb_sch t = false → r2 t = r t := q5
  obtain ⟨c1, c2⟩ := wa_rm (n := n + 1) (gb_b0 188 (by decide)).1
  rw [c1, c2]
  obtain ⟨r3, hr3⟩ : ∃ r3, r3 = pt_mrg 391 r r2 471 none := ⟨_, rfl⟩
  show P (pc + 3, 0, 0) L S' (pt_mrg 391 r r2 471 none) M2
  rw [← hr3]
  have l3 : ∀ t, t < 391 → r3 t = r2 t := fun t ht => by
    rw [hr3]
    exact if_pos ht
  have f3 : ∀ t, t < 391 → gb_sch t = false → r3 t = r t := fun t b1 b2 => (l3 t b1).trans (q5 t b1 b2)
  refine go r3 ⟨gb_T_c (f3 _ (by omega) (by decide)) rfl h1, ⟨(f3 _ (by omega) (by decide)).trans h2, fun w => absurd hk w, h4⟩, fun _ => ⟨gb_tok_c (fun t _ h => l3 t (by omega)) q1, (f3 _ (by omega) (by decide)).trans a7, a8⟩⟩ ⟨fun t b1 b2 => f3 t b1 (gb_pch_n b2).1, fun _ _ => rfl, fun _ _ => rfl⟩ (fun t ht => ?_)
  rw [hr3]
  exact if_neg (by omega)
end GBK
noncomputable def gb_e2 : List ai_V := [wa_r 264, wa_i 392]
theorem gb_e_c : pt_row gbY 194 [7, 21] true (0, 0, 0) gb_e2 [] [] [(83, (0, 0)), (86, (0, 399))] [] [] [((21, 0, 0), (gb_e2, [wa_i 392, .inl (86, 1600), wa_r 290]), [], [])] = true ∧ pt_row gbY 194 [7, 21] true (0, 0, 0) gb_e2 [] [] [(83, (1, 3))] [] [] [((7, 0, 0), (gb_e2, []), [], [])] = true ∧ pt_row gbY 194 [32] false (22, 0, 0) gb_e2 [] [] [(86, (0, 399))] [] [] [((32, 0, 0), (gb_e2, []), [(86, gz_d 86 1)], [])] = true ∧ pt_tck gbY 194 21 290 2000 = true ∧ (pt_is 7 194 7 = true ∧ pt_is 7 194 32 = true) ∧ (ct_mt 194).2.2.1 = 2 := by decide +kernel
/-- emit -/
theorem gb_eM {n : Nat} {l : List Int} {c : Int} (hn : 4 ≤ n) : pt_Met (n + 1) 194 gbY [wa_r 264, wa_i 392] (fun r M => (r 83 = 0 → gb_C l r M ∧ l.length < 400) ∧ r 392 = c) (fun r M r2 M2 o => o = none ∧ ((∀ t, t < 391 → t ≠ 86 → r2 t = r t) ∧ (∀ z, z ≠ 290 → M2 z = M z) ∧ ∀ j, j < 1600 → M2 290 j = M 290 j) ∧ (r 83 = 0 → gb_C (l ++ [c]) r2 M2)) 0 := by
  refine pt_introT (L0 := gb_e2) (gb_b0 194 (by decide)).2 hn gbsys (by
    rw [gb_e_c.2.2.2.2.2]
    rfl) (fun P r M h hST hp => ?_)
  obtain ⟨hseg, henv, -, -, -, -, -, -, -, -, -, -, -, hvret⟩ := h
  obtain ⟨c1, c2, c3, c4, ⟨c5, c6⟩, -⟩ := gb_e_c
  obtain ⟨hC, ha⟩ := hp
  refine henv _ _ _ _ _ (fun hE _ => ?_)
  have bB : (0 : Int) ≤ r 83 ∧ r 83 ≤ 3 := (hE.2.2.2.1 _ gb_bdB.1).2
  by_cases q : r 83 = 0
  · obtain ⟨⟨g1, g2⟩, g3⟩ := hC q
    refine hseg _ _ _ _ _ r M _ _ _ _ _ c1 ⟨pt_m0, pt_mc ⟨by show (0 : Int) ≤ r 83; omega, by show r 83 ≤ 0; omega⟩ (pt_m1 ⟨by show (0 : Int) ≤ r 86; omega, by show r 86 ≤ 399; omega⟩), pt_m0⟩ ⟨fun _ => ?_, trivial⟩
    show P (21, 0, 0) gb_e2 (.inl (392, 0) :: .inl (86, 1600) :: .inr (.inr (some (some 290))) :: []) r M
    refine hST (21, 0, 0) _ [] r M 290 2000 (1600 + l.length) (86, 1600) (392, 0) c4 (by omega) (by show r 86 + 1600 = _; omega) (Or.inr (Or.inr (Or.inr ⟨rfl, by omega⟩))) ?_
    have ev : ai_vx r (392, 0) = c := by
      show r 392 + 0 = c
      omega
    rw [ev]
    obtain ⟨M2, hM2⟩ : ∃ M2, M2 = pt_sto M 290 (1600 + l.length) c := ⟨_, rfl⟩
    rw [← hM2]
    refine hseg _ _ _ _ _ r M2 _ _ _ _ _ c3 ⟨pt_m0, pt_m1 ⟨by show (0 : Int) ≤ r 86; omega, by show r 86 ≤ 399; omega⟩, pt_m0⟩ ⟨fun _ => ?_, trivial⟩
    obtain ⟨r2, hr2⟩ : ∃ r2, r2 = pt_up r [(86, gz_d 86 1)] := ⟨_, rfl⟩
    show P (32, 0, 0) gb_e2 [] (pt_up r [(86, gz_d 86 1)]) M2
    rw [← hr2]
    have n2 : ∀ t, t ≠ 86 → r2 t = r t := fun t ht => by
      rw [hr2]
      exact if_neg ht
    refine hvret (32, 0, 0) _ r2 M2 rfl c6 (Nat.ble_eq_true_of_le (Nat.zero_le _)) (Nat.ble_eq_true_of_le (Nat.zero_le _)) ⟨rfl, ⟨fun t _ h => n2 t h, fun z hz => ?_, fun j hj => ?_⟩, fun _ => ⟨?_, fun j hj => ?_⟩⟩
    · rw [hM2]
      funext x
      exact if_neg (fun w => hz w.1)
    · rw [hM2]
      exact if_neg (fun w => by have := w.2; omega)
    · rw [List.length_append, List.length_singleton, hr2]
      show r 86 + 1 = _
      omega
    · rw [List.length_append, List.length_singleton] at hj
      rw [hM2]
      show (if 290 = 290 ∧ 1600 + j = 1600 + l.length then c else M 290 (1600 + j)) = _
      by_cases e : j = l.length
      · rw [if_pos ⟨rfl, by omega⟩, e, ps_ge]
      · rw [if_neg (fun w => by have := w.2; omega), ps_gl (by omega)]
        exact g2 j (by omega)
  · refine hseg _ _ _ _ _ r M _ _ _ _ _ c2 ⟨pt_m0, pt_m1 ⟨by show (1 : Int) ≤ r 83; omega, by show r 83 ≤ 3; omega⟩, pt_m0⟩ ⟨fun _ => ?_, trivial⟩
    exact hvret (7, 0, 0) _ r M rfl c5 (Nat.ble_eq_true_of_le (Nat.zero_le _)) (Nat.ble_eq_true_of_le (Nat.zero_le _)) ⟨rfl, ⟨fun _ _ _ => rfl, fun _ _ => rfl, fun _ _ => rfl⟩, fun w => absurd w q⟩
section GBE
variable {n mi : Nat} {rt : Nat} {Z : (Nat → Int) → (Nat → Nat → Int) → Option Int → Prop} {P : pt_P} {A : Nat → Int} {N : Nat} {σ : ps_S} {r : Nat → Int} {M : Nat → Nat → Int} {pc : Nat} {L S' : List ai_V} {y : ai_X}
/-- a code that is one word of the reference's -/
theorem gb_useE (h : pt_Cl n mi gbY rt Z P) (hn : 5 ≤ n) {c c' : Int} (hc : gb_enc c = [c']) (hck : (cy_vk mi pc 194 gbY.2.1 (.inl y :: wa_r 264 :: S') [wa_r 264, .inl y] S' && pt_cck gbY mi 194 (pc, 0, 0) 0 471 L S' [wa_r 264, .inl y] [wa_r 264, wa_i 392]) = true) (hR : gb_R A N σ r M) (hl : σ.2.2.1 = 0 → σ.2.1.length < 200) (ha : ai_vx r y = c')
    (go : ∀ r2 M2, gb_R A N (ps_em c σ) r2 M2 → gb_fr r M r2 M2 → (∀ t, 391 ≤ t → t ≠ 471 → r2 t = r t) → P (pc + 3, 0, 0) L S' r2 M2) : P (pc, 0, 0) L (.inl y :: wa_r 264 :: S') r M := by
  obtain ⟨n, rfl⟩ : ∃ m, n = m + 1 := ⟨n - 1, by omega⟩
  have hR' := hR
  obtain ⟨h1, ⟨h2, h3, h4⟩, h5⟩ := hR'
  refine gb_call h (gb_b0 194 (by decide)) hck (gb_eM (l := gb_cs σ.2.1) (c := c') (by omega)) (fun rc e1 e2 => ⟨fun w => ?_, e2.trans ha⟩) (fun rc r2 M2 r3 e1 e2 ho e3 e4 => ?_)
  · have k : σ.2.2.1 = 0 := by rw [← h2, ← e1 _ (by omega)]; exact w
    obtain ⟨a1, a2, a3⟩ := h5 k
    have := hl k
    have := gb_cs_l (l := σ.2.1)
    exact ⟨⟨(e1 _ (by omega)).trans a2, a3⟩, by omega⟩
  · obtain ⟨o, rfl, ⟨g1, g2, g3⟩, g4⟩ := ho
    have v3 : ∀ t, t < 391 → t ≠ 86 → r3 t = r t := fun t a b => by rw [e3 t a, g1 t a b, e1 t a]
    refine go r3 M2 ⟨gb_T_c (v3 _ (by omega) (by omega)) (g2 285 (by decide)) h1, ⟨(v3 _ (by omega) (by omega)).trans h2, fun w => (v3 _ (by omega) (by omega)).trans (h3 w), h4⟩, fun k => ?_⟩ ⟨fun t a b => v3 t a (gb_pch_n b).2.2.2, g2, g3⟩ e4
    obtain ⟨a1, a2, a3⟩ := h5 k
    have k : σ.2.2.1 = 0 := k
    have g4 := g4 (by rw [e1 _ (by omega), h2, k])
    refine ⟨gb_tok_c (fun t b1 b2 => v3 t (by omega) (by omega)) a1, ?_⟩
    show gb_C (gb_cs (σ.2.1 ++ [c])) r3 M2
    rw [gb_cs_a, hc]
    exact ⟨(e3 _ (by omega)).trans g4.1, g4.2⟩
end GBE
