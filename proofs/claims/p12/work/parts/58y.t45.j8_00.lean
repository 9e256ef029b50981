/-! TEXTS (the class): LM.feed, LM.offer, the law's helper -/
noncomputable def of_p (t : Nat) : Bool := [37, 75, 85, 38, 39, 40, 41, 42, 43].elem t
theorem of_p_in {t : Nat} (h : t = 37 ∨ t = 75 ∨ t = 85 ∨ t = 38 ∨ t = 39 ∨ t = 40 ∨ t = 41 ∨ t = 42 ∨ t = 43) : of_p t = true := List.elem_iff.mpr (by simpa using h)
theorem of_p_of {t : Nat} (h : of_p t = true) : t = 37 ∨ t = 75 ∨ t = 85 ∨ t = 38 ∨ t = 39 ∨ t = 40 ∨ t = 41 ∨ t = 42 ∨ t = 43 := by
  have := List.elem_iff.mp h
  simpa using this
theorem of_hp : ∀ t, of_p t = true → t < gcY.1.1 := fun t h => by
  have := of_p_of h
  show t < 491
  omega
theorem of_ck : pl_ck gaY gcY of_p = true := by decide +kernel
theorem of_R_c {A : Nat → Int} {N : Nat} {σ : ps_S} {r r2 : Nat → Int} {M M2 : Nat → Nat → Int} (e : ∀ t, of_p t = true → r2 t = r t) (e5 : M2 85 = M 85) (e6 : M2 86 = M 86) (h : ga_R A N σ r M) : ga_R A N σ r2 M2 := by
  obtain ⟨⟨h1, h2, h3⟩, ⟨h4, h5, h6⟩, h7⟩ := h
  refine ⟨⟨(e _ (of_p_in (by omega))).trans h1, h2, fun j hj => by rw [e6]; exact h3 j hj⟩, ⟨(e _ (of_p_in (by omega))).trans h4, (e _ (of_p_in (by omega))).trans h5, h6⟩, fun k => ?_⟩
  obtain ⟨⟨a1, a2, a3, a4⟩, a5, a6⟩ := h7 k
  exact ⟨⟨(e _ (of_p_in (by omega))).trans a1, (e _ (of_p_in (by omega))).trans a2, (e _ (of_p_in (by omega))).trans a3, fun w => (e _ (of_p_in (by omega))).trans (a4 w)⟩, (e _ (of_p_in (by omega))).trans a5, fun j hj => by rw [e5]; exact a6 j hj⟩
noncomputable def fe_L : List ai_V := [wa_r 16, wa_i 392, wa_i 393, wa_i 394, wa_i 395, wa_i 396]
noncomputable def fe_S : List ai_V := [wa_i 396, wa_i 395, wa_i 394, wa_i 393, wa_i 392, wa_r 84]
theorem fe_c : pt_row gcY 140 [11] true (0, 0, 0) fe_L [] [] [] [] [] [((11, 0, 0), (fe_L, fe_S), [], [])] = true := by decide +kernel
theorem fe_k : ((cy_vk 140 11 86 gcY.2.1 fe_S fd_tL [] && pt_cck gcY 140 86 (11, 0, 0) 1 471 fe_L [] fd_tL fd_tL) = true ∧ pt_is 5 140 14 = true) ∧ (ct_mt 140).2.2.1 = 6 := by decide +kernel
theorem fe_self {r : Nat → Int} (h0 : r 0 = 0) : pt_up r (pt_wc fd_tL fd_tL) = r := wa_up_self h0 (fun q hq => by
  have hq : q ∈ [(392, pt_xr (392, 0)), (393, pt_xr (393, 0)), (394, pt_xr (394, 0)), (395, pt_xr (395, 0)), (396, pt_xr (396, 0))] := hq
  simp only [List.mem_cons, List.not_mem_nil, or_false] at hq
  rcases hq with rfl | rfl | rfl | rfl | rfl <;> rfl)
/-- LM.feed: what is told of it -/
noncomputable def fe_Q (r : Nat → Int) (M : Nat → Nat → Int) (r2 : Nat → Int) (M2 : Nat → Nat → Int) (o : Option Int) : Prop :=
  (r 75 ≤ 180 → o = some (r 75 + 20) ∧ r2 75 = r 75 + 20 ∧ M2 86 = fd_K 86 M (r 75).toNat 20 (fun j => r (392 + j)) 86) ∧ (181 ≤ r 75 → o = some (-1) ∧ r2 75 = r 75 ∧ M2 86 = M 86) ∧ (∀ t, t < 391 → t ≠ 75 → r2 t = r t) ∧ ∀ z, z ≠ 86 → M2 z = M z
theorem fe_M {n : Nat} (hn : 4 ≤ n) : pt_Met (n + 1 + 1 + 1) 140 gcY fe_L (fun _ _ => True) fe_Q 1 := by
  refine pt_intro (L0 := fe_L) (fd_b0 140 (by decide)).2 (by omega) gcsys (by
    rw [fe_k.2]
    rfl) (fun P r M h _ => ?_)
  obtain ⟨hseg, henv, -, -, -, -, -, -, hcall, -, hret, -, -, -⟩ := h
  refine henv _ _ _ _ _ (fun hE _ => ?_)
  have h0 : r 0 = 0 := hE.1
  refine hseg _ _ _ _ _ r M _ _ _ _ _ fe_c ⟨pt_m0, pt_m0, pt_m0⟩ ⟨fun _ => ?_, trivial⟩
  show P (11, 0, 0) fe_L fe_S r M
  have ck := fe_k.1.1
  rw [Bool.and_eq_true] at ck
  refine hcall (11, 0, 0) _ _ _ _ _ r M 86 1 471 _ _ (fd_b0 86 (by decide)).2 ck.1 ck.2 (pl_met gasys gcsys of_hp of_ck (fd_tM hn)) trivial (fun r2 M2 o hq => ?_)
  rw [fe_self h0] at hq
  obtain ⟨rc, rs⟩ := wa_rm (n := n + 1 + 1) (fd_b0 86 (by decide)).1
  rw [rc, rs]
  obtain ⟨ra, Ma, ⟨q1, q2, q3⟩, qE, f1, f0, g1, g0⟩ := hq
  have g6 : M2 86 = Ma 86 := g1 (86, 200, 0) (by decide)
  have g5 : M2 85 = Ma 85 := g1 (85, 200, 0) (by decide)
  have gz : ∀ z, z ≠ 85 → z ≠ 86 → M2 z = M z := fun z a b => g0 z (fun g hg => by
    have hg : g ∈ [(85, 200, 0), (86, 200, 0)] := hg
    simp only [List.mem_cons, List.not_mem_nil, or_false] at hg
    rcases hg with rfl | rfl
    · exact fun e => a e.symm
    · exact fun e => b e.symm)
  have fBY : r2 75 = ra 75 := f1 _ (of_p_in (by omega))
  have lo : ∀ t, t < 391 → t ≠ 75 → r2 t = r t := fun t a b => by
    cases e : of_p t with
    | true => exact (f1 t e).trans (q3 t a b)
    | false => exact f0 t e
  have em : ∀ i : Nat, fd_K 86 M i 20 (fun j => r (392 + j)) 85 = M 85 := fun i => by
    funext x
    exact if_neg (by omega)
  obtain ⟨w, ew, hZ⟩ : ∃ w, o = some w ∧ ((r 75 ≤ 180 → w = r 75 + 20 ∧ r2 75 = r 75 + 20 ∧ M2 86 = fd_K 86 M (r 75).toNat 20 (fun j => r (392 + j)) 86) ∧ (181 ≤ r 75 → w = -1 ∧ r2 75 = r 75 ∧ M2 86 = M 86) ∧ M2 85 = M 85) := by
    by_cases c : r 75 ≤ 180
    · obtain ⟨a1, a2, a3⟩ := q1 c
      exact ⟨_, a1, fun _ => ⟨rfl, fBY.trans a2, by rw [g6, a3]⟩, fun q => by omega, by rw [g5, a3, em]⟩
    · obtain ⟨a1, a2, a3⟩ := q2 (by omega)
      exact ⟨_, a1, fun q => absurd q c, fun _ => ⟨rfl, fBY.trans a2, by rw [g6, a3]⟩, by rw [g5, a3]⟩
  subst ew
  obtain ⟨z1, z2, z3⟩ := hZ
  obtain ⟨r4, hr4⟩ : ∃ r4, r4 = pt_mrg 391 r r2 471 (some w) := ⟨_, rfl⟩
  show P (14, 0, 0) fe_L [wa_i 471] (pt_mrg 391 r r2 471 (some w)) M2
  rw [← hr4]
  have lo4 : ∀ t, t < 391 → r4 t = r2 t := fun t ht => by
    rw [hr4]
    exact wa_mlt ht
  refine hret (14, 0, 0) _ (471, 0) r4 M2 rfl fe_k.1.2 (by decide +kernel) (by decide +kernel) ?_
  have ev : ai_vx r4 (471, 0) = w := by
    show r4 471 + 0 = _
    rw [hr4, wa_mz (by omega), Int.add_zero]
  rw [ev]
  refine ⟨fun c => ⟨congrArg some (z1 c).1, (lo4 _ (by omega)).trans (z1 c).2.1, (z1 c).2.2⟩, fun c => ⟨congrArg some (z2 c).1, (lo4 _ (by omega)).trans (z2 c).2.1, (z2 c).2.2⟩, fun t a b => (lo4 t a).trans (lo t a b), fun z hz => ?_⟩
  by_cases e : z = 85
  · rw [e, z3]
  · exact gz z e hz
