/-! TEXTS (the class): feed: twenty bytes -/
noncomputable def fd_tL : List ai_V := [wa_r 84, wa_i 392, wa_i 393, wa_i 394, wa_i 395, wa_i 396]
noncomputable def fd_tk (pc k : Nat) : Bool := cy_vk 86 pc 87 gaY.2.1 [wa_i (392 + k), wa_r 84] [wa_r 84, wa_i (392 + k)] [] && pt_cck gaY 86 87 (pc, 0, 0) 0 471 fd_tL [] [wa_r 84, wa_i (392 + k)] [wa_r 84, wa_i 392]
theorem fd_t_c : (ga_rw 86 [11, 14] true 0 fd_tL [(75, (0, 180))] 14 fd_tL [wa_i 392, wa_r 84] [] = true ∧ ga_rw 86 [11, 14] true 0 fd_tL [(75, (181, 200))] 11 fd_tL [gz_n (-1)] [] = true ∧ ga_rw 86 [43] false 39 fd_tL [] 43 fd_tL [wa_i 75] [] = true) ∧
    ((ga_rw 86 [19] false 17 fd_tL [] 19 fd_tL [wa_i (392 + 1), wa_r 84] [] = true ∧ ga_rw 86 [24] false 22 fd_tL [] 24 fd_tL [wa_i (392 + 2), wa_r 84] [] = true) ∧ ga_rw 86 [30] false 27 fd_tL [] 30 fd_tL [wa_i (392 + 3), wa_r 84] [] = true ∧ ga_rw 86 [36] false 33 fd_tL [] 36 fd_tL [wa_i (392 + 4), wa_r 84] [] = true) ∧
    (((fd_tk 14 0 = true ∧ fd_tk 19 1 = true) ∧ fd_tk 24 2 = true ∧ fd_tk 30 3 = true) ∧ fd_tk 36 4 = true) ∧ (pt_is 5 86 11 = true ∧ pt_is 5 86 43 = true) ∧ (ct_mt 86).2.2.1 = 6 := by decide +kernel
section FDT
variable {n : Nat} {Z : (Nat → Int) → (Nat → Nat → Int) → Option Int → Prop} {P : pt_P} {b : Nat} {r : Nat → Int} {M : Nat → Nat → Int}
theorem fd_tcall (h : pt_Cl (n + 1) 86 gaY 1 Z P) (hn : 4 ≤ n) {pc k b : Nat} (hck : fd_tk pc k = true) (e : r 75 = (b : Int)) (hb : b + 4 ≤ 200)
    (K : ∀ r2, r2 75 = ((b + 4 : Nat) : Int) → (∀ t, t ≠ 75 → t ≠ 471 → r2 t = r t) → P (pc + 3, 0, 0) fd_tL [] r2 (fd_M 86 M b 4 (r (392 + k)))) : P (pc, 0, 0) fd_tL [wa_i (392 + k), wa_r 84] r M := by
  unfold fd_tk at hck
  rw [Bool.and_eq_true] at hck
  obtain ⟨-, -, -, -, -, -, -, -, hcall, -⟩ := h
  obtain ⟨rc, hrc⟩ : ∃ rc, rc = pt_up r (pt_wc [wa_r 84, wa_i (392 + k)] [wa_r 84, wa_i 392]) := ⟨_, rfl⟩
  have rcv : ∀ t, rc t = if t = 392 then pt_v r (pt_xr (392 + k, 0)) else r t := fun t => by
    rw [hrc]
    rfl
  have rca : rc 392 = r (392 + k) := by
    rw [rcv, if_pos rfl]
    have : pt_xr (392 + k, 0) = [(0, 392 + k, 0)] ∨ pt_xr (392 + k, 0) = [(0, 392 + k, 0), (3, 0, 0)] := by
      rw [show 392 + k = (392 - 1 + k) + 1 by omega]
      first
        | exact Or.inl rfl
        | exact Or.inr rfl
    rcases this with q | q
    · rw [q]
      rfl
    · rw [q]
      exact Int.add_zero _
  have rcl : ∀ t, t ≠ 392 → rc t = r t := fun t ht => by rw [rcv, if_neg ht]
  refine hcall (pc, 0, 0) _ _ _ _ _ r M 87 0 471 _ _ (fd_b0 87 (by decide)).2 hck.1 hck.2 (fd_nM (b := b) hn hb) (by
    show pt_up r (pt_wc [wa_r 84, wa_i (392 + k)] [wa_r 84, wa_i 392]) 75 = _
    rw [← hrc, rcl _ (by omega)]
    exact e) (fun r2 M2 o hq => ?_)
  rw [← hrc] at hq
  obtain ⟨rfl, q1, q2, rfl⟩ := hq
  obtain ⟨c1, c2⟩ := wa_rm (n := n + 1) (fd_b0 87 (by decide)).1
  rw [c1, c2, rca]
  obtain ⟨r3, hr3⟩ : ∃ r3, r3 = pt_mrg 391 r r2 471 none := ⟨_, rfl⟩
  show P (pc + 3, 0, 0) fd_tL [] (pt_mrg 391 r r2 471 none) _
  rw [← hr3]
  refine K r3 ?_ (fun t h1 h2 => ?_)
  · rw [hr3]
    exact (if_pos (by omega)).trans q1
  · rw [hr3]
    by_cases a : t < 391
    · exact (if_pos a).trans ((q2 t a h1).trans (rcl t (by omega)))
    · exact if_neg a
end FDT
noncomputable def fd_tQ (r : Nat → Int) (M : Nat → Nat → Int) (r2 : Nat → Int) (M2 : Nat → Nat → Int) (o : Option Int) : Prop :=
  (r 75 ≤ 180 → o = some (r 75 + 20) ∧ r2 75 = r 75 + 20 ∧ M2 = fd_K 86 M (r 75).toNat 20 (fun j => r (392 + j))) ∧ (181 ≤ r 75 → o = some (-1) ∧ r2 75 = r 75 ∧ M2 = M) ∧ ∀ t, t < 391 → t ≠ 75 → r2 t = r t
theorem fd_tM {n : Nat} (hn : 4 ≤ n) : pt_Met (n + 1 + 1) 86 gaY fd_tL (fun _ _ => True) fd_tQ 1 := by
  refine pt_intro (L0 := fd_tL) (fd_b0 86 (by decide)).2 (by omega) gasys (by
    rw [fd_t_c.2.2.2.2]
    rfl) (fun P r M h _ => ?_)
  have h' := h
  obtain ⟨hseg, henv, -, -, -, -, -, -, -, -, hret, -⟩ := h'
  obtain ⟨⟨c1, c2, c3⟩, ⟨⟨d1, d2⟩, d3, d4⟩, ⟨⟨⟨k0, k1⟩, k2, k3⟩, k4⟩, ⟨i1, i2⟩, -⟩ := fd_t_c
  refine henv _ _ _ _ _ (fun hE _ => ?_)
  have bd : (0 : Int) ≤ r 75 ∧ r 75 ≤ 200 := (hE.2.2.2.1 _ fd_bd).2
  have z0 : r 0 = 0 := hE.1
  by_cases c : r 75 ≤ 180
  · obtain ⟨b, eb⟩ : ∃ b : Nat, r 75 = (b : Int) := ⟨(r 75).toNat, by omega⟩
    have tb : (r 75).toNat = b := by omega
    obtain ⟨vs, hvs⟩ : ∃ vs : Nat → Int, vs = fun j => r (392 + j) := ⟨_, rfl⟩
    have v' : ∀ j, vs j = r (392 + j) := fun j => by rw [hvs]
    have s0 : fd_M 86 M b 4 (vs 0) = fd_K 86 M b 4 vs := by
      have := fd_MK (q := 86) (b := b) (k := 0) (M := M) (vs := vs)
      rw [show 4 * 0 = 0 from rfl, fd_K0] at this
      exact this
    have s1 : fd_M 86 (fd_K 86 M b 4 vs) (b + 4) 4 (vs 1) = fd_K 86 M b 8 vs := fd_MK (k := 1)
    have s2 : fd_M 86 (fd_K 86 M b 8 vs) (b + 8) 4 (vs 2) = fd_K 86 M b 12 vs := fd_MK (k := 2)
    have s3 : fd_M 86 (fd_K 86 M b 12 vs) (b + 12) 4 (vs 3) = fd_K 86 M b 16 vs := fd_MK (k := 3)
    have s4 : fd_M 86 (fd_K 86 M b 16 vs) (b + 16) 4 (vs 4) = fd_K 86 M b 20 vs := fd_MK (k := 4)
    refine hseg _ _ _ _ _ r M _ _ _ _ _ c1 ⟨pt_m0, pt_m1 ⟨bd.1, c⟩, pt_m0⟩ ⟨fun _ => ?_, trivial⟩
    show P (14, 0, 0) fd_tL [wa_i (392 + 0), wa_r 84] r M
    refine fd_tcall (b := b) h hn k0 eb (by omega) (fun r1 a1 f1 => ?_)
    rw [← v' 0, s0]
    refine hseg _ _ _ _ _ r1 _ _ _ _ _ _ d1 ⟨pt_m0, pt_m0, pt_m0⟩ ⟨fun _ => ?_, trivial⟩
    show P (19, 0, 0) fd_tL [wa_i (392 + 1), wa_r 84] r1 _
    refine fd_tcall (b := b + 4) h hn k1 (by omega) (by omega) (fun r2 a2 f2 => ?_)
    rw [f1 (392 + 1) (by omega) (by omega), ← v' 1, s1]
    refine hseg _ _ _ _ _ r2 _ _ _ _ _ _ d2 ⟨pt_m0, pt_m0, pt_m0⟩ ⟨fun _ => ?_, trivial⟩
    show P (24, 0, 0) fd_tL [wa_i (392 + 2), wa_r 84] r2 _
    refine fd_tcall (b := b + 8) h hn k2 (by omega) (by omega) (fun r3 a3 f3 => ?_)
    rw [f2 (392 + 2) (by omega) (by omega), f1 (392 + 2) (by omega) (by omega), ← v' 2, s2]
    refine hseg _ _ _ _ _ r3 _ _ _ _ _ _ d3 ⟨pt_m0, pt_m0, pt_m0⟩ ⟨fun _ => ?_, trivial⟩
    show P (30, 0, 0) fd_tL [wa_i (392 + 3), wa_r 84] r3 _
    refine fd_tcall (b := b + 12) h hn k3 (by omega) (by omega) (fun r4 a4 f4 => ?_)
    rw [f3 (392 + 3) (by omega) (by omega), f2 (392 + 3) (by omega) (by omega), f1 (392 + 3) (by omega) (by omega), ← v' 3, s3]
    refine hseg _ _ _ _ _ r4 _ _ _ _ _ _ d4 ⟨pt_m0, pt_m0, pt_m0⟩ ⟨fun _ => ?_, trivial⟩
    show P (36, 0, 0) fd_tL [wa_i (392 + 4), wa_r 84] r4 _
    refine fd_tcall (b := b + 16) h hn k4 (by omega) (by omega) (fun r5 a5 f5 => ?_)
    rw [f4 (392 + 4) (by omega) (by omega), f3 (392 + 4) (by omega) (by omega), f2 (392 + 4) (by omega) (by omega), f1 (392 + 4) (by omega) (by omega), ← v' 4, s4]
    refine hseg _ _ _ _ _ r5 _ _ _ _ _ _ c3 ⟨pt_m0, pt_m0, pt_m0⟩ ⟨fun _ => ?_, trivial⟩
    show P (43, 0, 0) fd_tL [wa_i 75] r5 _
    have e20 : r5 75 = r 75 + 20 := by omega
    refine hret (43, 0, 0) _ (75, 0) r5 _ rfl i2 (by decide +kernel) (by decide +kernel) ⟨fun _ => ⟨congrArg some ?_, e20, ?_⟩, fun g => by omega, fun t h1 h2 => ?_⟩
    · show r5 75 + 0 = _
      rw [e20, Int.add_zero]
    · rw [tb, ← hvs]
    · rw [f5 t h2 (by omega), f4 t h2 (by omega), f3 t h2 (by omega), f2 t h2 (by omega), f1 t h2 (by omega)]
  · refine hseg _ _ _ _ _ r M _ _ _ _ _ c2 ⟨pt_m0, pt_m1 ⟨by show (181 : Int) ≤ r 75; omega, bd.2⟩, pt_m0⟩ ⟨fun _ => ?_, trivial⟩
    show P (11, 0, 0) fd_tL [gz_n (-1)] r M
    refine hret (11, 0, 0) _ (0, -1) r M rfl i1 (by decide +kernel) (by decide +kernel) ⟨fun g => absurd g c, fun _ => ⟨congrArg some ?_, rfl, rfl⟩, fun _ _ _ => rfl⟩
    show r 0 + -1 = -1
    rw [z0]
    rfl
