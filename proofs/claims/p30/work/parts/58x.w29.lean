/-! WAY: seek's loop (the class) -/
/-- how far a search has come -/
noncomputable def qa_kI (r0 : Nat → Int) (M0 : Nat → Nat → Int) (q i : Nat) (r : Nat → Int) (M : Nat → Nat → Int) : Prop := ∃ (n : Nat) (qq κ d : Nat → Nat), (r 71 = (n : Int) ∧ (∀ j : Nat, j < n → M 200 j = (qq j : Int)) ∧ wm_B (wq_T r0 q) (wq_V r0) (13 * i) n qq κ d (M 201)) ∧ (i ≤ n ∧ ∀ k, k < i → ¬ wq_fin r0 (qq k)) ∧ (∀ t, t < 402 → t ≠ 71 → r t = r0 t) ∧ ∀ z, z ≠ 200 → z ≠ 201 → M z = M0 z
noncomputable def qa_kF (r0 : Nat → Int) (M0 : Nat → Nat → Int) (r : Nat → Int) (M : Nat → Nat → Int) : Prop := (∀ t, t < 402 → t ≠ 71 → t ≠ 69 → r t = r0 t) ∧ ∀ z, z ≠ 199 → z ≠ 200 → z ≠ 201 → M z = M0 z
section QAK
variable {m : Nat} {Z : (Nat → Int) → (Nat → Nat → Int) → Option Int → Prop} {P : pt_P} {r0 : Nat → Int} {M0 : Nat → Nat → Int} {q N : Nat} {F : Nat → Int} {σ α : Nat → Nat}
theorem qa_kloop (h : pt_Cl (m + 1 + 1 + 1 + 1) 119 qaY 1 Z P) (hm : 4 ≤ m) (hq : q < 4) (o : wq_ok r0) (hT : wm_T (wq_T r0 q) (wq_V r0)) (pl : ¬ wq_fin r0 0 → wq_pl r0) (hqu : r0 70 = (q : Int)) (h00 : r0 0 = 0) (hF : wm_F (wq_T r0 q) (wq_fin r0) F)
    (hG : F 0 = (N : Int) → N ≤ 12 ∧ σ 0 = 0 ∧ wm_G (wq_T r0 q) F N σ α ∧ ∀ k, k ≤ N → σ k < 4096) (hN : F 0 = -1 ∨ F 0 = (N : Int))
    (hz1 : ∀ r2 M2, F 0 = -1 → qa_kF r0 M0 r2 M2 → r2 69 = r0 69 → M2 199 = M0 199 → Z r2 M2 (some (-1)))
    (hz2 : ∀ r2 M2, F 0 = (N : Int) → qa_kF r0 M0 r2 M2 → r2 69 = (N : Int) → M2 199 = (fun x => if x < N then (α x : Int) else M0 199 x) → Z r2 M2 (some (N : Int))) :
    ∀ (k i : Nat) (r : Nat → Int) (M : Nat → Nat → Int), i + k = 4096 → qa_kI r0 M0 q i r M → r 405 = (((2 ^ (r0 73).toNat - 1) * 257 : Nat) : Int) → r 406 = (i : Int) → P (54, 0, 0) (qa_kL wa_u) [] r M := by
  have h' := h
  obtain ⟨hseg, henv, -, -, hld, -, -, -, hcall, -, hret, -, -, -⟩ := h'
  obtain ⟨c1, c2, c3⟩ := qa_k_c2
  have oP := o.2.2.2.2.1
  have g257 : (2 ^ (r0 73).toNat - 1) * 257 < 4096 := by
    have : 2 ^ (r0 73).toNat ≤ 2 ^ 4 := Nat.pow_le_pow_right (by omega) (by omega)
    omega
  intro k
  induction k with
  | zero =>
    intro i r M hi I e3 e4
    obtain ⟨n, qq, κ, d, ⟨I1, I2, I3⟩, ⟨I4, I5⟩, I6, I7⟩ := I
    have nb := wm_le I3
    have en : i = n := by omega
    refine hseg _ _ _ _ _ r M _ _ _ _ _ c1 ⟨pt_m0, pt_m2 ⟨by show (0 : Int) ≤ r 71; omega, by show r 71 ≤ (4096 : Int); omega⟩ ⟨by show (0 : Int) ≤ r 406; omega, by show r 406 ≤ (4096 : Int); omega⟩, pt_m0⟩ ⟨fun _ => ?_, fun g => ?_, trivial⟩
    · refine hret (108, 0, 0) _ (0, .negSucc 0) r M rfl qa_k_l.2.2.2.2.1 (Nat.ble_eq_true_of_le (Nat.zero_le _)) (Nat.ble_eq_true_of_le (Nat.zero_le _)) ?_
      have ev : ai_vx r (0, .negSucc 0) = -1 := by
        show r 0 + -1 = -1
        rw [I6 0 (by omega) (by omega), h00]
        rfl
      rw [ev]
      subst en
      exact hz1 r M (wm_none hT hF I3 I5) ⟨fun t h1 h2 _ => I6 t h1 h2, fun z _ h1 h2 => I7 z h1 h2⟩ (I6 _ (by omega) (by omega)) (I7 199 (by decide) (by decide))
    · have g1 : r 406 ≤ r 71 + -1 := g.1
      omega
  | succ k ih =>
    intro i r M hi I e3 e4
    obtain ⟨n, qq, κ, d, ⟨I1, I2, I3⟩, ⟨I4, I5⟩, I6, I7⟩ := I
    have nb := wm_le I3
    refine hseg _ _ _ _ _ r M _ _ _ _ _ c1 ⟨pt_m0, pt_m2 ⟨by show (0 : Int) ≤ r 71; omega, by show r 71 ≤ (4096 : Int); omega⟩ ⟨by show (0 : Int) ≤ r 406; omega, by show r 406 ≤ (4096 : Int); omega⟩, pt_m0⟩ ⟨fun g => ?_, fun g => ?_, trivial⟩
    · have g1 : r 71 ≤ r 406 := g.1
      have en : i = n := by omega
      refine hret (108, 0, 0) _ (0, .negSucc 0) r M rfl qa_k_l.2.2.2.2.1 (Nat.ble_eq_true_of_le (Nat.zero_le _)) (Nat.ble_eq_true_of_le (Nat.zero_le _)) ?_
      have ev : ai_vx r (0, .negSucc 0) = -1 := by
        show r 0 + -1 = -1
        rw [I6 0 (by omega) (by omega), h00]
        rfl
      rw [ev]
      subst en
      exact hz1 r M (wm_none hT hF I3 I5) ⟨fun t h1 h2 _ => I6 t h1 h2, fun z _ h1 h2 => I7 z h1 h2⟩ (I6 _ (by omega) (by omega)) (I7 199 (by decide) (by decide))
    · have g1 : r 406 ≤ r 71 + -1 := g.1
      have hin : i < n := by omega
      obtain ⟨s, hs⟩ : ∃ s, s = qq i := ⟨_, rfl⟩
      obtain ⟨h4, vs⟩ := I3.2.1 i hin
      rw [← hs] at h4 vs
      refine hld (77, 0, 0) _ [] r M 200 4096 482 i (406, 0) qa_k_l.2.2.1 (by omega) (by show r 406 + 0 = _; omega) ?_
      rw [I2 i hin, ← hs]
      obtain ⟨r1, hr1⟩ : ∃ r1, r1 = pt_set r 482 (s : Int) := ⟨_, rfl⟩
      rw [← hr1]
      have n1 : ∀ t, t ≠ 482 → r1 t = r t := fun t ht => by
        rw [hr1]
        exact if_neg ht
      have s1 : r1 482 = (s : Int) := by
        rw [hr1]
        exact wq_sset
      have vg : pt_v r1 (qa_xg 482) = ((s &&& ((2 ^ (r0 73).toNat - 1) * 257) : Nat) : Int) := by
        show ai_op 5 (r1 482) (r1 405) = _
        rw [s1, n1 _ (by omega), e3, wq_o5 (by omega) (by omega)]
      have a31 : r1 405 = (((2 ^ (r0 73).toNat - 1) * 257 : Nat) : Int) := (n1 _ (by omega)).trans e3
      obtain ⟨r2, hr2⟩ : ∃ r2, r2 = pt_up r1 [(407, wq_p 482)] := ⟨_, rfl⟩
      have n2 : ∀ t, t ≠ 407 → r2 t = r1 t := fun t ht => by
        rw [hr2]
        exact if_neg ht
      have a52 : r2 407 = (s : Int) := by
        rw [hr2]
        exact s1
      have l2 : ∀ t, t < 402 → r2 t = r t := fun t ht => (n2 t (by omega)).trans (n1 t (by omega))
      obtain ⟨rc, hrc⟩ : ∃ rc, rc = pt_up r2 (pt_wc [wa_r 198, wa_i 407] [wa_r 198, wa_i 403]) := ⟨_, rfl⟩
      have rcv : ∀ t, rc t = if t = 403 then r2 407 else r2 t := fun t => by
        rw [hrc]
        rfl
      have rcl : ∀ t, t < 402 → rc t = r t := fun t ht => by
        rw [rcv, if_neg (by omega)]
        exact l2 t ht
      have low : ∀ t, (t = 73 ∨ t = 74 ∨ t = 75 ∨ (115 ≤ t ∧ t < 125) ∨ (135 ≤ t ∧ t < 139) ∨ (139 ≤ t ∧ t < 143) ∨ (147 ≤ t ∧ t < 151) ∨ (171 ≤ t ∧ t < 203) ∨ (371 ≤ t ∧ t < 379)) → rc t = r0 t := fun t ht => (rcl t (by omega)).trans (I6 t (by omega) (by omega))
      refine hseg _ _ _ _ _ r1 M _ _ _ _ _ c2 ⟨pt_m0, pt_m0, pt_m0⟩ ⟨fun g => ?_, fun g => ?_, trivial⟩
      · -- no end: spread
        have g2 : pt_v r1 (qa_xg 482) ≠ r1 405 := g.1
        rw [vg, a31] at g2
        have nf : ¬ wq_fin r0 s := fun w => g2 (by rw [(wq_goal o h4 vs).mpr w])
        show P (98, 0, 0) (qa_kL (wa_i 407)) [wa_i 407, wa_r 198] (pt_up r1 [(407, wq_p 482)]) M
        rw [← hr2]
        have ck := qa_k_k.2.1
        rw [Bool.and_eq_true] at ck
        have tT : ∀ x a, a < 13 → wq_T rc q x a = wq_T r0 q x a := fun x a ha => wq_T_c low hq ha o
        have tV : ∀ x, wq_V r0 x → wq_V rc x := fun x hx => wq_V_c (low 73 (by omega)) hx
        refine hcall (98, 0, 0) _ _ _ _ _ r2 M 120 0 482 _ _ (wq_b0 120 (by decide)).2 ck.1 ck.2 (qa_zM (i := i) (n0 := n) (q0 := qq) (κ0 := κ) (d0 := d) hm hq) ?_ (fun r3 M3 v hQ => ?_)
        · rw [← hrc]
          refine ⟨⟨?_, hin, ?_⟩, ⟨wq_ok_c low o, ?_⟩, ⟨?_, I2⟩, wm_BT tT tV I3⟩
          · rw [rcv, if_pos rfl, a52, hs]
          · rw [rcl _ (by omega), I6 _ (by omega) (by omega), hqu]
          · obtain ⟨pa, pb⟩ := pl (fun w => by
            have q0 := I3.1.1.2
            by_cases i0 : i = 0
            · exact nf (by rw [hs, i0, q0]; exact w)
            · exact I5 0 (by omega) (by rw [q0]; exact w))
            refine ⟨fun x hx => ?_, fun x hx => ?_⟩
            · rw [low (135 + x) (by omega), low 73 (by omega)]
              exact pa x hx
            · rw [low (115 + x) (by omega), low (120 + x) (by omega), low 73 (by omega)]
              exact pb x hx
          · rw [rcl _ (by omega), I1]
        rw [← hrc] at hQ
        obtain ⟨rfl, n', qq', κ', d', ⟨J1, J2, J3⟩, ⟨J4, J5⟩, J6, J7⟩ := hQ
        obtain ⟨cc, cs⟩ := wa_rm (n := m + 1 + 1 + 1 + 1) (wq_b0 120 (by decide)).1
        rw [cc, cs]
        obtain ⟨r4, hr4⟩ : ∃ r4, r4 = pt_mrg 402 r2 r3 482 none := ⟨_, rfl⟩
        show P (101, 0, 0) (qa_kL (wa_i 407)) [] (pt_mrg 402 r2 r3 482 none) M3
        rw [← hr4]
        have lo4 : ∀ t, t < 402 → r4 t = r3 t := fun t ht => by
          rw [hr4]
          exact if_pos ht
        have hi4 : ∀ t, 402 ≤ t → r4 t = r2 t := fun t ht => by
          rw [hr4]
          exact if_neg (by omega)
        have a44 : r4 406 = (i : Int) := by rw [hi4 _ (by omega), n2 _ (by omega), n1 _ (by omega), e4]
        have a34 : r4 405 = (((2 ^ (r0 73).toNat - 1) * 257 : Nat) : Int) := by rw [hi4 _ (by omega), n2 _ (by omega), a31]
        refine hseg _ _ _ _ _ r4 M3 _ _ _ _ _ c3 ⟨pt_m0, pt_m1 ⟨by show (0 : Int) ≤ r4 406; omega, by show r4 406 ≤ (4095 : Int); omega⟩, pt_m0⟩ ⟨fun _ => ?_, trivial⟩
        obtain ⟨r5, hr5⟩ : ∃ r5, r5 = pt_up r4 [(406, [(0, 406, 0), (3, 0, 1)])] := ⟨_, rfl⟩
        show P (54, 0, 0) (qa_kL wa_u) [] (pt_up r4 [(406, [(0, 406, 0), (3, 0, 1)])]) M3
        rw [← hr5]
        have n5 : ∀ t, t ≠ 406 → r5 t = r4 t := fun t ht => by
          rw [hr5]
          exact if_neg ht
        have J3' : wm_B (wq_T r0 q) (wq_V r0) (13 * (i + 1)) n' qq' κ' d' (M3 201) := wm_BT (fun x a ha => (tT x a ha).symm) (fun x hx => wq_V_c (low 73 (by omega)).symm hx) J3
        refine ih (i + 1) r5 M3 (by omega) ⟨n', qq', κ', d', ⟨by rw [n5 _ (by omega), lo4 _ (by omega), J1], J2, J3'⟩, ⟨by omega, fun x hx => ?_⟩, fun t h1 h2 => ?_, fun z h1 h2 => (J7 z h1 h2).trans (I7 z h1 h2)⟩ ((n5 _ (by omega)).trans a34) (by rw [hr5]; show r4 406 + 1 = _; omega)
        · rw [J5 x (by omega)]
          by_cases w : x = i
          · rw [w, ← hs]
            exact nf
          · exact I5 x (by omega)
        · rw [n5 t (by omega), lo4 t h1, J6 t h1 h2, rcl t h1]
          exact I6 t h1 h2
      · -- an end: trace
        have g2 : pt_v r1 (qa_xg 482) ≤ r1 405 := g.1
        have g3 : r1 405 ≤ pt_v r1 (qa_xg 482) := g.2.1
        rw [vg, a31] at g2 g3
        have yf : wq_fin r0 s := (wq_goal o h4 vs).mp (by omega)
        have fi : F s = 0 := (hF s h4).2.1 yf
        have dist := wm_dist hF I3 (fun x hx => I5 x (by omega)) i hin (by rw [← hs, fi]; decide)
        have eN : F 0 = (N : Int) := hN.resolve_left dist.1
        obtain ⟨G1, G2, G3, G4⟩ := hG eN
        obtain ⟨w1, w2⟩ := wm_way hT hF I3 hin (by rw [← hs]; exact yf) I5 eN G2 G3
        have tH : qa_tH N σ α M := ⟨G1, G2, fun x hx => ⟨(G3 x hx).1, by
          have := (hT.2 _ _ _ (G4 x (by omega)) (G3 x hx).1 (G3 x hx).2.1).1
          omega, G4 (x + 1) (by omega), w2 x hx⟩⟩
        show P (91, 0, 0) (qa_kL (wa_i 407)) [wa_i 407, wa_r 198] (pt_up r1 [(407, wq_p 482)]) M
        rw [← hr2]
        have ck := qa_k_k.2.2
        rw [Bool.and_eq_true] at ck
        refine hcall (91, 0, 0) _ _ _ _ _ r2 M 121 1 482 _ _ (wq_b0 121 (by decide)).2 ck.1 ck.2 (qa_tM (n := m + 1 + 1 + 1) (N := N) (σ := σ) (α := α) (by omega)) ?_ (fun r3 M3 v hQ => ?_)
        · rw [← hrc]
          exact ⟨by rw [rcv, if_pos rfl, a52, w1, hs], tH⟩
        rw [← hrc] at hQ
        obtain ⟨rfl, ⟨J1, J2⟩, J3, J4⟩ := hQ
        obtain ⟨cc, cs⟩ := wa_rm (n := m + 1 + 1 + 1 + 1) (wq_b0 121 (by decide)).1
        rw [cc, cs]
        obtain ⟨r4, hr4⟩ : ∃ r4, r4 = pt_mrg 402 r2 r3 482 (some (N : Int)) := ⟨_, rfl⟩
        show P (94, 0, 0) (qa_kL (wa_i 407)) [wa_i 482] (pt_mrg 402 r2 r3 482 (some (N : Int))) M3
        rw [← hr4]
        have lo4 : ∀ t, t < 402 → r4 t = r3 t := fun t ht => by
          rw [hr4]
          exact wa_mlt ht
        have z4 : ai_vx r4 (482, 0) = (N : Int) := by
          show r4 482 + 0 = _
          rw [hr4, wa_mz (by omega), Int.add_zero]
        refine hret (94, 0, 0) _ (482, 0) r4 M3 rfl qa_k_l.2.2.2.1 (Nat.ble_eq_true_of_le (Nat.zero_le _)) (Nat.ble_eq_true_of_le (Nat.zero_le _)) ?_
        rw [z4]
        refine hz2 r4 M3 eN ⟨fun t h1 h2 h3 => ?_, fun z h1 h2 h3 => (J2 z h1).trans (I7 z h2 h3)⟩ ((lo4 _ (by omega)).trans J3) ?_
        · rw [lo4 t h1, J1 t h1 h3, rcl t h1]
          exact I6 t h1 h2
        · rw [J4]
          funext x
          rw [I7 199 (by decide) (by decide)]
end QAK
