/-! TEXTS (the reference): is -/
theorem gb_i_w : (Cond.methodLink (ct_mt 191).1.cls 333 sr_yLen.1 ∈ ft_W ∧ Cond.methodLink (ct_mt 191).1.cls 337 sr_yChar.1 ∈ ft_W) ∧ (decode (ct_mt 191).2.1 16 = .ok (.invokevirtual 333, 3) ∧ decode (ct_mt 191).2.1 45 = .ok (.invokevirtual 333, 3) ∧ decode (ct_mt 191).2.1 53 = .ok (.invokevirtual 337, 3)) ∧ ∀ k, k < 10 → rd_n k ≤ 7 := by
  refine ⟨⟨by rw [iz_dc.2.2.2]; exact sr_at 6 rfl, by rw [iz_dc.2.2.2]; exact sr_at 7 rfl⟩, ⟨iz_dc.1, iz_dc.2.1, iz_dc.2.2.1⟩, rd_N.2.2.2.2.2⟩
section GBI
variable {n : Nat} {Z : (Nat → Int) → (Nat → Nat → Int) → Option Int → Prop} {P : pt_P} {r0 : Nat → Int} {M0 : Nat → Nat → Int} {A : Nat → Int} {N k s : Nat}
theorem gb_iret (h : pt_Cl n 191 gbY 1 Z P) {L : List ai_V} {r : Nat → Int} {v : Int} (h00 : r 0 = 0) (hv : v = 0 ∨ v = 1) (hz : Z r M0 (some v)) : P (83, 0, 0) L [gz_n v] r M0 := by
  obtain ⟨-, -, -, -, -, -, -, -, -, -, -, hret8, -⟩ := h
  have ev : ai_vx r (0, v) = v := by
    show r 0 + v = v
    rw [h00, Int.zero_add]
  refine hret8 (83, 0, 0) _ (0, v) r M0 rfl gb_i_l.2.1 (by decide +kernel) (by decide +kernel) (by rw [ev]; exact hv) ?_
  rw [ev]
  exact hz
theorem gb_iloop (h : pt_Cl n 191 gbY 1 Z P) (hSL : ps_SL 191 P) (hSC : ps_SC 191 P) (hk : k < 10) (hT : gb_T A N r0 M0) (hs : r0 81 = (s : Int)) (hsN : s + rd_n k ≤ N) (h00 : r0 0 = 0)
    (hz1 : ∀ r2, (∀ t, t < 391 → r2 t = r0 t) → (∀ i, i < rd_n k → A (s + i) = ps_ch k i) → Z r2 M0 (some 1))
    (hz0 : ∀ r2, (∀ t, t < 391 → r2 t = r0 t) → (¬ ∀ i, i < rd_n k → A (s + i) = ps_ch k i) → Z r2 M0 (some 0)) :
    ∀ (d j : Nat) (r : Nat → Int), j + d = rd_n k → r 393 = (j : Int) → (∀ t, t < 391 → r t = r0 t) → (∀ i, i < j → A (s + i) = ps_ch k i) → P (45, 0, 0) (gb_iB k) [rd_ref (k + 1), wa_i 393] r M0 := by
  have h' := h
  obtain ⟨hseg, henv, -, -, hld, -⟩ := h'
  obtain ⟨⟨w1, w2⟩, ⟨d1, d2, d3⟩, n7⟩ := gb_i_w
  have rows := List.all_eq_true.mp gb_i_c1 k (List.mem_range.mpr hk)
  simp only [Bool.and_eq_true] at rows
  obtain ⟨-, -, c3, c4⟩ := rows
  obtain ⟨t1, t2, t3⟩ := hT
  have k7 := n7 k hk
  intro d
  induction d with
  | zero =>
    intro j r hj ej fr al
    have hj : j = rd_n k := by omega
    subst hj
    refine hSL 45 333 k _ [wa_i 393] r M0 hk w1 d2 (by decide +kernel) ?_
    refine hseg _ _ _ _ _ r M0 _ _ _ _ _ c4 ⟨pt_m0, pt_m1 ⟨by show Int.ofNat (rd_n k) ≤ r 393; rw [ej]; exact Int.le_refl _, by show r 393 ≤ Int.ofNat (rd_n k); rw [ej]; exact Int.le_refl _⟩, pt_m0⟩ ⟨fun _ => ?_, trivial⟩
    show P (83, 0, 0) _ [gz_n 1] r M0
    exact gb_iret (r := r) h (by rw [fr 0 (by omega), h00]) (Or.inr rfl) (hz1 r fr al)
  | succ d ih =>
    intro j r hj ej fr al
    have rows2 := List.all_eq_true.mp (List.all_eq_true.mp gb_i_c2 k (List.mem_range.mpr hk)) j (List.mem_range.mpr (by omega))
    have l1 := List.all_eq_true.mp (List.all_eq_true.mp gb_i_l.1 k (List.mem_range.mpr hk)) j (List.mem_range.mpr (by omega))
    rw [Bool.and_eq_true] at rows2
    obtain ⟨e1, e2⟩ := rows2
    refine hSL 45 333 k _ [wa_i 393] r M0 hk w1 d2 (by decide +kernel) ?_
    have en : Int.ofNat (rd_n k) = ((rd_n k : Nat) : Int) := rfl
    refine hseg _ _ _ _ _ r M0 _ _ _ _ _ c3 ⟨pt_m0, pt_m1 ⟨by show (0 : Int) ≤ r 393; omega, by show r 393 ≤ Int.ofNat (rd_n k) - 1; omega⟩, pt_m0⟩ ⟨fun _ => ?_, trivial⟩
    show P (53, 0, 0) (gb_iB k) (.inl (393, 0) :: rd_ref (k + 1) :: []) r M0
    refine hSC 53 337 k j (393, 0) _ [] r M0 hk (by omega) (by show r 393 + 0 = _; omega) w2 d3 (by decide +kernel) ?_
    refine hseg _ _ _ _ _ r M0 _ _ _ _ _ e1 ⟨pt_m0, pt_m0, pt_m0⟩ ⟨fun _ => ?_, trivial⟩
    obtain ⟨r1, hr1⟩ : ∃ r1, r1 = pt_up r [(472, [(0, 81, 0), (0, 393, 0), (2, 0, 0)])] := ⟨_, rfl⟩
    show P (66, 0, 0) (gb_iB k) [wa_i 472, wa_r 285, .inl (0, ps_ch k j)] (pt_up r [(472, [(0, 81, 0), (0, 393, 0), (2, 0, 0)])]) M0
    rw [← hr1]
    have n1 : ∀ t, t ≠ 472 → r1 t = r t := fun t ht => by
      rw [hr1]
      exact if_neg ht
    have b := t2.1
    have s1 : r1 472 = ((s + j : Nat) : Int) := by
      rw [hr1]
      show ai_op 0 (r 81) (r 393) = _
      rw [fr _ (by omega), hs, ej, wq_o0 (by omega) (by omega)]
      omega
    refine hld (66, 0, 0) _ [.inl (0, ps_ch k j)] r1 M0 285 200 471 (s + j) (472, 0) l1 (by omega) (by show r1 472 + 0 = _; omega) ?_
    rw [t3 _ (by omega)]
    obtain ⟨r2, hr2⟩ : ∃ r2, r2 = pt_set r1 471 (A (s + j)) := ⟨_, rfl⟩
    rw [← hr2]
    have n2 : ∀ t, t ≠ 471 → r2 t = r1 t := fun t ht => by
      rw [hr2]
      exact if_neg ht
    have s2 : r2 471 = A (s + j) := by
      rw [hr2]
      exact gz_sset
    have a2 : r2 393 = (j : Int) := by rw [n2 _ (by omega), n1 _ (by omega), ej]
    have fr2 : ∀ t, t < 391 → r2 t = r0 t := fun t ht => by rw [n2 t (by omega), n1 t (by omega), fr t ht]
    refine hseg _ _ _ _ _ r2 M0 _ _ _ _ _ e2 ⟨pt_m0, pt_m1 ⟨by show (0 : Int) ≤ r2 393; omega, by show r2 393 ≤ (6 : Int); omega⟩, pt_m0⟩ ⟨fun g => ?_, fun g => ?_, trivial⟩
    · have g1 : r2 471 ≠ ps_ch k j := g.1
      show P (83, 0, 0) _ [gz_n 0] r2 M0
      exact gb_iret (r := r2) h (by rw [fr2 0 (by omega), h00]) (Or.inl rfl) (hz0 r2 fr2 (fun w => g1 (by rw [s2]; exact w j (by omega))))
    · have g1 : ps_ch k j ≤ r2 471 := g.1
      have g2 : r2 471 ≤ ps_ch k j := g.2.1
      obtain ⟨r3, hr3⟩ : ∃ r3, r3 = pt_up r2 [(393, gz_d 393 1)] := ⟨_, rfl⟩
      show P (45, 0, 0) (gb_iB k) [rd_ref (k + 1), wa_i 393] (pt_up r2 [(393, gz_d 393 1)]) M0
      rw [← hr3]
      have n3 : ∀ t, t ≠ 393 → r3 t = r2 t := fun t ht => by
        rw [hr3]
        exact if_neg ht
      refine ih (j + 1) r3 (by omega) (by rw [hr3]; show r2 393 + 1 = _; omega) (fun t ht => (n3 t (by omega)).trans (fr2 t ht)) (fun i hi => ?_)
      by_cases e : i = j
      · rw [e]
        omega
      · exact al i (by omega)
end GBI
noncomputable def gb_iP (A : Nat → Int) (N : Nat) (r : Nat → Int) (M : Nat → Nat → Int) : Prop := gb_T A N r M ∧ (r 83 = 0 → r 78 = 1 → 0 ≤ r 81 ∧ r 81 ≤ r 82 ∧ r 82 ≤ (N : Int))
noncomputable def gb_iv (A : Nat → Int) (k : Nat) (r : Nat → Int) : Int := if (r 83 = 0 ∧ r 78 = 1) ∧ ps_m A k (r 81).toNat (r 82).toNat = true then 1 else 0
theorem gb_bdB : (83, ((0 : Int), (3 : Int))) ∈ gbE.2.1 ∧ (78, ((0 : Int), (4 : Int))) ∈ gbE.2.1 ∧ (86, ((0 : Int), (400 : Int))) ∈ gbE.2.1 := by decide +kernel
theorem gb_iM {A : Nat → Int} {N n k : Nat} (hn : 4 ≤ n) (hk : k < 10) : pt_Met (n + 1) 191 gbY [wa_r 264, rd_ref (k + 1)] (gb_iP A N) (gz_pu 391 (gb_iv A k)) 1 := by
  refine pt_introS (L0 := gb_iL k wa_u wa_u) (gb_b0 191 (by decide)).2 hn gbsys (by
    rw [gb_i_l.2.2]
    rfl) (fun P r M h hSL hSC hp => ?_)
  have h' := h
  obtain ⟨hseg, henv, -⟩ := h'
  obtain ⟨⟨w1, w2⟩, ⟨d1, d2, d3⟩, n7⟩ := gb_i_w
  have rows := List.all_eq_true.mp gb_i_c1 k (List.mem_range.mpr hk)
  simp only [Bool.and_eq_true] at rows
  obtain ⟨⟨b1, b2, b3, b4⟩, c2, -, -⟩ := rows
  refine henv _ _ _ _ _ (fun hE _ => ?_)
  have h00 : r 0 = 0 := hE.1
  have bB : (0 : Int) ≤ r 83 ∧ r 83 ≤ 3 := (hE.2.2.2.1 _ gb_bdB.1).2
  have bT : (0 : Int) ≤ r 78 ∧ r 78 ≤ 4 := (hE.2.2.2.1 _ gb_bdB.2.1).2
  obtain ⟨hT, hp⟩ := hp
  have hN := hT.2.1.1
  have no : ¬ (r 83 = 0 ∧ r 78 = 1) → P (83, 0, 0) (gb_iL k wa_u wa_u) [gz_n 0] r M := fun w => gb_iret h h00 (Or.inl rfl) ⟨by
    unfold gb_iv
    rw [if_neg (fun z => w z.1)], rfl, fun _ _ => rfl⟩
  by_cases q : r 83 = 0
  · have q0 : (0 : Int) ≤ r 83 ∧ r 83 ≤ 0 := by omega
    rcases (by omega : r 78 = 0 ∨ r 78 = 1 ∨ 2 ≤ r 78) with w | w | w
    · exact hseg _ _ _ _ _ r M _ _ _ _ _ b2 ⟨pt_m0, pt_mc q0 (pt_m1 ⟨by show (0 : Int) ≤ r 78; omega, by show r 78 ≤ 0; omega⟩), pt_m0⟩ ⟨fun _ => no (by omega), trivial⟩
    · obtain ⟨p1, p2, p3⟩ := hp q w
      obtain ⟨s, hs⟩ : ∃ s : Nat, r 81 = (s : Int) := ⟨(r 81).toNat, by omega⟩
      obtain ⟨e, he⟩ : ∃ e : Nat, r 82 = (e : Int) := ⟨(r 82).toNat, by omega⟩
      have es : (r 81).toNat = s := by omega
      have ee : (r 82).toNat = e := by omega
      refine hseg _ _ _ _ _ r M _ _ _ _ _ b4 ⟨pt_m0, pt_mc q0 (pt_m1 ⟨by show (1 : Int) ≤ r 78; omega, by show r 78 ≤ 1; omega⟩), pt_m0⟩ ⟨fun _ => ?_, trivial⟩
      show P (16, 0, 0) (gb_iL k wa_u wa_u) (rd_ref (k + 1) :: []) r M
      refine hSL 16 333 k _ [] r M hk w1 d1 (by decide +kernel) ?_
      have vd : pt_v r [(0, 82, 0), (0, 81, 0), (2, 1, 0)] = (e : Int) - s := by
        show ai_op 1 (r 82) (r 81) = _
        rw [hs, he, wq_o1 (by omega) (by omega)]
      refine hseg _ _ _ _ _ r M _ _ _ _ _ c2 ⟨pt_m0, pt_m0, pt_m0⟩ ⟨fun g => ?_, fun g => ?_, trivial⟩
      · have g1 : pt_v r [(0, 82, 0), (0, 81, 0), (2, 1, 0)] ≠ Int.ofNat (rd_n k) := g.1
        rw [vd] at g1
        have en : Int.ofNat (rd_n k) = ((rd_n k : Nat) : Int) := rfl
        refine gb_iret h h00 (Or.inl rfl) ⟨?_, rfl, fun _ _ => rfl⟩
        unfold gb_iv
        rw [es, ee, if_neg (fun z => by have := (ps_m_iff.mp z.2).1; omega)]
      · have g1 : Int.ofNat (rd_n k) ≤ pt_v r [(0, 82, 0), (0, 81, 0), (2, 1, 0)] := g.1
        have g2 : pt_v r [(0, 82, 0), (0, 81, 0), (2, 1, 0)] ≤ Int.ofNat (rd_n k) := g.2.1
        rw [vd] at g1 g2
        have en : Int.ofNat (rd_n k) = ((rd_n k : Nat) : Int) := rfl
        have ed : e - s = rd_n k := by omega
        obtain ⟨r1, hr1⟩ : ∃ r1, r1 = pt_up r [(393, gz_k 0)] := ⟨_, rfl⟩
        show P (45, 0, 0) (gb_iB k) [rd_ref (k + 1), wa_i 393] (pt_up r [(393, gz_k 0)]) M
        rw [← hr1]
        have n1 : ∀ t, t ≠ 393 → r1 t = r t := fun t ht => by
          rw [hr1]
          exact if_neg ht
        refine gb_iloop (r0 := r) (M0 := M) (A := A) (N := N) h hSL hSC hk hT hs (by omega) h00 (fun r2 f2 al => ⟨?_, rfl, f2⟩) (fun r2 f2 al => ⟨?_, rfl, f2⟩) (rd_n k) 0 r1 (by omega) (by rw [hr1]; rfl) (fun t ht => n1 t (by omega)) (fun i hi => absurd hi (by omega))
        · unfold gb_iv
          rw [es, ee, if_pos ⟨⟨q, w⟩, ps_m_iff.mpr ⟨ed, al⟩⟩]
        · unfold gb_iv
          rw [es, ee, if_neg (fun z => al (ps_m_iff.mp z.2).2)]
    · exact hseg _ _ _ _ _ r M _ _ _ _ _ b3 ⟨pt_m0, pt_mc q0 (pt_m1 ⟨by show (2 : Int) ≤ r 78; omega, by show r 78 ≤ 4; omega⟩), pt_m0⟩ ⟨fun _ => no (by omega), trivial⟩
  · exact hseg _ _ _ _ _ r M _ _ _ _ _ b1 ⟨pt_m0, pt_m1 ⟨by show (1 : Int) ≤ r 83; omega, by show r 83 ≤ 3; omega⟩, pt_m0⟩ ⟨fun _ => no (by omega), trivial⟩
