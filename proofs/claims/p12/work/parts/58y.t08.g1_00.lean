/-! TEXTS (the class): byteAt, reads, wordCode -/
noncomputable def gz_p (t : Nat) : pt_X := [(0, t, 0)]
noncomputable def gz_k (c : Int) : pt_X := [(1, 0, c)]
noncomputable def gz_d (t : Nat) (c : Int) : pt_X := [(0, t, 0), (3, 0, c)]
noncomputable def gz_n (c : Int) : ai_V := .inl (0, c)
/-- a method that changes nothing -/
noncomputable def gz_pu (NL : Nat) (v : (Nat → Int) → Int) (r : Nat → Int) (M : Nat → Nat → Int) (r2 : Nat → Int) (M2 : Nat → Nat → Int) (o : Option Int) : Prop := o = some (v r) ∧ M2 = M ∧ ∀ t, t < NL → r2 t = r t
theorem gz_mrg {NL z : Nat} {r r2 : Nat → Int} {v : Int} (hz : NL ≤ z) (h : ∀ t, t < NL → r2 t = r t) : pt_mrg NL r r2 z (some v) = pt_set r z v := by
  funext t
  unfold pt_mrg pt_set
  by_cases a : t < NL
  · rw [if_pos a, if_neg (by omega)]
    exact h t a
  · rw [if_neg a]
theorem gz_cv {n mi mj z : Nat} {Y : pt_Y} {rt : Nat} {Z : (Nat → Int) → (Nat → Nat → Int) → Option Int → Prop} {P : pt_P} (h : pt_Cl n mi Y rt Z P) {pc : Nat} {L S S' aa bb : List ai_V} {r : Nat → Int} {M : Nat → Nat → Int} {Pre : (Nat → Int) → (Nat → Nat → Int) → Prop} {v : (Nat → Int) → Int}
    (hb : ct_bud mj = (0, 0)) (hz : Y.2.2.2 ≤ z) (hpl : lh_plain mj = true) (hck : (cy_vk mi pc mj Y.2.1 S aa S' && pt_cck Y mi mj (pc, 0, 0) 1 z L S' aa bb) = true) (hM : pt_Met n mj Y bb Pre (gz_pu Y.2.2.2 v) 1) (hpre : Pre (pt_up r (pt_wc aa bb)) M) (hlow : ∀ t, t < Y.2.2.2 → pt_up r (pt_wc aa bb) t = r t)
    (k : P (pc + 3, 0, 0) L (.inl (z, 0) :: S') (pt_set r z (v (pt_up r (pt_wc aa bb)))) M) : P (pc, 0, 0) L S r M := by
  rw [Bool.and_eq_true] at hck
  obtain ⟨-, -, -, -, -, -, -, -, hcall, -⟩ := h
  refine hcall (pc, 0, 0) _ _ _ _ _ r M mj 1 z _ _ hpl hck.1 hck.2 hM hpre (fun r2 M2 o hq => ?_)
  obtain ⟨q1, q2, q3⟩ := hq
  subst q1 q2
  obtain ⟨rc, rs⟩ := wa_rm (n := n) hb
  rw [rc, rs, gz_mrg hz (fun t ht => (q3 t ht).trans (hlow t ht))]
  exact k
theorem gz_sset {r : Nat → Int} {z : Nat} {v : Int} : pt_set r z v z = v := if_pos rfl
theorem ga_b0 : ∀ q ∈ [88, 89, 90, 91, 92, 93, 94, 95, 96, 97, 98, 99, 102, 103, 107, 108, 109, 110], ct_bud q = (0, 0) ∧ lh_plain q = true := by decide +kernel
/-- the text that lies on the tape -/
noncomputable def ga_T (A : Nat → Int) (n : Nat) (r : Nat → Int) (M : Nat → Nat → Int) : Prop := r 39 = (n : Int) ∧ ps_A A n ∧ ∀ j, j < n → M 86 j = A j
theorem ga_b_c : pt_row gaY 102 [24, 29] true (0, 0, 0) [wa_r 84, wa_i 392] [] [] [(392, (0, 199))] [((392, 1), (39, 0))] [] [((24, 0, 0), ([wa_r 84, wa_i 392], [wa_i 392, wa_r 86]), [], [])] = true ∧
    pt_row gaY 102 [24, 29] true (0, 0, 0) [wa_r 84, wa_i 392] [] [] [(392, (0, 200))] [((39, 0), (392, 0))] [] [((29, 0, 0), ([wa_r 84, wa_i 392], [gz_n (-1)]), [], [])] = true ∧
    pt_row gaY 102 [29] false (25, 0, 0) [wa_r 84, wa_i 392] [wa_i 471] [] [] [] [] [((29, 0, 0), ([wa_r 84, wa_i 392], [wa_i 471]), [], [])] = true := by decide +kernel
theorem ga_b_l : pt_lck gaY 102 24 1 86 200 0 471 [wa_r 84, wa_i 392] [] = true ∧ pt_is 5 102 29 = true ∧ (ct_mt 102).2.2.1 = 2 := by decide +kernel
theorem ga_bM {A : Nat → Int} {N n : Nat} (hn : 4 ≤ n) : pt_Met (n + 1) 102 gaY [wa_r 84, wa_i 392] (fun r M => ga_T A N r M ∧ 0 ≤ r 392 ∧ r 392 ≤ 200) (gz_pu 391 (fun r => ps_b A N (r 392).toNat)) 1 := by
  refine pt_intro (L0 := [wa_r 84, wa_i 392]) (ga_b0 102 (by decide)).2 hn gasys (by
    rw [ga_b_l.2.2]
    rfl) (fun P r M h hp => ?_)
  obtain ⟨hseg, henv, -, -, hld, -, -, -, -, -, hret, -, -, -⟩ := h
  obtain ⟨⟨t1, ⟨t2, t3⟩, t4⟩, a1, a2⟩ := hp
  obtain ⟨i, hi⟩ : ∃ i : Nat, r 392 = (i : Int) := ⟨(r 392).toNat, by omega⟩
  have ei : (r 392).toNat = i := by omega
  by_cases c : i < N
  · refine hseg _ _ _ _ _ r M _ _ _ _ _ ga_b_c.1 ⟨pt_m0, pt_m1 ⟨by show (0 : Int) ≤ r 392; omega, by show r 392 ≤ (199 : Int); omega⟩, pt_m1 (by show r 392 + 1 ≤ r 39 + 0; omega)⟩ ⟨fun _ => ?_, trivial⟩
    show P (24, 0, 0) [wa_r 84, wa_i 392] [wa_i 392, wa_r 86] r M
    refine hld (24, 0, 0) _ [] r M 86 200 471 i (392, 0) ga_b_l.1 (by omega) (by show r 392 + 0 = _; omega) ?_
    obtain ⟨r1, hr1⟩ : ∃ r1, r1 = pt_set r 471 (M 86 i) := ⟨_, rfl⟩
    rw [← hr1]
    refine hseg _ _ _ _ _ r1 M _ _ _ _ _ ga_b_c.2.2 ⟨pt_m0, pt_m0, pt_m0⟩ ⟨fun _ => ?_, trivial⟩
    show P (29, 0, 0) [wa_r 84, wa_i 392] [wa_i 471] r1 M
    refine hret (29, 0, 0) _ (471, 0) r1 M rfl ga_b_l.2.1 (by decide +kernel) (by decide +kernel) ⟨?_, rfl, fun t ht => ?_⟩
    · refine congrArg some ?_
      show r1 471 + 0 = ps_b A N (r 392).toNat
      rw [hr1, gz_sset, ei, ps_b_lt c, t4 i c, Int.add_zero]
    · rw [hr1]
      exact if_neg (by omega)
  · refine henv _ _ _ _ _ (fun hE _ => ?_)
    refine hseg _ _ _ _ _ r M _ _ _ _ _ ga_b_c.2.1 ⟨pt_m0, pt_m1 ⟨by show (0 : Int) ≤ r 392; omega, by show r 392 ≤ (200 : Int); omega⟩, pt_m1 (by show r 39 + 0 ≤ r 392 + 0; omega)⟩ ⟨fun _ => ?_, trivial⟩
    show P (29, 0, 0) [wa_r 84, wa_i 392] [gz_n (-1)] r M
    refine hret (29, 0, 0) _ (0, -1) r M rfl ga_b_l.2.1 (by decide +kernel) (by decide +kernel) ⟨?_, rfl, fun t ht => rfl⟩
    refine congrArg some ?_
    show r 0 + -1 = ps_b A N (r 392).toNat
    rw [hE.1, ei, ps_b_ge (by omega)]
    rfl
/-- a call of byteAt with next -/
theorem ga_bcall {n mi : Nat} {rt : Nat} {Z : (Nat → Int) → (Nat → Nat → Int) → Option Int → Prop} {P : pt_P} (h : pt_Cl (n + 1) mi gaY rt Z P) (hn : 4 ≤ n) {pc : Nat} {L S' : List ai_V} {r : Nat → Int} {M : Nat → Nat → Int} {A : Nat → Int} {N i : Nat}
    (hck : (cy_vk mi pc 102 gaY.2.1 (wa_i 40 :: wa_r 84 :: S') [wa_r 84, wa_i 40] S' && pt_cck gaY mi 102 (pc, 0, 0) 1 471 L S' [wa_r 84, wa_i 40] [wa_r 84, wa_i 392]) = true) (hT : ga_T A N r M) (hi : r 40 = (i : Int)) (h2 : i ≤ 200)
    (k : P (pc + 3, 0, 0) L (wa_i 471 :: S') (pt_set r 471 (ps_b A N i)) M) : P (pc, 0, 0) L (wa_i 40 :: wa_r 84 :: S') r M := by
  obtain ⟨rc, hrc⟩ : ∃ rc, rc = pt_up r (pt_wc [wa_r 84, wa_i 40] [wa_r 84, wa_i 392]) := ⟨_, rfl⟩
  have rcv : ∀ t, rc t = if t = 392 then r 40 else r t := fun t => by
    rw [hrc]
    rfl
  have rcl : ∀ t, t < 391 → rc t = r t := fun t ht => by rw [rcv, if_neg (by omega)]
  have a1 : rc 392 = (i : Int) := by rw [rcv, if_pos rfl, hi]
  obtain ⟨t1, t2, t3⟩ := hT
  refine gz_cv h (ga_b0 102 (by decide)).1 (show 391 ≤ 471 by omega) (ga_b0 102 (by decide)).2 hck (ga_bM (A := A) (N := N) hn) ?_ (fun t ht => ?_) ?_
  · rw [← hrc]
    exact ⟨⟨(rcl _ (by omega)).trans t1, t2, t3⟩, by omega, by omega⟩
  · rw [← hrc]
    exact rcl t ht
  · rw [← hrc, a1]
    exact k
noncomputable def ga_rL (k : Nat) (u : ai_V) : List ai_V := [wa_r 84, rd_ref (k + 1), u]
theorem ga_r_c1 : (List.range 10).all (fun k => pt_row gaY 110 [18, 34] true (0, 0, 0) (ga_rL k wa_u) [] [] [] [] [] [((18, 0, 0), (ga_rL k wa_u, [rd_ref (k + 1)]), [], [])] &&
    (pt_row gaY 110 [34, 37] false (21, 0, 0) (ga_rL k wa_u) [.inl (0, .ofNat (rd_n k))] [] [] [] [] [((37, 0, 0), (ga_rL k (wa_i 393), []), [(393, gz_k 0)], [(0, gz_k (.ofNat (rd_n k)), [(0, 40, 0), (0, 41, 0), (2, 1, 0)]), (0, [(0, 40, 0), (0, 41, 0), (2, 1, 0)], gz_k (.ofNat (rd_n k)))]), ((34, 0, 0), (ga_rL k wa_u, [wa_k 0]), [], [(1, [(0, 40, 0), (0, 41, 0), (2, 1, 0)], gz_k (.ofNat (rd_n k)))])] &&
    (pt_row gaY 110 [39] true (37, 0, 0) (ga_rL k (wa_i 393)) [] [] [] [] [] [((39, 0, 0), (ga_rL k (wa_i 393), [rd_ref (k + 1), wa_i 393]), [], [])] &&
    (pt_row gaY 110 [55, 73] false (42, 0, 0) (ga_rL k (wa_i 393)) [.inl (0, .ofNat (rd_n k)), wa_i 393] [] [(393, (0, .ofNat (rd_n k) - 1))] [] [] [((55, 0, 0), (ga_rL k (wa_i 393), [wa_i 472, wa_r 86]), [(472, [(0, 41, 0), (0, 393, 0), (2, 0, 0)])], [])] &&
    (pt_row gaY 110 [55, 73] false (42, 0, 0) (ga_rL k (wa_i 393)) [.inl (0, .ofNat (rd_n k)), wa_i 393] [] [(393, (.ofNat (rd_n k), .ofNat (rd_n k)))] [] [] [((73, 0, 0), (ga_rL k (wa_i 393), [wa_k 1]), [], [])] &&
    pt_row gaY 110 [58] false (56, 0, 0) (ga_rL k (wa_i 393)) [wa_i 471] [] [] [] [] [((58, 0, 0), (ga_rL k (wa_i 393), [wa_i 393, rd_ref (k + 1), wa_i 471]), [], [])]))))) = true := by decide +kernel
theorem ga_r_c2 : (List.range 10).all (fun k => (List.range (rd_n k)).all (fun j => pt_row gaY 110 [37, 65] false (61, 0, 0) (ga_rL k (wa_i 393)) [.inl (0, ps_ch k j), wa_i 471] [] [(393, (0, 6))] [] [] [((37, 0, 0), (ga_rL k (wa_i 393), []), [(393, gz_d 393 1)], [(0, gz_k (ps_ch k j), gz_p 471), (0, gz_p 471, gz_k (ps_ch k j))]), ((65, 0, 0), (ga_rL k (wa_i 393), [wa_k 0]), [], [(1, gz_p 471, gz_k (ps_ch k j))])])) = true := by decide +kernel
theorem ga_r_l : (List.range 10).all (fun k => pt_lck gaY 110 55 1 86 200 0 471 (ga_rL k (wa_i 393)) []) = true ∧ pt_is 8 110 34 = true ∧ pt_is 8 110 65 = true ∧ pt_is 8 110 73 = true ∧ (ct_mt 110).2.2.1 = 3 := by decide +kernel
theorem ga_r_w : (Cond.methodLink (ct_mt 110).1.cls 142 sr_yLen.1 ∈ ft_W ∧ Cond.methodLink (ct_mt 110).1.cls 146 sr_yChar.1 ∈ ft_W) ∧ (decode (ct_mt 110).2.1 18 = .ok (.invokevirtual 142, 3) ∧ decode (ct_mt 110).2.1 39 = .ok (.invokevirtual 142, 3) ∧ decode (ct_mt 110).2.1 58 = .ok (.invokevirtual 146, 3)) ∧ ∀ k, k < 10 → rd_n k ≤ 7 := by
  refine ⟨⟨by rw [rd_dc.2.2.2]; exact sr_at 4 rfl, by rw [rd_dc.2.2.2]; exact sr_at 5 rfl⟩, ⟨rd_dc.1, rd_dc.2.1, rd_dc.2.2.1⟩, rd_N.2.2.2.2.2⟩
section GAR
variable {n : Nat} {Z : (Nat → Int) → (Nat → Nat → Int) → Option Int → Prop} {P : pt_P} {r0 : Nat → Int} {M0 : Nat → Nat → Int} {A : Nat → Int} {N k s : Nat}
theorem ga_rloop (h : pt_Cl n 110 gaY 1 Z P) (hSL : ps_SL 110 P) (hSC : ps_SC 110 P) (hk : k < 10) (hT : ga_T A N r0 M0) (hs : r0 41 = (s : Int)) (hsN : s + rd_n k ≤ N) (h00 : r0 0 = 0)
    (hz1 : ∀ r2, (∀ t, t < 391 → r2 t = r0 t) → (∀ i, i < rd_n k → A (s + i) = ps_ch k i) → Z r2 M0 (some 1))
    (hz0 : ∀ r2, (∀ t, t < 391 → r2 t = r0 t) → (¬ ∀ i, i < rd_n k → A (s + i) = ps_ch k i) → Z r2 M0 (some 0)) :
    ∀ (d j : Nat) (r : Nat → Int), j + d = rd_n k → r 393 = (j : Int) → (∀ t, t < 391 → r t = r0 t) → (∀ i, i < j → A (s + i) = ps_ch k i) → P (37, 0, 0) (ga_rL k (wa_i 393)) [] r M0 := by
  obtain ⟨hseg, henv, -, -, hld, -, -, -, -, -, -, hret8, -⟩ := h
  obtain ⟨⟨w1, w2⟩, ⟨d1, d2, d3⟩, n7⟩ := ga_r_w
  have rows := List.all_eq_true.mp ga_r_c1 k (List.mem_range.mpr hk)
  simp only [Bool.and_eq_true] at rows
  obtain ⟨c1, c2, c3, c4, c5, c6⟩ := rows
  have l1 := List.all_eq_true.mp ga_r_l.1 k (List.mem_range.mpr hk)
  obtain ⟨t1, t2, t3⟩ := hT
  have k7 := n7 k hk
  intro d
  induction d with
  | zero =>
    intro j r hj ej fr al
    have hj : j = rd_n k := by omega
    subst hj
    refine hseg _ _ _ _ _ r M0 _ _ _ _ _ c3 ⟨pt_m0, pt_m0, pt_m0⟩ ⟨fun _ => ?_, trivial⟩
    show P (39, 0, 0) (ga_rL k (wa_i 393)) (rd_ref (k + 1) :: [wa_i 393]) r M0
    refine hSL 39 142 k _ [wa_i 393] r M0 hk w1 d2 (by decide +kernel) ?_
    refine hseg _ _ _ _ _ r M0 _ _ _ _ _ c5 ⟨pt_m0, pt_m1 ⟨by show Int.ofNat (rd_n k) ≤ r 393; rw [ej]; exact Int.le_refl _, by show r 393 ≤ Int.ofNat (rd_n k); rw [ej]; exact Int.le_refl _⟩, pt_m0⟩ ⟨fun _ => ?_, trivial⟩
    show P (73, 0, 0) (ga_rL k (wa_i 393)) [wa_k 1] r M0
    have ev : ai_vx r (0, .ofNat 1) = 1 := by
      show r 0 + 1 = 1
      rw [fr 0 (by omega), h00]
      rfl
    refine hret8 (73, 0, 0) _ (0, .ofNat 1) r M0 rfl ga_r_l.2.2.2.1 (by decide +kernel) (by decide +kernel) (Or.inr ev) ?_
    rw [ev]
    exact hz1 r fr al
  | succ d ih =>
    intro j r hj ej fr al
    have rows2 := List.all_eq_true.mp (List.all_eq_true.mp ga_r_c2 k (List.mem_range.mpr hk)) j (List.mem_range.mpr (by omega))
    refine hseg _ _ _ _ _ r M0 _ _ _ _ _ c3 ⟨pt_m0, pt_m0, pt_m0⟩ ⟨fun _ => ?_, trivial⟩
    show P (39, 0, 0) (ga_rL k (wa_i 393)) (rd_ref (k + 1) :: [wa_i 393]) r M0
    refine hSL 39 142 k _ [wa_i 393] r M0 hk w1 d2 (by decide +kernel) ?_
    have en : Int.ofNat (rd_n k) = ((rd_n k : Nat) : Int) := rfl
    refine hseg _ _ _ _ _ r M0 _ _ _ _ _ c4 ⟨pt_m0, pt_m1 ⟨by show (0 : Int) ≤ r 393; omega, by show r 393 ≤ Int.ofNat (rd_n k) - 1; omega⟩, pt_m0⟩ ⟨fun _ => ?_, trivial⟩
    obtain ⟨r1, hr1⟩ : ∃ r1, r1 = pt_up r [(472, [(0, 41, 0), (0, 393, 0), (2, 0, 0)])] := ⟨_, rfl⟩
    show P (55, 0, 0) (ga_rL k (wa_i 393)) [wa_i 472, wa_r 86] (pt_up r [(472, [(0, 41, 0), (0, 393, 0), (2, 0, 0)])]) M0
    rw [← hr1]
    have n1 : ∀ t, t ≠ 472 → r1 t = r t := fun t ht => by
      rw [hr1]
      exact if_neg ht
    have b := t2.1
    have s1 : r1 472 = ((s + j : Nat) : Int) := by
      rw [hr1]
      show ai_op 0 (r 41) (r 393) = _
      rw [fr _ (by omega), hs, ej, wq_o0 (by omega) (by omega)]
      omega
    refine hld (55, 0, 0) _ [] r1 M0 86 200 471 (s + j) (472, 0) l1 (by omega) (by show r1 472 + 0 = _; omega) ?_
    rw [t3 _ (by omega)]
    obtain ⟨r2, hr2⟩ : ∃ r2, r2 = pt_set r1 471 (A (s + j)) := ⟨_, rfl⟩
    rw [← hr2]
    have n2 : ∀ t, t ≠ 471 → r2 t = r1 t := fun t ht => by
      rw [hr2]
      exact if_neg ht
    have s2 : r2 471 = A (s + j) := by
      rw [hr2]
      exact gz_sset
    have a2 : r2 393 = (j : Int) := by rw [n2 _ (by omega), n1 _ (by omega), ej]
    have fr2 : ∀ t, t < 391 → r2 t = r0 t := fun t ht => by rw [n2 t (by omega), n1 t (by omega), fr t ht]
    refine hseg _ _ _ _ _ r2 M0 _ _ _ _ _ c6 ⟨pt_m0, pt_m0, pt_m0⟩ ⟨fun _ => ?_, trivial⟩
    show P (58, 0, 0) (ga_rL k (wa_i 393)) (.inl (393, 0) :: rd_ref (k + 1) :: [wa_i 471]) r2 M0
    refine hSC 58 146 k j (393, 0) _ [wa_i 471] r2 M0 hk (by omega) (by show r2 393 + 0 = _; omega) w2 d3 (by decide +kernel) ?_
    refine hseg _ _ _ _ _ r2 M0 _ _ _ _ _ rows2 ⟨pt_m0, pt_m1 ⟨by show (0 : Int) ≤ r2 393; omega, by show r2 393 ≤ (6 : Int); omega⟩, pt_m0⟩ ⟨fun g => ?_, fun g => ?_, trivial⟩
    · have g1 : ps_ch k j ≤ r2 471 := g.1
      have g2 : r2 471 ≤ ps_ch k j := g.2.1
      obtain ⟨r3, hr3⟩ : ∃ r3, r3 = pt_up r2 [(393, gz_d 393 1)] := ⟨_, rfl⟩
      show P (37, 0, 0) (ga_rL k (wa_i 393)) [] (pt_up r2 [(393, gz_d 393 1)]) M0
      rw [← hr3]
      have n3 : ∀ t, t ≠ 393 → r3 t = r2 t := fun t ht => by
        rw [hr3]
        exact if_neg ht
      refine ih (j + 1) r3 (by omega) (by rw [hr3]; show r2 393 + 1 = _; omega) (fun t ht => (n3 t (by omega)).trans (fr2 t ht)) (fun i hi => ?_)
      by_cases e : i = j
      · rw [e]
        omega
      · exact al i (by omega)
    · have g1 : r2 471 ≠ ps_ch k j := g.1
      show P (65, 0, 0) (ga_rL k (wa_i 393)) [wa_k 0] r2 M0
      have ev : ai_vx r2 (0, .ofNat 0) = 0 := by
        show r2 0 + 0 = 0
        rw [fr2 0 (by omega), h00]
        rfl
      refine hret8 (65, 0, 0) _ (0, .ofNat 0) r2 M0 rfl ga_r_l.2.2.1 (by decide +kernel) (by decide +kernel) (Or.inl ev) ?_
      rw [ev]
      exact hz0 r2 fr2 (fun w => g1 (by rw [s2]; exact w j (by omega)))
end GAR
theorem ps_m_iff {A : Nat → Int} {k s e : Nat} : ps_m A k s e = true ↔ (e - s = rd_n k ∧ ∀ i, i < rd_n k → A (s + i) = ps_ch k i) := by
  unfold ps_m
  rw [Bool.and_eq_true, decide_eq_true_eq, List.all_eq_true]
  exact ⟨fun h => ⟨h.1, fun i hi => of_decide_eq_true (h.2 i (List.mem_range.mpr hi))⟩, fun h => ⟨h.1, fun i hi => decide_eq_true (h.2 i (List.mem_range.mp hi))⟩⟩
noncomputable def ga_rP (A : Nat → Int) (N : Nat) (r : Nat → Int) (M : Nat → Nat → Int) : Prop := ga_T A N r M ∧ 0 ≤ r 41 ∧ r 41 ≤ r 40 ∧ r 40 ≤ (N : Int)
theorem ga_rM {A : Nat → Int} {N n k : Nat} (hn : 4 ≤ n) (hk : k < 10) : pt_Met (n + 1) 110 gaY [wa_r 84, rd_ref (k + 1)] (ga_rP A N) (gz_pu 391 (fun r => if ps_m A k (r 41).toNat (r 40).toNat = true then 1 else 0)) 1 := by
  refine pt_introS (L0 := ga_rL k wa_u) (ga_b0 110 (by decide)).2 hn gasys (by
    rw [ga_r_l.2.2.2.2]
    rfl) (fun P r M h hSL hSC hp => ?_)
  have h' := h
  obtain ⟨hseg, henv, -, -, hld, -, -, -, -, -, -, hret8, -⟩ := h'
  obtain ⟨⟨w1, w2⟩, ⟨d1, d2, d3⟩, n7⟩ := ga_r_w
  have rows := List.all_eq_true.mp ga_r_c1 k (List.mem_range.mpr hk)
  simp only [Bool.and_eq_true] at rows
  obtain ⟨c1, c2, c3, c4, c5, c6⟩ := rows
  refine henv _ _ _ _ _ (fun hE _ => ?_)
  have h00 : r 0 = 0 := hE.1
  obtain ⟨hT, p1, p2, p3⟩ := hp
  have hN := hT.2.1.1
  obtain ⟨s, hs⟩ : ∃ s : Nat, r 41 = (s : Int) := ⟨(r 41).toNat, by omega⟩
  obtain ⟨e, he⟩ : ∃ e : Nat, r 40 = (e : Int) := ⟨(r 40).toNat, by omega⟩
  have es : (r 41).toNat = s := by omega
  have ee : (r 40).toNat = e := by omega
  refine hseg _ _ _ _ _ r M _ _ _ _ _ c1 ⟨pt_m0, pt_m0, pt_m0⟩ ⟨fun _ => ?_, trivial⟩
  show P (18, 0, 0) (ga_rL k wa_u) (rd_ref (k + 1) :: []) r M
  refine hSL 18 142 k _ [] r M hk w1 d1 (by decide +kernel) ?_
  have vd : pt_v r [(0, 40, 0), (0, 41, 0), (2, 1, 0)] = (e : Int) - s := by
    show ai_op 1 (r 40) (r 41) = _
    rw [hs, he, wq_o1 (by omega) (by omega)]
  refine hseg _ _ _ _ _ r M _ _ _ _ _ c2 ⟨pt_m0, pt_m0, pt_m0⟩ ⟨fun g => ?_, fun g => ?_, trivial⟩
  · have g1 : Int.ofNat (rd_n k) ≤ pt_v r [(0, 40, 0), (0, 41, 0), (2, 1, 0)] := g.1
    have g2 : pt_v r [(0, 40, 0), (0, 41, 0), (2, 1, 0)] ≤ Int.ofNat (rd_n k) := g.2.1
    rw [vd] at g1 g2
    have en : Int.ofNat (rd_n k) = ((rd_n k : Nat) : Int) := rfl
    have ed : e - s = rd_n k := by omega
    obtain ⟨r1, hr1⟩ : ∃ r1, r1 = pt_up r [(393, gz_k 0)] := ⟨_, rfl⟩
    show P (37, 0, 0) (ga_rL k (wa_i 393)) [] (pt_up r [(393, gz_k 0)]) M
    rw [← hr1]
    have n1 : ∀ t, t ≠ 393 → r1 t = r t := fun t ht => by
      rw [hr1]
      exact if_neg ht
    refine ga_rloop (r0 := r) (M0 := M) (A := A) (N := N) h hSL hSC hk hT hs (by omega) h00 (fun r2 f2 al => ⟨?_, rfl, f2⟩) (fun r2 f2 al => ⟨?_, rfl, f2⟩) (rd_n k) 0 r1 (by omega) (by rw [hr1]; rfl) (fun t ht => n1 t (by omega)) (fun i hi => absurd hi (by omega))
    · dsimp only
      rw [es, ee, if_pos (ps_m_iff.mpr ⟨ed, al⟩)]
    · dsimp only
      rw [es, ee, if_neg (fun w => al (ps_m_iff.mp w).2)]
  · have g1 : pt_v r [(0, 40, 0), (0, 41, 0), (2, 1, 0)] ≠ Int.ofNat (rd_n k) := g.1
    rw [vd] at g1
    have en : Int.ofNat (rd_n k) = ((rd_n k : Nat) : Int) := rfl
    show P (34, 0, 0) (ga_rL k wa_u) [wa_k 0] r M
    have ev : ai_vx r (0, .ofNat 0) = 0 := by
      show r 0 + 0 = 0
      rw [h00]
      rfl
    refine hret8 (34, 0, 0) _ (0, .ofNat 0) r M rfl ga_r_l.2.1 (by decide +kernel) (by decide +kernel) (Or.inl ev) ⟨?_, rfl, fun t ht => rfl⟩
    dsimp only
    rw [ev, es, ee, if_neg (fun w => by have := (ps_m_iff.mp w).1; omega)]
