/-! THE LEAST (the reference): a mill's units in their order -/
theorem zg_Ke {K : Nat} {lo hi : Nat → Nat} {C : Nat → Nat → Int} {r r1 : Nat → Int} {M : Nat → Nat → Int} (h : zg_K K lo hi C r M) (f : ∀ x, x < 727 → zg_st x → zg_nO x → r1 x = r x) : zg_K K lo hi C r1 M := by
  obtain ⟨⟨⟨h0, h4⟩, h1⟩, h2, h3⟩ := h
  refine ⟨⟨⟨?_, h4⟩, fun k hk => ?_⟩, h2, h3⟩
  · rw [f _ (by omega) (by unfold zg_st; omega) (by unfold zg_nO; omega)]
    exact h0
  · obtain ⟨⟨a, b⟩, c⟩ := h1 k hk
    refine ⟨⟨?_, ?_⟩, c⟩
    · rw [f _ (by omega) (by unfold zg_st; omega) (by unfold zg_nO; omega)]
      exact a
    · rw [f _ (by omega) (by unfold zg_st; omega) (by unfold zg_nO; omega)]
      exact b
section ZGS
variable {n m d0 left K : Nat} {lo hi : Nat → Nat} {C : Nat → Nat → Int} {F : (Nat → Int) → Bool} {b : Nat → Int} {sum : Int} {t : Nat → Int} {Z : (Nat → Int) → (Nat → Nat → Int) → Option Int → Prop} {P : pt_P} {r0 : Nat → Int} {M : Nat → Nat → Int}
theorem zg_uloop (h : pt_Cl n 217 zyY 0 Z P) (hm : m + (d0 + 1) = K) (hnx : ∀ (left : Nat) (sum : Int) (t : Nat → Int) (s : ze_S), pt_Met n 217 zyY zg_a (zg_P K lo hi C F b (m + 1) left sum t s) (zg_Q K (ze_go lo hi C F d0 (m + 1) left sum t s) (m + 1) t) 0)
    (hK : zg_K K lo hi C r0 M) (hpl : (1 ≤ r0 71 ∨ r0 72 = 0) ∧ ∀ k, k < K → r0 (133 + k) < r0 71) (hP4 : r0 71 ≤ 4) (hF : ∀ z, F z = true ↔ zr_ft (zg_pr r0 b z K)) (hV : zg_V m b t r0) (hl : left ≤ 99) (hs : 0 ≤ sum ∧ sum ≤ (m : Int) * 69993)
    (f : Nat → ze_S → ze_S) (hf : f = fun u s => ze_go lo hi C F d0 (m + 1) (left - u) (sum + C m u) (ze_up t m (u : Int)) s) (sE : ze_S)
    (hz : ∀ r2, zg_S K r2 sE → (∀ k, k < m → r2 (708 + k) = t k) → (∀ x, x < 727 → zg_st x → r2 x = r0 x) → Z r2 M none) :
    ∀ (d u : Nat) (s : ze_S) (r : Nat → Int), (u + d = 8 ∨ (8 < u ∧ d = 0)) → ze_lp f (ze_n (hi m) u left) u s = sE → (r 728 = (left : Int) ∧ r 729 = sum ∧ r 730 = (u : Int)) → (zg_S K r s ∧ zc_B s) → (∀ k, k < m → r (708 + k) = t k) → (∀ x, x < 727 → zg_st x → r x = r0 x) → P (81, 0, 0) (zg_h m) [] r M := by
  obtain ⟨hseg, henv, -, -, hld, -, -, -, hcall, -, -, -, -, hvret⟩ := h
  have hK' := hK
  obtain ⟨⟨⟨kM, k4⟩, hK1⟩, hK2, hK3⟩ := hK'
  have m4 : m < 4 := by omega
  obtain ⟨⟨-, kh⟩, k7⟩ := hK1 m (by omega)
  have row2 := List.all_eq_true.mp zg_c2 m (List.mem_range.mpr m4)
  rw [Bool.and_eq_true] at row2
  have row4 := List.all_eq_true.mp zg_c4 m (List.mem_range.mpr m4)
  have ck := List.all_eq_true.mp zg_k.1 m (List.mem_range.mpr m4)
  rw [Bool.and_eq_true, Bool.and_eq_true] at ck
  obtain ⟨ck1, ck2, ck3⟩ := ck
  have hh : ∀ {r : Nat → Int}, (∀ x, x < 727 → zg_st x → r x = r0 x) → r (704 + m) = (hi m : Int) := fun {r} fr => by
    rw [fr _ (by omega) (by unfold zg_st; omega)]
    exact kh
  have hbs : ∀ {r : Nat → Int} {u : Nat}, u ≤ 7 → (r 728 = (left : Int) ∧ r 729 = sum ∧ r 730 = (u : Int)) → (∀ x, x < 727 → zg_st x → r x = r0 x) → ∀ q ∈ zg_b m, q.2.1 ≤ r q.1 ∧ r q.1 ≤ q.2.2 := fun {r u} hu e fr q hq => by
    have a0 := hh fr
    simp only [zg_b, List.mem_cons, List.not_mem_nil, or_false] at hq
    rcases hq with rfl | rfl | rfl
    · exact ⟨by show (0 : Int) ≤ r 730; omega, by show r 730 ≤ 7; omega⟩
    · exact ⟨by show (0 : Int) ≤ r 728; omega, by show r 728 ≤ 99; omega⟩
    · exact ⟨by show (0 : Int) ≤ r (704 + m); omega, by show r (704 + m) ≤ 7; omega⟩
  have over : ∀ (u : Nat) (s : ze_S) (r : Nat → Int), hi m < u → ze_lp f (ze_n (hi m) u left) u s = sE → (r 728 = (left : Int) ∧ r 729 = sum ∧ r 730 = (u : Int)) → (zg_S K r s ∧ zc_B s) → (∀ k, k < m → r (708 + k) = t k) → (∀ x, x < 727 → zg_st x → r x = r0 x) → P (81, 0, 0) (zg_h m) [] r M := fun u s r c1 he e1 eS et fr => by
    have a0 := hh fr
    refine hseg _ _ _ _ _ r M _ _ _ _ _ row2.1 ⟨pt_m0, pt_m0, pt_m1 (by show r (704 + m) + 1 ≤ r 730 + 0; omega)⟩ ⟨fun _ => ?_, trivial⟩
    refine hvret (169, 0, 0) _ r M rfl zg_k.2.1.2.1.2 (by decide +kernel) (by decide +kernel) (hz r ?_ et fr)
    rw [← he, ze_lp_off (Or.inl c1)]
    exact eS.1
  intro d
  induction d with
  | zero => exact fun u s r hd he e1 eS et fr => over u s r (by omega) he e1 eS et fr
  | succ d ih =>
    intro u s r hd he e1 eS et fr
    by_cases c1 : hi m < u
    · exact over u s r c1 he e1 eS et fr
    have a0 := hh fr
    have u7 : u ≤ 7 := by omega
    by_cases c2 : left < u
    · refine hseg _ _ _ _ _ r M _ _ _ _ _ row2.2 ⟨pt_m0, hbs u7 e1 fr, pt_m2 (by show r 730 + 0 ≤ r (704 + m) + 0; omega) (by show r 728 + 1 ≤ r 730 + 0; omega)⟩ ⟨fun _ => ?_, trivial⟩
      refine hvret (169, 0, 0) _ r M rfl zg_k.2.1.2.1.2 (by decide +kernel) (by decide +kernel) (hz r ?_ et fr)
      rw [← he, ze_lp_off (Or.inr c2)]
      exact eS.1
    have on : ze_lp f (ze_n (hi m) u left) u s = ze_lp f (ze_n (hi m) (u + 1) left) (u + 1) (f u s) := ze_lp_on (by omega) (by omega)
    have hC := hK3 m u (by omega)
    refine henv _ _ _ _ _ (fun hE _ => ?_)
    have bA := ze_eb hE (List.all_eq_true.mp zr_bd.2.2 m (List.mem_range.mpr m4))
    obtain ⟨a, ha⟩ : ∃ a : Nat, r (133 + m) = (a : Int) := ⟨(r (133 + m)).toNat, by omega⟩
    have a4 : a < 4 := by omega
    have ha0 : r0 (133 + m) = (a : Int) := by
      rw [← fr (133 + m) (by omega) (by unfold zg_st; omega)]
      exact ha
    have row3 := List.all_eq_true.mp (List.all_eq_true.mp zg_c3 m (List.mem_range.mpr m4)) a (List.mem_range.mpr a4)
    rw [Bool.and_eq_true] at row3
    have vO := hV.1
    have fO : ∀ p, p < 4 → r (723 + p) = r0 (723 + p) := fun p hp => fr _ (by omega) (by unfold zg_st; omega)
    have du : pt_v r zg_du = ((left - u : Nat) : Int) := by
      show ai_op 1 (r 728) (r 730) = _
      rw [wq_o1 (by omega) (by omega)]
      omega
    refine hseg _ _ _ _ _ r M _ _ _ _ _ row3.1 ⟨pt_m1 ha, hbs u7 e1 fr, pt_m2 (by show r 730 + 0 ≤ r (704 + m) + 0; omega) (by show r 730 + 0 ≤ r 728 + 0; omega)⟩ ⟨fun _ => ?_, trivial⟩
    obtain ⟨r2, hr2⟩ : ∃ r2, r2 = pt_up r [(133 + m, gz_k (.ofNat a)), (708 + m, gz_p 730), (723 + a, [(0, 723 + a, 0), (0, 730, 0), (2, 0, 0)]), (808, zg_du)] := ⟨_, rfl⟩
    show P (142, 0, 0) (zg_h m) (.inl (730, .ofNat (8 * m)) :: .inr (.inr (some (some 299))) :: zg_sS m) (pt_up r [(133 + m, gz_k (.ofNat a)), (708 + m, gz_p 730), (723 + a, [(0, 723 + a, 0), (0, 730, 0), (2, 0, 0)]), (808, zg_du)]) M
    rw [← hr2]
    have vOa : -20 ≤ r0 (723 + a) ∧ r0 (723 + a) ≤ 7 * (m : Int) := (vO a a4).2 (by
      have g := hpl.2 m (by omega)
      omega)
    have so : ai_op 0 (r (723 + a)) (r 730) = r0 (723 + a) + (u : Int) := by
      rw [fO a a4, e1.2.2, wq_o0 (by omega) (by omega)]
    have v2 : ∀ x, r2 x = if x = 708 + m then (u : Int) else if x = 723 + a then r0 (723 + a) + (u : Int) else if x = 808 then ((left - u : Nat) : Int) else r x := fun x => by
      have e : r2 x = if x = 133 + m then (a : Int) else if x = 708 + m then r 730 else if x = 723 + a then ai_op 0 (r (723 + a)) (r 730) else if x = 808 then pt_v r zg_du else r x := by
        rw [hr2]
        rfl
      rw [e, so, du, e1.2.2]
      by_cases q : x = 133 + m
      · rw [if_pos q, if_neg (by omega), if_neg (by omega), if_neg (by omega), q, ha]
      · rw [if_neg q]
    refine hld (142, 0, 0) _ (zg_sS m) r2 M 299 32 809 (8 * m + u) (730, .ofNat (8 * m)) ck1 (by omega) (by show r2 730 + ((8 * m : Nat) : Int) = _; rw [v2, if_neg (by omega), if_neg (by omega), if_neg (by omega)]; omega) ?_
    rw [hK2 m (by omega) u (by omega)]
    obtain ⟨r3, hr3⟩ : ∃ r3, r3 = pt_set r2 809 (C m u) := ⟨_, rfl⟩
    show P (143, 0, 0) (zg_h m) (wa_i 809 :: zg_sS m) (pt_set r2 809 (C m u)) M
    rw [← hr3]
    have n3 : ∀ x, x ≠ 809 → r3 x = r2 x := fun x q => by
      rw [hr3]
      exact if_neg q
    have s3 : r3 809 = C m u := by
      rw [hr3]
      exact gz_sset
    refine hseg _ _ _ _ _ r3 M _ _ _ _ _ row4 ⟨pt_m0, pt_m0, pt_m0⟩ ⟨fun _ => ?_, trivial⟩
    have sc : ai_op 0 sum (C m u) = sum + C m u := wq_o0 (by omega) (by
      have : (m : Int) * 69993 ≤ 3 * 69993 := by omega
      omega)
    obtain ⟨r4, hr4⟩ : ∃ r4, r4 = pt_up r3 [(807, [(0, 729, 0), (0, 809, 0), (2, 0, 0)])] := ⟨_, rfl⟩
    show P (144, 0, 0) (zg_h m) (zg_cS m) (pt_up r3 [(807, [(0, 729, 0), (0, 809, 0), (2, 0, 0)])]) M
    rw [← hr4]
    have v4 : ∀ x, r4 x = if x = 807 then sum + C m u else r3 x := fun x => by
      have e : ai_op 0 (r3 729) (r3 809) = sum + C m u := by rw [n3 _ (by omega), v2, if_neg (by omega), if_neg (by omega), if_neg (by omega), s3, e1.2.1, sc]
      rw [hr4, ← e]
      rfl
    have f4 : ∀ x, x < 727 → x ≠ 708 + m → x ≠ 723 + a → r4 x = r x := fun x q w z => by rw [v4, if_neg (by omega), n3 _ (by omega), v2, if_neg w, if_neg z, if_neg (by omega)]
    have z4 : r4 (708 + m) = (u : Int) ∧ r4 (723 + a) = r0 (723 + a) + (u : Int) := ⟨by rw [v4, if_neg (by omega), n3 _ (by omega), v2, if_pos rfl], by rw [v4, if_neg (by omega), n3 _ (by omega), v2, if_neg (by omega), if_pos rfl]⟩
    have l4 : (r4 728 = (left : Int) ∧ r4 729 = sum ∧ r4 730 = (u : Int)) ∧ r4 808 = ((left - u : Nat) : Int) := by
      refine ⟨⟨?_, ?_, ?_⟩, ?_⟩
      · rw [v4, if_neg (by omega), n3 _ (by omega), v2, if_neg (by omega), if_neg (by omega), if_neg (by omega)]
        exact e1.1
      · rw [v4, if_neg (by omega), n3 _ (by omega), v2, if_neg (by omega), if_neg (by omega), if_neg (by omega)]
        exact e1.2.1
      · rw [v4, if_neg (by omega), n3 _ (by omega), v2, if_neg (by omega), if_neg (by omega), if_neg (by omega)]
        exact e1.2.2
      · rw [v4, if_neg (by omega), n3 _ (by omega), v2, if_neg (by omega), if_neg (by omega), if_pos rfl]
    have st4 : ∀ x, x < 727 → zg_st x → zg_nO x → r4 x = r0 x := fun x q w z => by
      rw [f4 x q (by unfold zg_st at w; omega) (by unfold zg_nO at z; omega)]
      exact fr x q w
    refine henv _ _ _ _ _ (fun hE4 _ => ?_)
    obtain ⟨r6, hr6⟩ : ∃ r6, r6 = pt_up r4 (pt_wc (zg_cA m) zg_a) := ⟨_, rfl⟩
    have v6 : ∀ x, r6 x = if x = 727 then ((m + 1 : Nat) : Int) else if x = 728 then r4 808 else if x = 729 then r4 807 else r4 x := fun x => by
      rw [hr6]
      rfl
    have f6 : ∀ x, x < 727 → r6 x = r4 x := fun x q => by rw [v6, if_neg (by omega), if_neg (by omega), if_neg (by omega)]
    have st6 : ∀ x, x < 727 → zg_st x → zg_nO x → r6 x = r0 x := fun x q w z => (f6 x q).trans (st4 x q w z)
    have up : ∀ k, k < m + 1 → r4 (708 + k) = ze_up t m (u : Int) k := fun k hk => by
      unfold ze_up
      by_cases q : k = m
      · rw [if_pos q, q]
        exact z4.1
      · rw [if_neg q, f4 _ (by omega) (by omega) (by omega)]
        exact et k (by omega)
    have pa6 : ∀ j, j < 4 → r6 (133 + j) = r0 (133 + j) := fun j hj => st6 _ (by omega) (by unfold zg_st; omega) (by unfold zg_nO; omega)
    have vO6 : ∀ p, p < 4 → r6 (723 + p) = zg_o r6 b (ze_up t m (u : Int)) (m + 1) p ∧ ((p : Int) < r6 71 → -20 ≤ r6 (723 + p) ∧ r6 (723 + p) ≤ 7 * ((m + 1 : Nat) : Int)) := fun p hp => by
      have g := vO p hp
      have ePL : r6 71 = r0 71 := st6 _ (by omega) (by unfold zg_st; omega) (by unfold zg_nO; omega)
      have eo : zg_o r6 b (ze_up t m (u : Int)) m p = zg_o r0 b t m p := zg_oe pa6 (by omega) (fun j hj => if_neg (by omega))
      have ex : zg_o r6 b (ze_up t m (u : Int)) (m + 1) p = if r6 (133 + m) = (p : Int) then zg_o r6 b (ze_up t m (u : Int)) m p + ze_up t m (u : Int) m else zg_o r6 b (ze_up t m (u : Int)) m p := rfl
      rw [ex, eo, show ze_up t m (u : Int) m = (u : Int) from if_pos rfl, pa6 m m4, ha0, ← g.1, ePL, f6 (723 + p) (by omega)]
      by_cases q : p = a
      · rw [q, if_pos rfl, z4.2]
        rw [q] at g
        refine ⟨rfl, fun w => ?_⟩
        have g2 := g.2 w
        exact ⟨by omega, by omega⟩
      · rw [if_neg (by omega), f4 _ (by omega) (by omega) (by omega), fO p hp]
        refine ⟨rfl, fun w => ?_⟩
        have g2 := g.2 w
        exact ⟨by omega, by omega⟩
    refine hcall (144, 0, 0) _ _ _ _ _ r4 M 217 0 807 _ _ zg_k.2.2.1 ck2 ck3 (hnx (left - u) (sum + C m u) (ze_up t m (u : Int)) s) (by
      rw [← hr6]
      refine ⟨⟨?_, ?_, ?_⟩, ⟨zg_Ke hK st6, ?_⟩, fun z => (hF z).trans (zg_Fe k4 hP4 st6).symm, ⟨vO6, fun k hk => (f6 _ (by omega)).trans (up k hk)⟩, ⟨⟨?_, fun k hk => ?_⟩, eS.2⟩, by omega, by omega, ?_⟩
      · rw [v6, if_pos rfl]
      · rw [v6, if_neg (by omega), if_pos rfl]
        exact l4.2
      · rw [v6, if_neg (by omega), if_neg (by omega), if_pos rfl, v4, if_pos rfl]
      · refine ⟨?_, fun k hk => ?_⟩
        · rw [st6 71 (by omega) (by unfold zg_st; omega) (by unfold zg_nO; omega), st6 72 (by omega) (by unfold zg_st; omega) (by unfold zg_nO; omega)]
          exact hpl.1
        · rw [pa6 k (by omega), st6 71 (by omega) (by unfold zg_st; omega) (by unfold zg_nO; omega)]
          exact hpl.2 k hk
      · rw [f6 _ (by omega), f4 _ (by omega) (by omega) (by omega)]
        exact eS.1.1
      · rw [f6 _ (by omega), f4 _ (by omega) (by omega) (by omega)]
        exact eS.1.2 k hk
      · omega) (fun r7 M7 o hq => ?_)
    rw [← hr6] at hq
    obtain ⟨rc, rs⟩ := wa_rm (n := n) zg_k.2.2.2
    rw [rc, rs]
    obtain ⟨rfl, q1, q2, q3, eM⟩ := hq
    rw [eM]
    obtain ⟨r8, hr8⟩ : ∃ r8, r8 = pt_mrg 727 r4 r7 807 none := ⟨_, rfl⟩
    show P (147, 0, 0) (zg_h m) [] (pt_mrg 727 r4 r7 807 none) M
    rw [← hr8]
    have lo8 : ∀ x, x < 727 → r8 x = r7 x := fun x q => by
      rw [hr8]
      exact wa_mlt q
    have l8 : ∀ x, 727 ≤ x → r8 x = r4 x := fun x q => by
      rw [hr8]
      exact if_neg (by omega)
    have g8 : ∀ x, x < 727 → zg_st x → r8 x = r4 x := fun x q w => by rw [lo8 x q, q3 x q w, f6 x q]
    have ha8 : r8 (133 + m) = (a : Int) := by
      rw [g8 _ (by omega) (by unfold zg_st; omega), f4 _ (by omega) (by omega) (by omega)]
      exact ha
    have hu8 : r8 730 = (u : Int) := (l8 _ (by omega)).trans l4.1.2.2
    have hO8 : r8 (723 + a) = r0 (723 + a) + (u : Int) := (g8 _ (by omega) (by unfold zg_st; omega)).trans z4.2
    refine hseg _ _ _ _ _ r8 M _ _ _ _ _ row3.2 ⟨pt_m1 ha8, pt_m1 ⟨by show (0 : Int) ≤ r8 730; omega, by show r8 730 ≤ 7; omega⟩, pt_m0⟩ ⟨fun _ => ?_, trivial⟩
    obtain ⟨r9, hr9⟩ : ∃ r9, r9 = pt_up r8 [(133 + m, gz_k (.ofNat a)), (723 + a, [(0, 723 + a, 0), (0, 730, 0), (2, 1, 0)]), (730, gz_d 730 1)] := ⟨_, rfl⟩
    show P (81, 0, 0) (zg_h m) [] (pt_up r8 [(133 + m, gz_k (.ofNat a)), (723 + a, [(0, 723 + a, 0), (0, 730, 0), (2, 1, 0)]), (730, gz_d 730 1)]) M
    rw [← hr9]
    have v9 : ∀ x, r9 x = if x = 723 + a then r0 (723 + a) else if x = 730 then (u : Int) + 1 else r8 x := fun x => by
      have e : r9 x = if x = 133 + m then (a : Int) else if x = 723 + a then ai_op 1 (r8 (723 + a)) (r8 730) else if x = 730 then r8 730 + 1 else r8 x := by
        rw [hr9]
        rfl
      have e2 : ai_op 1 (r8 (723 + a)) (r8 730) = r0 (723 + a) := by
        rw [hO8, hu8, wq_o1 (by omega) (by omega)]
        omega
      rw [e, e2, hu8]
      by_cases q : x = 133 + m
      · rw [if_pos q, if_neg (by omega), if_neg (by omega), q, ha8]
      · rw [if_neg q]
    have f9 : ∀ x, x < 727 → x ≠ 723 + a → r9 x = r7 x := fun x q w => by rw [v9, if_neg w, if_neg (by omega), lo8 x q]
    have hB : zc_B (ze_go lo hi C F d0 (m + 1) (left - u) (sum + C m u) (ze_up t m (u : Int)) s) := ze_bd hK3 (by omega) (by omega) eS.2
    refine ih (u + 1) (f u s) r9 (by omega) ?_ ⟨?_, ?_, ?_⟩ ⟨⟨?_, fun k hk => ?_⟩, ?_⟩ (fun k hk => ?_) (fun x q w => ?_)
    · rw [← he, on]
    · rw [v9, if_neg (by omega), if_neg (by omega), l8 _ (by omega)]
      exact l4.1.1
    · rw [v9, if_neg (by omega), if_neg (by omega), l8 _ (by omega)]
      exact l4.1.2.1
    · rw [v9, if_neg (by omega), if_pos rfl]
      omega
    · rw [f9 _ (by omega) (by omega), hf]
      exact q1.1
    · rw [f9 _ (by omega) (by omega), hf]
      exact q1.2 k hk
    · rw [hf]
      exact hB
    · rw [f9 _ (by omega) (by omega), q2 k (by omega)]
      exact if_neg (by omega)
    · by_cases z : x = 723 + a
      · rw [v9, if_pos z, z]
      · rw [f9 x q z, q3 x q w, f6 x q, f4 x q (by unfold zg_st at w; omega) z]
        exact fr x q w
end ZGS
theorem zg_st1 {n m d0 left K : Nat} {lo hi : Nat → Nat} {C : Nat → Nat → Int} {F : (Nat → Int) → Bool} {b : Nat → Int} {sum : Int} {t : Nat → Int} {s : ze_S} (hn : 4 ≤ n) (hm : m + (d0 + 1) = K) (hnx : ∀ (left : Nat) (sum : Int) (t : Nat → Int) (s : ze_S), pt_Met n 217 zyY zg_a (zg_P K lo hi C F b (m + 1) left sum t s) (zg_Q K (ze_go lo hi C F d0 (m + 1) left sum t s) (m + 1) t) 0) : pt_Met (n + 1) 217 zyY zg_a (zg_P K lo hi C F b m left sum t s) (zg_Q K (ze_go lo hi C F (d0 + 1) m left sum t s) m t) 0 := by
  refine pt_intro (L0 := [wa_r 264, wa_i 727, wa_i 728, wa_i 729, wa_u]) zg_k.2.2.1 hn zysys (by
    rw [zg_k.2.1.2.2]
    rfl) (fun P r M h hp => ?_)
  have h' := h
  obtain ⟨hseg, henv, hrel, -⟩ := h'
  obtain ⟨⟨p0, p1, p2⟩, ⟨pK, pPL⟩, pF, pV, ⟨pS, pB⟩, pl, ps⟩ := hp
  refine henv _ _ _ _ _ (fun hE _ => ?_)
  have h0 : r 0 = 0 := hE.1
  have bP := ze_eb hE zr_bd.1.2
  have kM := pK.1.1
  have m4 : m < 4 := by omega
  obtain ⟨⟨kl, -⟩, -⟩ := pK.1.2 m (by omega)
  refine hrel (0, 0, 0) _ (zg_L m wa_u) [] [] r M ⟨rfl, ⟨by show 0 < 827; omega, by show r 727 + 0 = r 0 + (m : Int); omega⟩, ⟨by show 728 < 827; omega, rfl⟩, ⟨by show 729 < 827; omega, rfl⟩, trivial, trivial⟩ trivial ?_
  refine hseg _ _ _ _ _ r M _ _ _ _ _ (List.all_eq_true.mp zg_c1 m (List.mem_range.mpr m4)) ⟨pt_m0, pt_m1 ⟨by show ((m + 1 : Nat) : Int) ≤ r 73; omega, by show r 73 ≤ 4; omega⟩, pt_m0⟩ ⟨fun _ => ?_, trivial⟩
  obtain ⟨r2, hr2⟩ : ∃ r2, r2 = pt_up r [(730, gz_p (700 + m))] := ⟨_, rfl⟩
  show P (81, 0, 0) (zg_h m) [] (pt_up r [(730, gz_p (700 + m))]) M
  rw [← hr2]
  have v2 : ∀ x, r2 x = if x = 730 then r (700 + m) else r x := fun x => by
    rw [hr2]
    rfl
  have f2 : ∀ x, x < 727 → r2 x = r x := fun x a => by rw [v2, if_neg (by omega)]
  refine zg_uloop h hm hnx pK pPL bP.2 pF pV pl ps _ rfl (ze_go lo hi C F (d0 + 1) m left sum t s) (fun r3 a b c => ⟨rfl, a, b, c, rfl⟩) (8 - lo m) (lo m) s r2 (by omega) rfl ⟨?_, ?_, ?_⟩ ⟨⟨(f2 _ (by omega)).trans pS.1, fun k hk => (f2 _ (by omega)).trans (pS.2 k hk)⟩, pB⟩ (fun k hk => (f2 _ (by omega)).trans (pV.2 k hk)) (fun x a _ => f2 x a)
  · rw [v2, if_neg (by omega)]
    exact p1
  · rw [v2, if_neg (by omega)]
    exact p2
  · rw [v2, if_pos rfl]
    exact kl
theorem zg_d {n K : Nat} {lo hi : Nat → Nat} {C : Nat → Nat → Int} {F : (Nat → Int) → Bool} {b : Nat → Int} (hn : 4 ≤ n) : ∀ {d m left : Nat} {sum : Int} {t : Nat → Int} {s : ze_S}, m + d = K → pt_Met (n + 1 + 1 + d) 217 zyY zg_a (zg_P K lo hi C F b m left sum t s) (zg_Q K (ze_go lo hi C F d m left sum t s) m t) 0
  | 0, m, left, sum, t, s, h => by
    have e : m = K := by omega
    subst e
    exact zg_0 hn
  | d + 1, m, left, sum, t, s, h => zg_st1 (n := n + 1 + 1 + d) (by omega) h (fun _ _ _ _ => zg_d hn (by omega))
