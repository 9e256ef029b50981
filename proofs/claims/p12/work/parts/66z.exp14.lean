/-! THE LEAST (the class): a mill's units in their order -/
theorem zc_rxv {r : Nat → Int} {hi : Nat → Nat} (h : ∀ k, k < 4 → r (558 + k) = (hi k : Int) ∧ hi k ≤ 7) : ∀ m, m < 4 → pt_v r (zc_rx m) = (ze_sm hi (3 - m) (m + 1) : Int) := fun m hm => by
  have a1 := h 1 (by omega)
  have a2 := h 2 (by omega)
  have a3 := h 3 (by omega)
  rcases (by omega : m = 0 ∨ m = 1 ∨ m = 2 ∨ m = 3) with rfl | rfl | rfl | rfl
  · show ai_op 0 (ai_op 0 (r (558 + 1)) (r (558 + 2))) (r (558 + 3)) = ((hi 1 + (hi 2 + (hi 3 + 0)) : Nat) : Int)
    rw [wq_o0 (x := r (558 + 1)) (by omega) (by omega), wq_o0 (by omega) (by omega)]
    omega
  · show ai_op 0 (r (558 + 2)) (r (558 + 3)) = ((hi 2 + (hi 3 + 0) : Nat) : Int)
    rw [wq_o0 (by omega) (by omega)]
    omega
  · show r (558 + 3) = ((hi 3 + 0 : Nat) : Int)
    omega
  · rfl
section ZCS
variable {n m left : Nat} {lo hi : Nat → Nat} {C : Nat → Nat → Int} {F : (Nat → Int) → Bool} {sum : Int} {t : Nat → Int} {Z : (Nat → Int) → (Nat → Nat → Int) → Option Int → Prop} {P : pt_P} {r0 : Nat → Int} {M : Nat → Nat → Int}
theorem zc_uloop (h : pt_Cl n 9 zxY 0 Z P) (hm : m < 4) (hnx : ∀ (left : Nat) (sum : Int) (t : Nat → Int) (s : ze_S), pt_Met n 9 zxY zc_a (zc_P lo hi C F (m + 1) left sum t s) (zc_Q (ze_zc lo hi C F (3 - m) (m + 1) left sum t s) (m + 1) t) 0)
    (hK : zc_K lo hi C r0 M) (hF : ∀ z, F z = true ↔ zc_ft r0 z) (hl : left ≤ 99) (hs : 0 ≤ sum ∧ sum ≤ (m : Int) * 69993)
    (f : Nat → ze_S → ze_S) (hf : f = fun u s => if left - u ≤ ze_sm hi (3 - m) (m + 1) then ze_zc lo hi C F (3 - m) (m + 1) (left - u) (sum + C m u) (ze_up t m (u : Int)) s else s) (sE : ze_S)
    (hzz : ∀ r2, zc_S r2 sE → (∀ k, k < m → r2 (562 + k) = t k) → (∀ x, x < 727 → zc_st x → zc_nP x → r2 x = r0 x) → Z r2 M none) :
    ∀ (d u : Nat) (s : ze_S) (r : Nat → Int), u + d = 8 → ze_lp f (ze_n (hi m) u left) u s = sE → (r 728 = (left : Int) ∧ r 729 = sum ∧ r 730 = (u : Int)) → (zc_S r s ∧ zc_B s) → (∀ k, k < m → r (562 + k) = t k) → (∀ x, x < 727 → zc_st x → zc_nP x → r x = r0 x) → P (65, 0, 0) (zc_lh m) [] r M := by
  obtain ⟨hseg, henv, -, -, hld, -, -, -, hcall, -, -, -, -, hvret⟩ := h
  obtain ⟨hK1, hK2, hK3⟩ := hK
  obtain ⟨⟨-, kh⟩, klh, k7⟩ := hK1 m hm
  have row4 := List.all_eq_true.mp zc_e4 m (List.mem_range.mpr hm)
  rw [Bool.and_eq_true] at row4
  have row5 := List.all_eq_true.mp zc_e5 m (List.mem_range.mpr hm)
  have row6 := List.all_eq_true.mp zc_e6 m (List.mem_range.mpr hm)
  rw [Bool.and_eq_true] at row6
  have ck := List.all_eq_true.mp zc_ek.1 m (List.mem_range.mpr hm)
  rw [Bool.and_eq_true, Bool.and_eq_true] at ck
  obtain ⟨ck1, ck2, ck3⟩ := ck
  have hh : ∀ {r : Nat → Int}, (∀ x, x < 727 → zc_st x → zc_nP x → r x = r0 x) → ∀ k, k < 4 → r (558 + k) = (hi k : Int) ∧ hi k ≤ 7 := fun {r} fr k hk => by
    obtain ⟨⟨-, a⟩, -, b⟩ := hK1 k hk
    exact ⟨by rw [fr _ (by omega) (by unfold zc_st; omega) (by unfold zc_nP; omega)]; exact a, b⟩
  have hbs : ∀ {r : Nat → Int} {u : Nat}, u ≤ 7 → (r 728 = (left : Int) ∧ r 729 = sum ∧ r 730 = (u : Int)) → (∀ x, x < 727 → zc_st x → zc_nP x → r x = r0 x) → ∀ q ∈ zc_hb, q.2.1 ≤ r q.1 ∧ r q.1 ≤ q.2.2 := fun {r u} hu e fr q hq => by
    have a0 := hh fr 0 (by omega)
    have a1 := hh fr 1 (by omega)
    have a2 := hh fr 2 (by omega)
    have a3 := hh fr 3 (by omega)
    have a0 : r 558 = (hi 0 : Int) ∧ hi 0 ≤ 7 := a0
    simp only [zc_hb, List.mem_cons, List.not_mem_nil, or_false] at hq
    rcases hq with rfl | rfl | rfl | rfl | rfl | rfl
    · exact ⟨by show (0 : Int) ≤ r 730; omega, by show r 730 ≤ 7; omega⟩
    · exact ⟨by show (0 : Int) ≤ r 728; omega, by show r 728 ≤ 99; omega⟩
    · exact ⟨by show (0 : Int) ≤ r 558; omega, by show r 558 ≤ 7; omega⟩
    · exact ⟨by show (0 : Int) ≤ r (558 + 1); omega, by show r (558 + 1) ≤ 7; omega⟩
    · exact ⟨by show (0 : Int) ≤ r (558 + 2); omega, by show r (558 + 2) ≤ 7; omega⟩
    · exact ⟨by show (0 : Int) ≤ r (558 + 3); omega, by show r (558 + 3) ≤ 7; omega⟩
  intro d
  induction d with
  | zero =>
    intro u s r hd he e1 eS et fr
    have bH : r (558 + m) = (hi m : Int) := (hh fr m hm).1
    have off : ze_lp f (ze_n (hi m) u left) u s = s := ze_lp_off (Or.inl (by omega))
    refine hseg _ _ _ _ _ r M _ _ _ _ _ row4.1 ⟨pt_m0, pt_m2 ⟨by show (0 : Int) ≤ r 730; omega, by show r 730 ≤ 8; omega⟩ ⟨by show (0 : Int) ≤ r (558 + m); omega, by show r (558 + m) ≤ 7; omega⟩, pt_m1 (by show r (558 + m) + 1 ≤ r 730 + 0; omega)⟩ ⟨fun _ => ?_, trivial⟩
    refine hvret (142, 0, 0) _ r M rfl zc_ek.2.1.2.1.2.2 (by decide +kernel) (by decide +kernel) (hzz r ?_ et fr)
    rw [← he, off]
    exact eS.1
  | succ d ih =>
    intro u s r hd he e1 eS et fr
    have bH : r (558 + m) = (hi m : Int) := (hh fr m hm).1
    have stop : (hi m < u ∨ left < u) → zc_S r sE := fun w => by
      rw [← he, ze_lp_off w]
      exact eS.1
    by_cases c1 : hi m < u
    · refine hseg _ _ _ _ _ r M _ _ _ _ _ row4.1 ⟨pt_m0, pt_m2 ⟨by show (0 : Int) ≤ r 730; omega, by show r 730 ≤ 8; omega⟩ ⟨by show (0 : Int) ≤ r (558 + m); omega, by show r (558 + m) ≤ 7; omega⟩, pt_m1 (by show r (558 + m) + 1 ≤ r 730 + 0; omega)⟩ ⟨fun _ => ?_, trivial⟩
      exact hvret (142, 0, 0) _ r M rfl zc_ek.2.1.2.1.2.2 (by decide +kernel) (by decide +kernel) (hzz r (stop (Or.inl c1)) et fr)
    have u7 : u ≤ 7 := by omega
    by_cases c2 : left < u
    · refine hseg _ _ _ _ _ r M _ _ _ _ _ row4.2 ⟨pt_m0, hbs u7 e1 fr, pt_m2 (by show r 730 + 0 ≤ r (558 + m) + 0; omega) (by show r 728 + 1 ≤ r 730 + 0; omega)⟩ ⟨fun _ => ?_, trivial⟩
      exact hvret (142, 0, 0) _ r M rfl zc_ek.2.1.2.1.2.2 (by decide +kernel) (by decide +kernel) (hzz r (stop (Or.inr c2)) et fr)
    have on : ze_lp f (ze_n (hi m) u left) u s = ze_lp f (ze_n (hi m) (u + 1) left) (u + 1) (f u s) := ze_lp_on (by omega) (by omega)
    have hC := hK3 m u (by omega)
    have rx : pt_v r (zc_rx m) = (ze_sm hi (3 - m) (m + 1) : Int) := zc_rxv (hh fr) m hm
    have du : pt_v r zc_du = ((left - u : Nat) : Int) := by
      show ai_op 1 (r 728) (r 730) = _
      rw [wq_o1 (by omega) (by omega)]
      omega
    have du1 : pt_v r (zc_du ++ [(3, 0, -1)]) = ((left - u : Nat) : Int) + -1 := by
      rw [← du]
      rfl
    refine hseg _ _ _ _ _ r M _ _ _ _ _ row5 ⟨pt_m0, hbs u7 e1 fr, pt_m2 (by show r 730 + 0 ≤ r (558 + m) + 0; omega) (by show r 730 + 0 ≤ r 728 + 0; omega)⟩ ⟨fun g => ?_, fun g => ?_, trivial⟩
    · -- too much would be left
      have g : pt_v r (zc_rx m) ≤ pt_v r (zc_du ++ [(3, 0, -1)]) := g.1
      rw [rx, du1] at g
      have ef : f u s = s := by
        rw [hf]
        exact if_neg (by omega)
      obtain ⟨r2, hr2⟩ : ∃ r2, r2 = pt_up r [(730, gz_d 730 1)] := ⟨_, rfl⟩
      show P (65, 0, 0) (zc_lh m) [] (pt_up r [(730, gz_d 730 1)]) M
      rw [← hr2]
      have v2 : ∀ x, r2 x = if x = 730 then r 730 + 1 else r x := fun x => by
        rw [hr2]
        rfl
      have f2 : ∀ x, x < 727 → r2 x = r x := fun x a => by rw [v2, if_neg (by omega)]
      refine ih (u + 1) s r2 (by omega) ?_ ⟨by rw [v2, if_neg (by omega)]; exact e1.1, by rw [v2, if_neg (by omega)]; exact e1.2.1, by rw [v2, if_pos rfl, e1.2.2]; omega⟩ ⟨⟨(f2 _ (by omega)).trans eS.1.1, fun k hk => (f2 _ (by omega)).trans (eS.1.2 k hk)⟩, eS.2⟩ (fun k hk => (f2 _ (by omega)).trans (et k hk)) (fun x a b c => (f2 x a).trans (fr x a b c))
      rw [← he, on, ef]
    · have g : pt_v r zc_du ≤ pt_v r (zc_rx m) := g.1
      rw [rx, du] at g
      have ef : f u s = ze_zc lo hi C F (3 - m) (m + 1) (left - u) (sum + C m u) (ze_up t m (u : Int)) s := by
        rw [hf]
        exact if_pos (by omega)
      obtain ⟨r2, hr2⟩ : ∃ r2, r2 = pt_up r [(562 + m, gz_p 730), (808, zc_du)] := ⟨_, rfl⟩
      show P (131, 0, 0) (zc_lh m) (.inl (730, 0) :: .inr (.inr (some (some (91 + m)))) :: zc_sS m) (pt_up r [(562 + m, gz_p 730), (808, zc_du)]) M
      rw [← hr2]
      have v2 : ∀ x, r2 x = if x = 562 + m then r 730 else if x = 808 then ((left - u : Nat) : Int) else r x := fun x => by
        rw [hr2, ← du]
        rfl
      refine hld (131, 0, 0) _ (zc_sS m) r2 M (91 + m) 8 809 u (730, 0) ck1 (by omega) (by show r2 730 + 0 = _; rw [v2, if_neg (by omega), if_neg (by omega)]; omega) ?_
      rw [hK2 m hm u (by omega)]
      obtain ⟨r3, hr3⟩ : ∃ r3, r3 = pt_set r2 809 (C m u) := ⟨_, rfl⟩
      show P (132, 0, 0) (zc_lh m) (wa_i 809 :: zc_sS m) (pt_set r2 809 (C m u)) M
      rw [← hr3]
      have n3 : ∀ x, x ≠ 809 → r3 x = r2 x := fun x a => by
        rw [hr3]
        exact if_neg a
      have s3 : r3 809 = C m u := by
        rw [hr3]
        exact gz_sset
      refine hseg _ _ _ _ _ r3 M _ _ _ _ _ row6.1 ⟨pt_m0, pt_m0, pt_m0⟩ ⟨fun _ => ?_, trivial⟩
      have sc : ai_op 0 sum (C m u) = sum + C m u := wq_o0 (by omega) (by
        have : (m : Int) * 69993 ≤ 3 * 69993 := by omega
        omega)
      obtain ⟨r4, hr4⟩ : ∃ r4, r4 = pt_up r3 [(807, [(0, 729, 0), (0, 809, 0), (2, 0, 0)])] := ⟨_, rfl⟩
      show P (133, 0, 0) (zc_lh m) (zc_cS m) (pt_up r3 [(807, [(0, 729, 0), (0, 809, 0), (2, 0, 0)])]) M
      rw [← hr4]
      have v4 : ∀ x, r4 x = if x = 807 then sum + C m u else r3 x := fun x => by
        have e : ai_op 0 (r3 729) (r3 809) = sum + C m u := by rw [n3 _ (by omega), v2, if_neg (by omega), if_neg (by omega), s3, e1.2.1, sc]
        rw [hr4, ← e]
        rfl
      have f4 : ∀ x, x < 727 → x ≠ 562 + m → r4 x = r x := fun x a b => by rw [v4, if_neg (by omega), n3 _ (by omega), v2, if_neg b, if_neg (by omega)]
      have z4 : r4 (562 + m) = (u : Int) := by rw [v4, if_neg (by omega), n3 _ (by omega), v2, if_pos rfl, e1.2.2]
      have l4 : (r4 728 = (left : Int) ∧ r4 729 = sum ∧ r4 730 = (u : Int)) ∧ r4 808 = ((left - u : Nat) : Int) := by
        refine ⟨⟨?_, ?_, ?_⟩, ?_⟩
        · rw [v4, if_neg (by omega), n3 _ (by omega), v2, if_neg (by omega), if_neg (by omega)]
          exact e1.1
        · rw [v4, if_neg (by omega), n3 _ (by omega), v2, if_neg (by omega), if_neg (by omega)]
          exact e1.2.1
        · rw [v4, if_neg (by omega), n3 _ (by omega), v2, if_neg (by omega), if_neg (by omega)]
          exact e1.2.2
        · rw [v4, if_neg (by omega), n3 _ (by omega), v2, if_neg (by omega), if_pos rfl]
      have st4 : ∀ x, x < 727 → zc_st x → zc_nP x → r4 x = r0 x := fun x a b c => by
        rw [f4 x a (by unfold zc_st at b; omega)]
        exact fr x a b c
      refine henv _ _ _ _ _ (fun hE4 _ => ?_)
      obtain ⟨r6, hr6⟩ : ∃ r6, r6 = pt_up r4 (pt_wc (zc_cA m) zc_a) := ⟨_, rfl⟩
      have v6 : ∀ x, r6 x = if x = 727 then ((m + 1 : Nat) : Int) else if x = 728 then r4 808 else if x = 729 then r4 807 else r4 x := fun x => by
        rw [hr6]
        rfl
      have f6 : ∀ x, x < 727 → r6 x = r4 x := fun x a => by rw [v6, if_neg (by omega), if_neg (by omega), if_neg (by omega)]
      have st6 : ∀ x, x < 727 → zc_st x → zc_nP x → r6 x = r0 x := fun x a b c => (f6 x a).trans (st4 x a b c)
      have up : ∀ k, k < m + 1 → r4 (562 + k) = ze_up t m (u : Int) k := fun k hk => by
        unfold ze_up
        by_cases q : k = m
        · rw [if_pos q, q]
          exact z4
        · rw [if_neg q, f4 _ (by omega) (by omega)]
          exact et k (by omega)
      refine hcall (133, 0, 0) _ _ _ _ _ r4 M 9 0 807 _ _ zc_ek.2.2.1 ck2 ck3 (hnx (left - u) (sum + C m u) (ze_up t m (u : Int)) s) (by
        rw [← hr6]
        refine ⟨⟨?_, ?_, ?_⟩, zc_Ke ⟨hK1, hK2, hK3⟩ st6, fun z => (hF z).trans (zc_fte (fun x a => st6 x (zc_dq_ok a).1.1 (zc_dq_ok a).1.2 (zc_dq_ok a).2.1) (fun _ _ => rfl)).symm, fun k hk => (f6 _ (by omega)).trans (up k hk), ⟨⟨?_, fun k hk => ?_⟩, eS.2⟩, by omega, by omega, ?_⟩
        · rw [v6, if_pos rfl]
        · rw [v6, if_neg (by omega), if_pos rfl]
          exact l4.2
        · rw [v6, if_neg (by omega), if_neg (by omega), if_pos rfl, v4, if_pos rfl]
        · rw [f6 _ (by omega), f4 _ (by omega) (by omega)]
          exact eS.1.1
        · rw [f6 _ (by omega), f4 _ (by omega) (by omega)]
          exact eS.1.2 k hk
        · omega) (fun r7 M7 o hq => ?_)
      rw [← hr6] at hq
      obtain ⟨rc, rs⟩ := wa_rm (n := n) zc_ek.2.2.2
      rw [rc, rs]
      obtain ⟨rfl, q1, q2, q3, eM⟩ := hq
      rw [eM]
      obtain ⟨r8, hr8⟩ : ∃ r8, r8 = pt_mrg 727 r4 r7 807 none := ⟨_, rfl⟩
      show P (136, 0, 0) (zc_lh m) [] (pt_mrg 727 r4 r7 807 none) M
      rw [← hr8]
      have lo8 : ∀ x, x < 727 → r8 x = r7 x := fun x a => by
        rw [hr8]
        exact wa_mlt a
      have l8 : ∀ x, 727 ≤ x → r8 x = r4 x := fun x a => by
        rw [hr8]
        exact if_neg (by omega)
      refine hseg _ _ _ _ _ r8 M _ _ _ _ _ row6.2 ⟨pt_m0, pt_m1 ⟨by show (0 : Int) ≤ r8 730; rw [l8 _ (by omega)]; omega, by show r8 730 ≤ 7; rw [l8 _ (by omega)]; omega⟩, pt_m0⟩ ⟨fun _ => ?_, trivial⟩
      obtain ⟨r9, hr9⟩ : ∃ r9, r9 = pt_up r8 [(730, gz_d 730 1)] := ⟨_, rfl⟩
      show P (65, 0, 0) (zc_lh m) [] (pt_up r8 [(730, gz_d 730 1)]) M
      rw [← hr9]
      have v9 : ∀ x, r9 x = if x = 730 then r8 730 + 1 else r8 x := fun x => by
        rw [hr9]
        rfl
      have f9 : ∀ x, x < 727 → r9 x = r7 x := fun x a => by rw [v9, if_neg (by omega), lo8 x a]
      have hB : zc_B (ze_zc lo hi C F (3 - m) (m + 1) (left - u) (sum + C m u) (ze_up t m (u : Int)) s) := by
        rw [ze_zc_eq (fun a b c => (hK3 a b c).1)]
        exact ze_bd hK3 (by omega) (by omega) eS.2
      refine ih (u + 1) _ r9 (by omega) ?_ ⟨?_, ?_, ?_⟩ ⟨⟨(f9 _ (by omega)).trans q1.1, fun k hk => (f9 _ (by omega)).trans (q1.2 k hk)⟩, hB⟩ (fun k hk => ?_) (fun x a b c => ?_)
      · rw [← he, on, ef]
      · rw [v9, if_neg (by omega), l8 _ (by omega)]
        exact l4.1.1
      · rw [v9, if_neg (by omega), l8 _ (by omega)]
        exact l4.1.2.1
      · rw [v9, if_pos rfl, l8 _ (by omega), l4.1.2.2]
        omega
      · rw [f9 _ (by omega), q2 k (by omega)]
        exact if_neg (by omega)
      · rw [f9 x a, q3 x a b c]
        exact st6 x a b c
end ZCS
theorem zc_st1 {n m left : Nat} {lo hi : Nat → Nat} {C : Nat → Nat → Int} {F : (Nat → Int) → Bool} {sum : Int} {t : Nat → Int} {s : ze_S} (hn : 4 ≤ n) (hm : m < 4) (hnx : ∀ (left : Nat) (sum : Int) (t : Nat → Int) (s : ze_S), pt_Met n 9 zxY zc_a (zc_P lo hi C F (m + 1) left sum t s) (zc_Q (ze_zc lo hi C F (3 - m) (m + 1) left sum t s) (m + 1) t) 0) : pt_Met (n + 1) 9 zxY zc_a (zc_P lo hi C F m left sum t s) (zc_Q (ze_zc lo hi C F (4 - m) m left sum t s) m t) 0 := by
  refine pt_intro (L0 := [wa_r 87, wa_i 727, wa_i 728, wa_i 729, wa_u]) zc_ek.2.2.1 hn zxsys (by
    rw [zc_ek.2.1.2.2]
    rfl) (fun P r M h hp => ?_)
  have e4 : 4 - m = 3 - m + 1 := by omega
  rw [e4] at h
  have h' := h
  obtain ⟨hseg, henv, hrel, -, -, -, -, -, -, -, -, -, -, hvret⟩ := h'
  obtain ⟨⟨p0, p1, p2⟩, pK, pF, pt, ⟨pS, pB⟩, pl, ps⟩ := hp
  refine henv _ _ _ _ _ (fun hE _ => ?_)
  have h0 : r 0 = 0 := hE.1
  refine hrel (0, 0, 0) _ (zc_L m wa_u) [] [] r M ⟨rfl, ⟨by show 0 < 827; omega, by show r 727 + 0 = r 0 + (m : Int); omega⟩, ⟨by show 728 < 827; omega, rfl⟩, ⟨by show 729 < 827; omega, rfl⟩, trivial, trivial⟩ trivial ?_
  have eb : r 46 = s.1 := pS.1
  by_cases w : s.1 ≠ -1 ∧ s.1 ≤ sum
  · have e : ze_zc lo hi C F (3 - m + 1) m left sum t s = s := if_pos w
    rw [e] at hvret
    have b : 0 ≤ s.1 ∧ s.1 ≤ 279972 := pB.resolve_left w.1
    refine hseg _ _ _ _ _ r M _ _ _ _ _ (List.all_eq_true.mp zc_e2 m (List.mem_range.mpr (by omega))) ⟨pt_m0, pt_m1 ⟨by show (0 : Int) ≤ r 46; omega, by show r 46 ≤ 2147483647; omega⟩, pt_m1 (by show r 46 + 0 ≤ r 729 + 0; omega)⟩ ⟨fun _ => ?_, trivial⟩
    exact hvret (16, 0, 0) _ r M rfl zc_ek.2.1.2.1.1 (by decide +kernel) (by decide +kernel) ⟨rfl, pS, pt, fun _ _ _ _ => rfl, rfl⟩
  obtain ⟨f, hf⟩ : ∃ f : Nat → ze_S → ze_S, f = fun u s => if left - u ≤ ze_sm hi (3 - m) (m + 1) then ze_zc lo hi C F (3 - m) (m + 1) (left - u) (sum + C m u) (ze_up t m (u : Int)) s else s := ⟨_, rfl⟩
  have e : ze_zc lo hi C F (3 - m + 1) m left sum t s = ze_lp f (ze_n (hi m) (lo m) left) (lo m) s := by
    rw [hf]
    exact if_neg w
  rw [e] at h
  obtain ⟨⟨kl, kh⟩, klh, k7⟩ := pK.1 m hm
  have go : ∀ r2 : Nat → Int, r2 = pt_up r [(730, gz_p (554 + m))] → P (65, 0, 0) (zc_lh m) [] r2 M := fun r2 hr2 => by
    have v2 : ∀ x, r2 x = if x = 730 then r (554 + m) else r x := fun x => by
      rw [hr2]
      rfl
    have f2 : ∀ x, x < 727 → r2 x = r x := fun x a => by rw [v2, if_neg (by omega)]
    refine zc_uloop h hm hnx pK pF pl ps f hf (ze_lp f (ze_n (hi m) (lo m) left) (lo m) s) (fun r3 a b c => ⟨rfl, a, b, c, rfl⟩) (8 - lo m) (lo m) s r2 (by omega) rfl ⟨?_, ?_, ?_⟩ ⟨⟨(f2 _ (by omega)).trans pS.1, fun k hk => (f2 _ (by omega)).trans (pS.2 k hk)⟩, pB⟩ (fun k hk => (f2 _ (by omega)).trans (pt k hk)) (fun x a _ _ => f2 x a)
    · rw [v2, if_neg (by omega)]
      exact p1
    · rw [v2, if_neg (by omega)]
      exact p2
    · rw [v2, if_pos rfl]
      exact kl
  have row := List.all_eq_true.mp zc_e1 m (List.mem_range.mpr hm)
  rw [Bool.and_eq_true] at row
  rcases pB with g | g
  · refine hseg _ _ _ _ _ r M _ _ _ _ _ row.1 ⟨pt_m0, pt_m1 ⟨by show (-1 : Int) ≤ r 46; omega, by show r 46 ≤ -1; omega⟩, pt_m0⟩ ⟨fun _ => ?_, trivial⟩
    exact go _ rfl
  · have : ¬ s.1 ≤ sum := fun b => w ⟨by omega, b⟩
    refine hseg _ _ _ _ _ r M _ _ _ _ _ row.2 ⟨pt_m0, pt_m1 ⟨by show (0 : Int) ≤ r 46; omega, by show r 46 ≤ 2147483647; omega⟩, pt_m1 (by show r 729 + 1 ≤ r 46 + 0; omega)⟩ ⟨fun _ => ?_, trivial⟩
    exact go _ rfl
/-- the whole search from the first mill on -/
theorem zc_0 {n left : Nat} {lo hi : Nat → Nat} {C : Nat → Nat → Int} {F : (Nat → Int) → Bool} {sum : Int} {t : Nat → Int} {s : ze_S} (hn : 4 ≤ n) : pt_Met (n + 1 + 1 + 1 + 1 + 1 + 1 + 1) 9 zxY zc_a (zc_P lo hi C F 0 left sum t s) (zc_Q (ze_zc lo hi C F 4 0 left sum t s) 0 t) 0 :=
  zc_st1 (m := 0) (by omega) (by omega) (fun _ _ _ _ => zc_st1 (m := 1) (by omega) (by omega) (fun _ _ _ _ => zc_st1 (m := 2) (by omega) (by omega) (fun _ _ _ _ => zc_st1 (m := 3) (by omega) (by omega) (fun _ _ _ _ => zc_4 hn))))
