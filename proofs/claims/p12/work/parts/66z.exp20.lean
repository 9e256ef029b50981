/-! THE LEAST (the reference): rows of units are tried -/
noncomputable def zg_a : List ai_V := [wa_r 264, wa_i 727, wa_i 728, wa_i 729]
noncomputable def zg_L (m : Nat) (u : ai_V) : List ai_V := [wa_r 264, wa_k m, wa_i 728, wa_i 729, u]
noncomputable def zg_h (m : Nat) : List ai_V := zg_L m (wa_i 730)
noncomputable def zg_du : pt_X := [(0, 728, 0), (0, 730, 0), (2, 1, 0)]
noncomputable def zg_sS (m : Nat) : List ai_V := [wa_i 729, wa_i 808, wa_k (m + 1), wa_r 264]
noncomputable def zg_cS (m : Nat) : List ai_V := [wa_i 807, wa_i 808, wa_k (m + 1), wa_r 264]
noncomputable def zg_cA (m : Nat) : List ai_V := [wa_r 264, wa_k (m + 1), wa_i 808, wa_i 807]
noncomputable abbrev zg_r (st : List Nat) (sk : Bool) (pc : Nat) (L S : List ai_V) (sp : List (Nat × Int)) (cp : List (Nat × Int × Int)) (le : List (ai_X × ai_X)) (C : List Nat) (Es : List pt_E) : Bool := pt_row zyY 217 st sk (pc, 0, 0) L S sp cp le C Es
theorem zg_c1 : (List.range 4).all (fun m => zg_r [29, 72, 81] true 0 (zg_L m wa_u) [] [] [(73, (.ofNat (m + 1), 4))] [] [] [((81, 0, 0), (zg_h m, []), [(730, gz_p (700 + m))], [])]) = true := by decide +kernel
noncomputable def zg_b (m : Nat) : List (Nat × Int × Int) := [(730, (0, 7)), (728, (0, 99)), (704 + m, (0, 7))]
theorem zg_c2 : (List.range 4).all (fun m => zg_r [81, 142, 169] true 81 (zg_h m) [] [] [] [((704 + m, 1), (730, 0))] [] [((169, 0, 0), (zg_h m, []), [], [])] && zg_r [81, 142, 169] true 81 (zg_h m) [] [] (zg_b m) [((730, 0), (704 + m, 0)), ((728, 1), (730, 0))] [] [((169, 0, 0), (zg_h m, []), [], [])]) = true := by decide +kernel
theorem zg_c3 : (List.range 4).all (fun m => (List.range 4).all (fun a => zg_r [81, 142, 169] true 81 (zg_h m) [] [(133 + m, .ofNat a)] (zg_b m) [((730, 0), (704 + m, 0)), ((730, 0), (728, 0))] [300, 303] [((142, 0, 0), (zg_h m, .inl (730, .ofNat (8 * m)) :: wa_r 299 :: zg_sS m), [(133 + m, gz_k (.ofNat a)), (708 + m, gz_p 730), (723 + a, [(0, 723 + a, 0), (0, 730, 0), (2, 0, 0)]), (808, zg_du)], [])] && zg_r [81] false 147 (zg_h m) [] [(133 + m, .ofNat a)] [(730, (0, 7))] [] [303] [((81, 0, 0), (zg_h m, []), [(133 + m, gz_k (.ofNat a)), (723 + a, [(0, 723 + a, 0), (0, 730, 0), (2, 1, 0)]), (730, gz_d 730 1)], [])])) = true := by decide +kernel
theorem zg_c4 : (List.range 4).all (fun m => zg_r [144] false 143 (zg_h m) (wa_i 809 :: zg_sS m) [] [] [] [] [((144, 0, 0), (zg_h m, zg_cS m), [(807, [(0, 729, 0), (0, 809, 0), (2, 0, 0)])], [])]) = true := by decide +kernel
noncomputable def zg_mw : Nat → List (Nat × pt_X)
  | 0 => []
  | m + 1 => zg_mw m ++ [(712 + m, gz_p (708 + m))]
theorem zg_c5 : (List.range 5).all (fun m => (zg_r [29, 72] true 0 (zg_L m wa_u) [] [(73, .ofNat m)] [(90, (-1, -1)), (728, (0, 0))] [] [] [((29, 0, 0), (zg_L m wa_u, [wa_r 264]), [(73, gz_k (.ofNat m))], [])] && zg_r [29, 72] true 0 (zg_L m wa_u) [] [(73, .ofNat m)] [(90, (0, 2147483647)), (728, (0, 0))] [((729, 1), (90, 0))] [] [((29, 0, 0), (zg_L m wa_u, [wa_r 264]), [(73, gz_k (.ofNat m))], [])]) && (zg_r [29, 72] true 0 (zg_L m wa_u) [] [(73, .ofNat m)] [(728, (1, 99))] [] [] [((72, 0, 0), (zg_L m wa_u, []), [(73, gz_k (.ofNat m))], [])] && zg_r [29, 72] true 0 (zg_L m wa_u) [] [(73, .ofNat m)] [(90, (0, 2147483647)), (728, (0, 0))] [((90, 0), (729, 0))] [] [((72, 0, 0), (zg_L m wa_u, []), [(73, gz_k (.ofNat m))], [])])) = true := by decide +kernel
theorem zg_c6 : (List.range 5).all (fun m => zg_r [72] false 32 (zg_L m wa_u) [wa_i 807] [] [(807, (0, 0))] [] [] [((72, 0, 0), (zg_L m wa_u, []), [], [])] && zg_r [72] false 32 (zg_L m wa_u) [wa_i 807] [(73, .ofNat m)] [(807, (1, 1))] [] [301] [((72, 0, 0), (zg_L m wa_u, []), (73, gz_k (.ofNat m)) :: (90, gz_p 729) :: zg_mw m, [])]) = true := by decide +kernel
theorem zg_k : (List.range 4).all (fun m => pt_lck zyY 217 142 1 299 32 0 809 (zg_h m) (zg_sS m) && (cy_vk 217 144 217 zyY.2.1 (zg_cS m) (zg_cA m) [] && pt_cck zyY 217 217 (144, 0, 0) 0 807 (zg_h m) [] (zg_cA m) zg_a)) = true ∧ ((List.range 5).all (fun m => cy_vk 217 29 216 zyY.2.1 [wa_r 264] [wa_r 264] [] && pt_cck zyY 217 216 (29, 0, 0) 1 807 (zg_L m wa_u) [] [wa_r 264] [wa_r 264]) = true ∧ (pt_is 7 217 72 = true ∧ pt_is 7 217 169 = true) ∧ (ct_mt 217).2.2.1 = 5) ∧ lh_plain 217 = true ∧ ct_bud 217 = (0, 0) := by decide +kernel
/-- what is put in at a place, by the units of the first mills -/
noncomputable def zg_o (r b t : Nat → Int) : Nat → Nat → Int
  | 0, p => b p
  | m + 1, p => if r (133 + m) = (p : Int) then zg_o r b t m p + t m else zg_o r b t m p
noncomputable def zg_pr (r b t : Nat → Int) (K : Nat) : Nat → Int := fun x => if 723 ≤ x ∧ x < 723 + 4 then zg_o r b t K (x - 723) else r x
noncomputable def zg_st (t : Nat) : Prop := t ≠ 90 ∧ ¬ (712 ≤ t ∧ t < 712 + 4) ∧ ¬ (708 ≤ t ∧ t < 708 + 4)
noncomputable def zg_nO (t : Nat) : Prop := ¬ (723 ≤ t ∧ t < 723 + 4)
theorem zg_oe {r r1 b t t' : Nat → Int} (h : ∀ j, j < 4 → r1 (133 + j) = r (133 + j)) {p : Nat} : ∀ {m : Nat}, m ≤ 4 → (∀ j, j < m → t j = t' j) → zg_o r1 b t m p = zg_o r b t' m p
  | 0, _, _ => rfl
  | m + 1, hm, ht => by
    show (if r1 (133 + m) = (p : Int) then zg_o r1 b t m p + t m else zg_o r1 b t m p) = if r (133 + m) = (p : Int) then zg_o r b t' m p + t' m else zg_o r b t' m p
    rw [h m (by omega), zg_oe h (by omega) (fun j hj => ht j (by omega)), ht m (Nat.lt_succ_self m)]
/-- the search's tables, K mills -/
noncomputable def zg_K (K : Nat) (lo hi : Nat → Nat) (C : Nat → Nat → Int) (r : Nat → Int) (M : Nat → Nat → Int) : Prop := ((r 73 = (K : Int) ∧ K ≤ 4) ∧ ∀ k, k < K → (r (700 + k) = (lo k : Int) ∧ r (704 + k) = (hi k : Int)) ∧ hi k ≤ 7) ∧ (∀ k, k < K → ∀ u, u ≤ hi k → M 299 (8 * k + u) = C k u) ∧ ∀ m u, u ≤ hi m → 0 ≤ C m u ∧ C m u ≤ 69993
noncomputable def zg_S (K : Nat) (r : Nat → Int) (s : ze_S) : Prop := r 90 = s.1 ∧ ∀ k, k < K → r (712 + k) = s.2 k
noncomputable def zg_V (m : Nat) (b t : Nat → Int) (r : Nat → Int) : Prop := (∀ p, p < 4 → r (723 + p) = zg_o r b t m p ∧ ((p : Int) < r 71 → -20 ≤ r (723 + p) ∧ r (723 + p) ≤ 7 * (m : Int))) ∧ ∀ k, k < m → r (708 + k) = t k
noncomputable def zg_P (K : Nat) (lo hi : Nat → Nat) (C : Nat → Nat → Int) (F : (Nat → Int) → Bool) (b : Nat → Int) (m left : Nat) (sum : Int) (t : Nat → Int) (s : ze_S) (r : Nat → Int) (M : Nat → Nat → Int) : Prop := (r 727 = (m : Int) ∧ r 728 = (left : Int) ∧ r 729 = sum) ∧ (zg_K K lo hi C r M ∧ ((1 ≤ r 71 ∨ r 72 = 0) ∧ ∀ k, k < K → r (133 + k) < r 71)) ∧ (∀ z, F z = true ↔ zr_ft (zg_pr r b z K)) ∧ zg_V m b t r ∧ (zg_S K r s ∧ zc_B s) ∧ left ≤ 99 ∧ 0 ≤ sum ∧ sum ≤ (m : Int) * 69993
noncomputable def zg_Q (K : Nat) (s2 : ze_S) (m : Nat) (t : Nat → Int) (r : Nat → Int) (M : Nat → Nat → Int) (r2 : Nat → Int) (M2 : Nat → Nat → Int) (o : Option Int) : Prop := o = none ∧ zg_S K r2 s2 ∧ (∀ k, k < m → r2 (708 + k) = t k) ∧ (∀ x, x < 727 → zg_st x → r2 x = r x) ∧ M2 = M
theorem zg_Fe {r r1 b : Nat → Int} {K : Nat} (hK : K ≤ 4) (hP : r 71 ≤ 4) (h : ∀ x, x < 727 → zg_st x → zg_nO x → r1 x = r x) {z : Nat → Int} : zr_ft (zg_pr r1 b z K) ↔ zr_ft (zg_pr r b z K) := by
  have hp : ∀ j, j < 4 → r1 (133 + j) = r (133 + j) := fun j hj => h _ (by omega) (by unfold zg_st; omega) (by unfold zg_nO; omega)
  refine zr_fte (fun x a => ?_) (by
    show (if 723 ≤ 71 ∧ 71 < 723 + 4 then _ else r 71) ≤ 4
    rw [if_neg (by omega)]
    exact hP)
  unfold zg_pr
  by_cases q : 723 ≤ x ∧ x < 723 + 4
  · rw [if_pos q, if_pos q]
    exact zg_oe hp hK (fun _ _ => rfl)
  · rw [if_neg q, if_neg q]
    exact h x (by unfold zr_dp at a; omega) (by unfold zr_dp at a; unfold zg_st; omega) q
theorem zg_Fl {r b t : Nat → Int} {K : Nat} (hP : r 71 ≤ 4) (hV : zg_V K b t r) : zr_ft r ↔ zr_ft (zg_pr r b t K) := by
  have e : ∀ x, zr_dp x → r x = zg_pr r b t K x := fun x a => by
    unfold zg_pr
    by_cases q : 723 ≤ x ∧ x < 723 + 4
    · rw [if_pos q]
      have g := (hV.1 (x - 723) (by omega)).1
      rw [show 723 + (x - 723) = x by omega] at g
      exact g
    · rw [if_neg q]
  refine zr_fte e ?_
  show (if 723 ≤ 71 ∧ 71 < 723 + 4 then _ else r 71) ≤ 4
  rw [if_neg (by omega)]
  exact hP
theorem zg_mwv {r : Nat → Int} {K : Nat} : ∀ {m : Nat}, m ≤ 4 → ∀ x, pt_up r (zg_mw m) x = if 712 ≤ x ∧ x < 712 + m then r (708 + (x - 712)) else r x := fun {m} hm x => by
  rcases (by omega : m = 0 ∨ m = 1 ∨ m = 2 ∨ m = 3 ∨ m = 4) with rfl | rfl | rfl | rfl | rfl
  · rw [if_neg (by omega)]
    rfl
  · show (if x = 712 + 0 then r (708 + 0) else r x) = _
    by_cases a : x = 712 + 0
    · rw [if_pos a, if_pos (by omega), a]
    · rw [if_neg a, if_neg (by omega)]
  · show (if x = 712 + 0 then r (708 + 0) else if x = 712 + 1 then r (708 + 1) else r x) = _
    by_cases a : x = 712 + 0
    · rw [if_pos a, if_pos (by omega), a]
    rw [if_neg a]
    by_cases a1 : x = 712 + 1
    · rw [if_pos a1, if_pos (by omega), a1]
    · rw [if_neg a1, if_neg (by omega)]
  · show (if x = 712 + 0 then r (708 + 0) else if x = 712 + 1 then r (708 + 1) else if x = 712 + 2 then r (708 + 2) else r x) = _
    by_cases a : x = 712 + 0
    · rw [if_pos a, if_pos (by omega), a]
    rw [if_neg a]
    by_cases a1 : x = 712 + 1
    · rw [if_pos a1, if_pos (by omega), a1]
    rw [if_neg a1]
    by_cases a2 : x = 712 + 2
    · rw [if_pos a2, if_pos (by omega), a2]
    · rw [if_neg a2, if_neg (by omega)]
  · show (if x = 712 + 0 then r (708 + 0) else if x = 712 + 1 then r (708 + 1) else if x = 712 + 2 then r (708 + 2) else if x = 712 + 3 then r (708 + 3) else r x) = _
    by_cases a : x = 712 + 0
    · rw [if_pos a, if_pos (by omega), a]
    rw [if_neg a]
    by_cases a1 : x = 712 + 1
    · rw [if_pos a1, if_pos (by omega), a1]
    rw [if_neg a1]
    by_cases a2 : x = 712 + 2
    · rw [if_pos a2, if_pos (by omega), a2]
    rw [if_neg a2]
    by_cases a3 : x = 712 + 3
    · rw [if_pos a3, if_pos (by omega), a3]
    · rw [if_neg a3, if_neg (by omega)]
theorem zg_0 {n K left : Nat} {lo hi : Nat → Nat} {C : Nat → Nat → Int} {F : (Nat → Int) → Bool} {b : Nat → Int} {sum : Int} {t : Nat → Int} {s : ze_S} (hn : 4 ≤ n) : pt_Met (n + 1 + 1) 217 zyY zg_a (zg_P K lo hi C F b K left sum t s) (zg_Q K (ze_go lo hi C F 0 K left sum t s) K t) 0 := by
  refine pt_intro (L0 := [wa_r 264, wa_i 727, wa_i 728, wa_i 729, wa_u]) zg_k.2.2.1 (by omega) zysys (by
    rw [zg_k.2.1.2.2]
    rfl) (fun P r M h hp => ?_)
  obtain ⟨hseg, henv, hrel, -, -, -, -, -, hcall, -, -, -, -, hvret⟩ := h
  obtain ⟨⟨p0, p1, p2⟩, ⟨⟨⟨⟨pM, pK4⟩, -⟩, -⟩, pPL⟩, pF, pV, ⟨pS, pB⟩, pl, ps, -⟩ := hp
  refine henv _ _ _ _ _ (fun hE _ => ?_)
  have h0 : r 0 = 0 := hE.1
  have bP := ze_eb hE zr_bd.1.2
  refine hrel (0, 0, 0) _ (zg_L K wa_u) [] [] r M ⟨rfl, ⟨by show 0 < 827; omega, by show r 727 + 0 = r 0 + (K : Int); omega⟩, ⟨by show 728 < 827; omega, rfl⟩, ⟨by show 729 < 827; omega, rfl⟩, trivial, trivial⟩ trivial ?_
  have row := List.all_eq_true.mp zg_c5 K (List.mem_range.mpr (by omega))
  simp only [Bool.and_eq_true] at row
  obtain ⟨⟨c1, c2⟩, c3, c4⟩ := row
  have row6 := List.all_eq_true.mp zg_c6 K (List.mem_range.mpr (by omega))
  rw [Bool.and_eq_true] at row6
  have eb : r 90 = s.1 := pS.1
  have up : pt_up r [(73, gz_k (.ofNat K))] = r := by
    funext x
    show (if x = 73 then (K : Int) else r x) = r x
    by_cases q : x = 73
    · rw [if_pos q, q, pM]
    · rw [if_neg q]
  have keep : zg_Q K s K t r M r M none := ⟨rfl, pS, pV.2, fun _ _ _ => rfl, rfl⟩
  have eF : zr_ft r ↔ F t = true := (zg_Fl bP.2 pV).trans (pF t).symm
  have ev : ze_go lo hi C F 0 K left sum t s = if left = 0 ∧ ((s.1 = -1 ∨ sum < s.1) ∧ F t = true) then (sum, t) else s := rfl
  rw [ev] at hvret
  by_cases l0 : left = 0
  · by_cases g : s.1 = -1 ∨ sum < s.1
    · have next : P (29, 0, 0) (zg_L K wa_u) [wa_r 264] r M := by
        have ck := List.all_eq_true.mp zg_k.2.1.1 K (List.mem_range.mpr (by omega))
        rw [Bool.and_eq_true] at ck
        refine hcall (29, 0, 0) _ _ _ _ _ r M 216 1 807 _ _ zr_k.2.1 ck.1 ck.2 (zr_fM (n := n) hn) pPL.1 (fun r7 M7 o hq => ?_)
        have e6 : pt_up r (pt_wc [wa_r 264] [wa_r 264]) = r := rfl
        rw [e6] at hq
        obtain ⟨rc, rs⟩ := wa_rm (n := n + 1) zr_k.2.2
        rw [rc, rs]
        obtain ⟨ho, f7, eM⟩ := hq
        rw [eM]
        rw [eF] at ho
        have next : ∀ b : Int, o = some b → ∃ r8 : Nat → Int, (r8 807 = b ∧ r8 729 = sum) ∧ (∀ x, x < 727 → r8 x = r x) ∧ (P (32, 0, 0) (zg_L K wa_u) [wa_i 807] r8 M → P (29 + 3, 0 + 0, 0 + 0) (zg_L K wa_u) (pt_psh 1 807 []) (pt_mrg 727 r r7 807 o) M) := fun b hb => by
          refine ⟨pt_mrg 727 r r7 807 (some b), ⟨wa_mz (by omega), ?_⟩, fun x a => ?_, fun q => ?_⟩
          · show (if 729 < 727 then _ else if 729 = 807 then b else r 729) = sum
            rw [if_neg (by omega), if_neg (by omega)]
            exact p2
          · rw [wa_mlt a]
            exact f7 x a
          · rw [hb]
            exact q
        rcases ho with ⟨ho, hc⟩ | ⟨ho, hc⟩
        · obtain ⟨r8, ⟨b1, b2⟩, f8, go⟩ := next 1 ho
          rw [if_pos ⟨l0, g, hc⟩] at hvret
          refine go (hseg _ _ _ _ _ r8 M _ _ _ _ _ row6.2 ⟨pt_m1 ((f8 _ (by omega)).trans pM), pt_m1 ⟨by show (1 : Int) ≤ r8 807; omega, by show r8 807 ≤ 1; omega⟩, pt_m0⟩ ⟨fun _ => ?_, trivial⟩)
          obtain ⟨r9, hr9⟩ : ∃ r9, r9 = pt_up r8 ((73, gz_k (.ofNat K)) :: (90, gz_p 729) :: zg_mw K) := ⟨_, rfl⟩
          show P (72, 0, 0) (zg_L K wa_u) [] (pt_up r8 ((73, gz_k (.ofNat K)) :: (90, gz_p 729) :: zg_mw K)) M
          rw [← hr9]
          have v9 : ∀ x, r9 x = if x = 73 then (K : Int) else if x = 90 then sum else if 712 ≤ x ∧ x < 712 + K then r8 (708 + (x - 712)) else r8 x := fun x => by
            rw [hr9, ← b2, ← zg_mwv (K := K) pK4 x]
            rfl
          have n9 : ∀ x, x < 727 → x ≠ 90 → ¬ (712 ≤ x ∧ x < 712 + K) → r9 x = r x := fun x a b c => by
            rw [v9]
            by_cases q : x = 73
            · rw [if_pos q, q, pM]
            · rw [if_neg q, if_neg b, if_neg c]
              exact f8 x a
          refine hvret (72, 0, 0) _ r9 M rfl zg_k.2.1.2.1.1 (by decide +kernel) (by decide +kernel) ⟨rfl, ⟨?_, fun k hk => ?_⟩, fun k hk => ?_, fun x a c => ?_, rfl⟩
          · rw [v9, if_neg (by omega), if_pos rfl]
          · show r9 (712 + k) = t k
            rw [v9, if_neg (by omega), if_neg (by omega), if_pos (by omega), show 712 + k - 712 = k by omega, f8 _ (by omega)]
            exact pV.2 k hk
          · rw [n9 _ (by omega) (by omega) (by omega)]
            exact pV.2 k hk
          · unfold zg_st at c
            exact n9 x a c.1 (by omega)
        · obtain ⟨r8, ⟨b1, b2⟩, f8, go⟩ := next 0 ho
          rw [if_neg (fun q => hc q.2.2)] at hvret
          refine go (hseg _ _ _ _ _ r8 M _ _ _ _ _ row6.1 ⟨pt_m0, pt_m1 ⟨by show (0 : Int) ≤ r8 807; omega, by show r8 807 ≤ 0; omega⟩, pt_m0⟩ ⟨fun _ => ?_, trivial⟩)
          exact hvret (72, 0, 0) _ r8 M rfl zg_k.2.1.2.1.1 (by decide +kernel) (by decide +kernel) ⟨rfl, ⟨(f8 _ (by omega)).trans eb, fun k hk => (f8 _ (by omega)).trans (pS.2 k hk)⟩, fun k hk => (f8 _ (by omega)).trans (pV.2 k hk), fun x a _ => f8 x a, rfl⟩
      have b0 : (0 : Int) ≤ r 728 ∧ r 728 ≤ 0 := by omega
      rcases pB with a | a
      · refine hseg _ _ _ _ _ r M _ _ _ _ _ c1 ⟨pt_m1 pM, pt_m2 ⟨by show (-1 : Int) ≤ r 90; omega, by show r 90 ≤ -1; omega⟩ b0, pt_m0⟩ ⟨fun _ => ?_, trivial⟩
        show P (29, 0, 0) (zg_L K wa_u) [wa_r 264] (pt_up r [(73, gz_k (.ofNat K))]) M
        rw [up]
        exact next
      · refine hseg _ _ _ _ _ r M _ _ _ _ _ c2 ⟨pt_m1 pM, pt_m2 ⟨by show (0 : Int) ≤ r 90; omega, by show r 90 ≤ 2147483647; omega⟩ b0, pt_m1 (by show r 729 + 1 ≤ r 90 + 0; omega)⟩ ⟨fun _ => ?_, trivial⟩
        show P (29, 0, 0) (zg_L K wa_u) [wa_r 264] (pt_up r [(73, gz_k (.ofNat K))]) M
        rw [up]
        exact next
    · rw [if_neg (fun q => g q.2.1)] at hvret
      have a : 0 ≤ s.1 ∧ s.1 ≤ 279972 := pB.resolve_left (fun q => g (Or.inl q))
      have a2 : ¬ sum < s.1 := fun q => g (Or.inr q)
      refine hseg _ _ _ _ _ r M _ _ _ _ _ c4 ⟨pt_m1 pM, pt_m2 ⟨by show (0 : Int) ≤ r 90; omega, by show r 90 ≤ 2147483647; omega⟩ ⟨by show (0 : Int) ≤ r 728; omega, by show r 728 ≤ 0; omega⟩, pt_m1 (by show r 90 + 0 ≤ r 729 + 0; omega)⟩ ⟨fun _ => ?_, trivial⟩
      show P (72, 0, 0) (zg_L K wa_u) [] (pt_up r [(73, gz_k (.ofNat K))]) M
      rw [up]
      exact hvret (72, 0, 0) _ r M rfl zg_k.2.1.2.1.1 (by decide +kernel) (by decide +kernel) keep
  · rw [if_neg (fun q => l0 q.1)] at hvret
    refine hseg _ _ _ _ _ r M _ _ _ _ _ c3 ⟨pt_m1 pM, pt_m1 ⟨by show (1 : Int) ≤ r 728; omega, by show r 728 ≤ 99; omega⟩, pt_m0⟩ ⟨fun _ => ?_, trivial⟩
    show P (72, 0, 0) (zg_L K wa_u) [] (pt_up r [(73, gz_k (.ofNat K))]) M
    rw [up]
    exact hvret (72, 0, 0) _ r M rfl zg_k.2.1.2.1.1 (by decide +kernel) (by decide +kernel) keep
