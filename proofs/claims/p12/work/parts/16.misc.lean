/-! COPIES, SWITCHES AND THE REST -/
theorem ai_words_ok {r : Nat → Int} {ad : Nat → Nat} {N n : Nat} : ∀ {S : List ai_V} {st : List Value}, ai_gF r ad N n S st → (st.map fun v => v.category).sum ≤ ai_words S
  | [], [], _ => Nat.le_refl _
  | [], _ :: _, h => h.elim
  | _ :: _, [], h => h.elim
  | a :: S, v :: st, h => by
    have ih := ai_words_ok h.2
    have hc := h.1.cat
    have h2 : v.category ≤ 2 := by rcases lv_cat v with q | q <;> omega
    unfold ai_words
    rw [List.map_cons, List.sum_cons]
    cases e1 : ai_one a with
    | true =>
      have := hc.1 e1
      show _ ≤ ai_words S + 1
      omega
    | false => cases e2 : ai_lng a with
      | true =>
        show _ ≤ ai_words S + 2
        omega
      | false =>
        show _ ≤ ai_words S + 100
        omega
/-- what lies in a part, taken place by place -/
theorem ai_part_ok {lo hi : Int} {l : List (ai_X × ai_X)} {k : Nat} {g : Nat → Int} (hs : ∀ j, ai_small (g j)) {a0 B : Nat} : ∀ {n sp dp : Nat} {r : Nat → Int} {E E' : ai_E} {a a' : List (ai_X × ai_X)}, ai_gE r E → ai_gK r E.1 lo hi l k g → sp + n ≤ k → a0 ≤ sp → sp + n ≤ B → ai_lw E.1 a → (∀ q ∈ a, ∃ i j : Nat, q.1 = (0, Int.ofNat j) ∧ ai_vx r q.2 = g i ∧ j + sp = dp + i ∧ a0 ≤ i ∧ i < B) → ai_part lo hi l n sp dp E a = (E', a') →
    ∃ r', ai_ext E.1 r r' ∧ E.1 ≤ E'.1 ∧ ai_gE r' E' ∧ ai_lw E'.1 a' ∧ (∀ q ∈ a', ∃ i j : Nat, q.1 = (0, Int.ofNat j) ∧ ai_vx r' q.2 = g i ∧ j + sp = dp + i ∧ a0 ≤ i ∧ i < B) ∧ (∀ q ∈ a, q ∈ a') ∧ ∀ i, i < n → ∃ q ∈ a', q.1 = (0, Int.ofNat (dp + i))
  | 0, sp, dp, r, E, E', a, a', hE, hg, hk, hb0, hb1, ha, hq, h => by
    cases h
    exact ⟨r, ai_ext.rfl', Nat.le_refl _, hE, ha, hq, fun q h => h, fun i hi => absurd hi (Nat.not_lt_zero _)⟩
  | n + 1, sp, dp, r, E, E', a, a', hE, hg, hk, hb0, hb1, ha, hq, h => by
    have h0 : ai_vx r (0, Int.ofNat sp) = (sp : Int) := by
      show r 0 + (sp : Int) = sp
      rw [hE.1]; omega
    have hv := ai_kget_ok (lo := lo) (hi := hi) hE (i := (0, Int.ofNat sp)) hE.2.1 h0 hg.1 (hg.2 sp (by omega))
    have step : ∀ {z : ai_X} {r1 : Nat → Int} {E1 : ai_E}, ai_ext E.1 r r1 → E.1 ≤ E1.1 → ai_gE r1 E1 → z.1 < E1.1 → g sp = ai_vx r1 z → ai_part lo hi l n (sp + 1) (dp + 1) E1 (((0, .ofNat dp), z) :: a) = (E', a') → ∃ r', ai_ext E.1 r r' ∧ E.1 ≤ E'.1 ∧ ai_gE r' E' ∧ ai_lw E'.1 a' ∧ (∀ q ∈ a', ∃ i j : Nat, q.1 = (0, Int.ofNat j) ∧ ai_vx r' q.2 = g i ∧ j + sp = dp + i ∧ a0 ≤ i ∧ i < B) ∧ (∀ q ∈ a, q ∈ a') ∧ ∀ i, i < n + 1 → ∃ q ∈ a', q.1 = (0, Int.ofNat (dp + i)) := by
      intro z r1 E1 x1 x2 x3 x4 x5 hh
      obtain ⟨r', y1, y2, y3, y4, y5, y6, y7⟩ := ai_part_ok hs (a0 := a0) (B := B) (n := n) (sp := sp + 1) (dp := dp + 1) x3 (hg.mono x1 x2) (by omega) (by omega) (by omega) (fun q hq' => by
        rcases List.mem_cons.mp hq' with rfl | hq'
        · exact ⟨x3.2.1, x4⟩
        · exact ⟨Nat.lt_of_lt_of_le (ha q hq').1 x2, Nat.lt_of_lt_of_le (ha q hq').2 x2⟩) (fun q hq' => by
        rcases List.mem_cons.mp hq' with rfl | hq'
        · exact ⟨sp, dp, rfl, x5.symm, by omega, by omega, by omega⟩
        · obtain ⟨i, j, e1, e2, e3, e4⟩ := hq q hq'
          exact ⟨i, j, e1, by rw [x1.vx (ha q hq').2]; exact e2, by omega, e4⟩) hh
      refine ⟨r', x1.trans y1 x2, Nat.le_trans x2 y2, y3, y4, fun q hq' => ?_, fun q hq' => y6 q (List.mem_cons_of_mem _ hq'), fun i hi => ?_⟩
      · obtain ⟨i, j, e1, e2, e3, e4⟩ := y5 q hq'
        exact ⟨i, j, e1, e2, by omega, e4⟩
      · cases i with
        | zero => exact ⟨_, y6 _ List.mem_cons_self, rfl⟩
        | succ i =>
          obtain ⟨q, e1, e2⟩ := y7 i (by omega)
          exact ⟨q, e1, by rw [e2, show dp + 1 + i = dp + (i + 1) by omega]⟩
    unfold ai_part at h
    cases ek : ai_kget E lo hi (0, Int.ofNat sp) l with
    | inl z =>
      rw [ek] at h hv
      exact step ai_ext.rfl' (Nat.le_refl _) hE hv.1 hv.2 h
    | inr b =>
      rw [ek] at h hv
      dsimp only at h
      cases en : ai_new E b with
      | mk z E1 =>
        rw [en] at h
        obtain ⟨r1, x1, x2, x3, x4, x5⟩ := ai_new_ok hE hv (hs sp) en
        exact step x1 x2 x3 x4 x5.symm h
theorem ai_lay_ok {r : Nat → Int} {N : Nat} {lo hi : Int} {m : Nat} {g : Nat → Int} (h0 : r 0 = 0) : ∀ {a l : List (ai_X × ai_X)} {f : Nat → Int}, ai_lw N a → (∀ q ∈ a, ∃ j : Nat, q.1 = (0, Int.ofNat j) ∧ ai_vx r q.2 = g j) → ai_gK r N lo hi l m f → (∀ j, (∃ q ∈ a, q.1 = (0, Int.ofNat j)) ∨ f j = g j) → ai_gK r N lo hi (ai_lay a l) m g
  | [], l, f, _, _, hf, hg => by
    have : ∀ j, f j = g j := fun j => (hg j).elim (fun ⟨q, hq, _⟩ => by cases hq) (fun h => h)
    exact ⟨hf.1, fun j hj => by rw [← this j]; exact hf.2 j hj⟩
  | (i, v) :: a, l, f, hw, hq, hf, hg => by
    obtain ⟨j0, e1, e2⟩ := hq _ List.mem_cons_self
    have e1 : i = (0, Int.ofNat j0) := e1
    have hw0 := hw _ List.mem_cons_self
    have hij : ai_vx r i = (j0 : Int) := by
      rw [e1]
      show r 0 + (j0 : Int) = j0
      rw [h0]; omega
    have h1 : ai_gK r N lo hi ((i, v) :: ai_kdrop i l) m (fun j => if j = j0 then g j0 else f j) := ai_kput_ok hf hw0.1 hw0.2 hij (by rw [if_pos rfl]; exact e2.symm) (fun j hj => by rw [if_neg hj])
    refine ai_lay_ok h0 (a := a) (fun q h => hw q (List.mem_cons_of_mem _ h)) (fun q h => hq q (List.mem_cons_of_mem _ h)) h1 (fun j => ?_)
    by_cases e : j = j0
    · subst e
      exact Or.inr (if_pos rfl)
    · rcases hg j with ⟨q, hqm, hqe⟩ | h
      · rcases List.mem_cons.mp hqm with rfl | hqm
        · have hqe : i = (0, Int.ofNat j) := hqe
          rw [e1] at hqe
          have : (Int.ofNat j0) = Int.ofNat j := (Prod.mk.inj hqe).2
          exact absurd (Int.ofNat.inj this).symm e
        · exact Or.inl ⟨q, hqm, hqe⟩
      · exact Or.inr (by rw [if_neg e]; exact h)
