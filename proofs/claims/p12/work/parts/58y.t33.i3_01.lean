/-! TEXTS (the reference): the clauses' table -/
noncomputable def gb_tb : List Int → Nat → Nat → List (Int × Nat × Nat)
  | [], _, _ => []
  | c :: l, s, e => if c = -15 ∨ c = -16 then (-15 - c, s, e) :: gb_tb l e e else gb_tb l s (e + (gb_enc c).length)
noncomputable def gb_pd : List Int → Nat → Nat → Nat
  | [], s, _ => s
  | c :: l, s, e => if c = -15 ∨ c = -16 then gb_pd l e e else gb_pd l s (e + (gb_enc c).length)
theorem gb_enc_h {c : Int} (h : c = -15 ∨ c = -16) : gb_enc c = [] := by
  rcases h with rfl | rfl <;> decide
theorem gb_cs_c {c : Int} {l : List Int} : gb_cs (c :: l) = gb_enc c ++ gb_cs l := List.flatMap_cons ..
theorem gb_tb_c {c : Int} {l : List Int} {s e : Nat} : gb_tb (c :: l) s e = if c = -15 ∨ c = -16 then (-15 - c, s, e) :: gb_tb l e e else gb_tb l s (e + (gb_enc c).length) := rfl
theorem gb_pd_c {c : Int} {l : List Int} {s e : Nat} : gb_pd (c :: l) s e = if c = -15 ∨ c = -16 then gb_pd l e e else gb_pd l s (e + (gb_enc c).length) := rfl
theorem gb_tb_a : ∀ {l m : List Int} {s e : Nat}, gb_tb (l ++ m) s e = gb_tb l s e ++ gb_tb m (gb_pd l s e) (e + (gb_cs l).length) ∧ gb_pd (l ++ m) s e = gb_pd m (gb_pd l s e) (e + (gb_cs l).length)
  | [], m, s, e => ⟨rfl, rfl⟩
  | c :: l, m, s, e => by
    rw [List.cons_append, gb_tb_c, gb_pd_c, gb_tb_c, gb_pd_c, gb_cs_c, List.length_append]
    by_cases h : c = -15 ∨ c = -16
    · obtain ⟨i1, i2⟩ := gb_tb_a (l := l) (m := m) (s := e) (e := e)
      rw [if_pos h, if_pos h, if_pos h, if_pos h, gb_enc_h h, i1, i2, List.length_nil, Nat.zero_add]
      exact ⟨rfl, rfl⟩
    · obtain ⟨i1, i2⟩ := gb_tb_a (l := l) (m := m) (s := s) (e := e + (gb_enc c).length)
      rw [if_neg h, if_neg h, if_neg h, if_neg h, i1, i2, Nat.add_assoc]
      exact ⟨rfl, rfl⟩
theorem gb_tb_n : ∀ {m : List Int} {s e : Nat}, (∀ c ∈ m, -15 < c) → gb_tb m s e = [] ∧ gb_pd m s e = s
  | [], _, _, _ => ⟨rfl, rfl⟩
  | c :: m, s, e, h => by
    have hc := h c List.mem_cons_self
    obtain ⟨i1, i2⟩ := gb_tb_n (m := m) (s := s) (e := e + (gb_enc c).length) (fun z hz => h z (List.mem_cons_of_mem _ hz))
    rw [gb_tb_c, gb_pd_c, if_neg (by omega), if_neg (by omega)]
    exact ⟨i1, i2⟩
/-- the clauses of a reading stand in the table; the last one is whole -/
noncomputable def gb_TB (i : Nat) (l : List Int) (M : Nat → Nat → Int) : Prop := ((gb_tb l 0 0).length = i ∧ gb_pd l 0 0 = (gb_cs l).length) ∧ M 286 4 = (i : Int) ∧ ∀ k, k < i → M 287 (32 + k) = ((gb_tb l 0 0).getD k (0, 0, 0)).1 ∧ M 288 (32 + k) = (((gb_tb l 0 0).getD k (0, 0, 0)).2.1 : Int) ∧ M 289 (32 + k) = (((gb_tb l 0 0).getD k (0, 0, 0)).2.2 : Int)
theorem gb_tb_s {l m : List Int} {v : Int} (hl : gb_pd l 0 0 = (gb_cs l).length) (hm : ∀ c ∈ m, -15 < c) (hv : v = -15 ∨ v = -16) : gb_tb (l ++ m ++ [v]) 0 0 = gb_tb l 0 0 ++ [(-15 - v, (gb_cs l).length, (gb_cs (l ++ m)).length)] ∧ gb_pd (l ++ m ++ [v]) 0 0 = (gb_cs (l ++ m ++ [v])).length := by
  obtain ⟨a1, a2⟩ := gb_tb_a (l := l) (m := m) (s := 0) (e := 0)
  obtain ⟨b1, b2⟩ := gb_tb_a (l := l ++ m) (m := [v]) (s := 0) (e := 0)
  obtain ⟨n1, n2⟩ := gb_tb_n (s := gb_pd l 0 0) (e := 0 + (gb_cs l).length) hm
  rw [b1, b2, a1, a2, n1, n2, List.append_nil, hl, gb_cs_a, gb_enc_h hv, List.append_nil]
  rw [gb_tb_c, gb_pd_c, if_pos hv, if_pos hv, Nat.zero_add]
  exact ⟨rfl, rfl⟩
