/-! TEXTS (the reference): the table of an offer's clauses; the copy is in order -/
theorem gb_tbj : ∀ (cls : List (List Int × Int)) (s : Nat), (∀ q ∈ cls, (q.2 = -15 ∨ q.2 = -16) ∧ ∀ c ∈ q.1, -15 < c) → ∀ k, k < (gb_tb (ps_jn cls) s s).length → ∃ q ∈ cls, ∃ a : Nat, (gb_tb (ps_jn cls) s s).getD k (0, 0, 0) = (-15 - q.2, s + a, s + a + (gb_cs q.1).length) ∧ a + (gb_cs q.1).length ≤ (gb_cs (ps_jn cls)).length ∧ q.1.length ≤ (ps_jn cls).length ∧ ∀ x, x < (gb_cs q.1).length → (gb_cs (ps_jn cls)).getD (a + x) 0 = (gb_cs q.1).getD x 0
  | [], s, _, k, h => absurd h (by show ¬ k < 0; omega)
  | q :: cls, s, hq, k, h => by
    obtain ⟨h1, h2⟩ := hq q List.mem_cons_self
    have ej : ps_jn (q :: cls) = q.1 ++ (q.2 :: ps_jn cls) := by
      show (q.1 ++ [q.2]) ++ ps_jn cls = _
      rw [List.append_assoc]
      rfl
    have ec : gb_cs (ps_jn (q :: cls)) = gb_cs q.1 ++ gb_cs (ps_jn cls) := by
      rw [ej]
      unfold gb_cs
      rw [List.flatMap_append, List.flatMap_cons, gb_enc_h h1]
      rfl
    have et : gb_tb (ps_jn (q :: cls)) s s = (-15 - q.2, s, s + (gb_cs q.1).length) :: gb_tb (ps_jn cls) (s + (gb_cs q.1).length) (s + (gb_cs q.1).length) := by
      obtain ⟨n1, n2⟩ := gb_tb_n (m := q.1) (s := s) (e := s) h2
      rw [ej, gb_tb_a.1, n1, n2, List.nil_append, gb_tb_c, if_pos h1]
    have gl : ∀ {l m : List Int} {x : Nat}, x < l.length → (l ++ m).getD x 0 = l.getD x 0 := fun {l m x} hx => by
      induction l generalizing x with
      | nil => exact absurd hx (by show ¬ x < 0; omega)
      | cons c l ih =>
        cases x with
        | zero => rfl
        | succ x => exact ih (by have hx : x + 1 < l.length + 1 := hx; omega)
    rw [et] at h ⊢
    cases k with
    | zero =>
      refine ⟨q, List.mem_cons_self, 0, rfl, ?_, ?_, fun x hx => ?_⟩
      · rw [ec, List.length_append]
        omega
      · rw [ej, List.length_append]
        omega
      · rw [ec, Nat.zero_add, gl hx]
    | succ k =>
      obtain ⟨p, p1, a, p2, p3, p4, p5⟩ := gb_tbj cls (s + (gb_cs q.1).length) (fun z hz => hq z (List.mem_cons_of_mem _ hz)) k (by have h : k + 1 < (gb_tb (ps_jn cls) (s + (gb_cs q.1).length) (s + (gb_cs q.1).length)).length + 1 := h; omega)
      refine ⟨p, List.mem_cons_of_mem _ p1, (gb_cs q.1).length + a, ?_, ?_, ?_, fun x hx => ?_⟩
      · show (gb_tb (ps_jn cls) (s + (gb_cs q.1).length) (s + (gb_cs q.1).length)).getD k (0, 0, 0) = _
        rw [p2, Nat.add_assoc]
      · rw [ec, List.length_append]
        omega
      · rw [ej, List.length_append, List.length_cons]
        omega
      · rw [ec, Nat.add_assoc, ps_gr]
        exact p5 x hx
section GOP
variable {v c : Nat} {M : Nat → Nat → Int}
theorem go_cq0 : gb_cq v 8 8 8 1 c M 286 v = M 286 4 := if_pos ⟨rfl, rfl, rfl⟩
theorem go_cq1 {k : Nat} (hk : k < 8) : gb_cq v 8 8 8 1 c M 287 (8 * v + k) = M 287 (32 + k) := by
  unfold gb_cq
  rw [if_neg (by omega), if_pos (by omega), show 8 * v + k - 8 * v = k by omega]
theorem go_cq2 {k : Nat} (hk : k < 8) : gb_cq v 8 8 8 1 c M 288 (8 * v + k) = M 288 (32 + k) := by
  unfold gb_cq
  rw [if_neg (by omega), if_neg (by omega), if_pos (by omega), show 8 * v + k - 8 * v = k by omega]
theorem go_cq3 {k : Nat} (hk : k < 8) : gb_cq v 8 8 8 1 c M 289 (8 * v + k) = M 289 (32 + k) := by
  unfold gb_cq
  rw [if_neg (by omega), if_neg (by omega), if_neg (by omega), if_pos (by omega), show 8 * v + k - 8 * v = k by omega]
theorem go_cq4 {k : Nat} (hk : k < c) : gb_cq v 8 8 8 1 c M 290 (400 * v + k) = M 290 (1600 + k) := by
  unfold gb_cq
  rw [if_neg (by omega), if_neg (by omega), if_neg (by omega), if_neg (by omega), if_pos (by omega), show 400 * v + k - 400 * v = k by omega]
noncomputable def go_own (v z x : Nat) : Prop := (z = 286 ∧ x = v) ∨ ((z = 287 ∨ z = 288 ∨ z = 289) ∧ 8 * v ≤ x ∧ x < 8 * v + 8) ∨ (z = 290 ∧ 400 * v ≤ x ∧ x < 400 * v + 400)
theorem go_cqn {z x : Nat} (hc : c ≤ 400) (h : ¬ go_own v z x) : gb_cq v 8 8 8 1 c M z x = M z x := by
  unfold go_own at h
  unfold gb_cq
  rw [if_neg (by omega), if_neg (by omega), if_neg (by omega), if_neg (by omega), if_neg (by omega)]
theorem gz_pw_c {M M' : Nat → Nat → Int} (h : gz_pw M) (e : ∀ z x, (z = 286 ∧ x < 4) ∨ ((z = 288 ∨ z = 289) ∧ x < 32) ∨ (z = 290 ∧ x < 1600) → M' z x = M z x) : gz_pw M' := fun m hm => by
  obtain ⟨h1, h2⟩ := h m hm
  have e1 := e 286 m (Or.inl ⟨rfl, hm⟩)
  refine ⟨by rw [e1]; exact h1, fun k hk => ?_⟩
  rw [e1] at hk
  obtain ⟨i, j, a1, a2, a3, a4, a5⟩ := h2 k hk
  refine ⟨i, j, ?_, ?_, a3, a4, pw_cg (fun q hq => e 290 (400 * m + q) (Or.inr (Or.inr ⟨rfl, by omega⟩))) a5⟩
  · rw [e 288 (8 * m + k) (Or.inr (Or.inl ⟨Or.inl rfl, by omega⟩))]
    exact a1
  · rw [e 289 (8 * m + k) (Or.inr (Or.inl ⟨Or.inr rfl, by omega⟩))]
    exact a2
theorem go_pw (hv : v < 4) (hP : gz_pw M) {i : Nat} {l : List Int} (hT : gb_TB i l M) (hi : i ≤ 8) (hg : ps_gc l) (hl : l.length ≤ 200) (hc : c = (gb_cs l).length) (hC : ∀ j, j < c → M 290 (1600 + j) = (gb_cs l).getD j 0) : gz_pw (gb_cq v 8 8 8 1 c M) := by
  have c400 : c ≤ 400 := by
    have := gb_cs_l (l := l)
    omega
  obtain ⟨⟨t1, t2⟩, t3, t4⟩ := hT
  obtain ⟨cls, rfl, hcls⟩ := hg
  intro m hm
  by_cases e : m = v
  · subst e
    rw [go_cq0, t3]
    refine ⟨by omega, fun k hk => ?_⟩
    have hk : k < i := by omega
    obtain ⟨q, q1, a, q2, q3, q4, q5⟩ := gb_tbj cls 0 (fun z hz => ⟨(hcls z hz).1, (hcls z hz).2.1⟩) k (by omega)
    obtain ⟨-, t5, t6⟩ := t4 k hk
    rw [q2] at t5 t6
    refine ⟨a, a + (gb_cs q.1).length, ?_, ?_, by omega, by omega, ?_⟩
    · rw [go_cq2 (by omega), t5]
      show ((0 + a : Nat) : Int) = _
      rw [Nat.zero_add]
    · rw [go_cq3 (by omega), t6]
      show ((0 + a + (gb_cs q.1).length : Nat) : Int) = _
      rw [Nat.zero_add]
    · refine gb_cv (B := 31) (by omega) (hcls q q1).2.2 (by omega) (by omega) (fun x hx => ?_)
      show gb_cq m 8 8 8 1 c M 290 (400 * m + (a + x)) = _
      rw [go_cq4 (by omega), hC _ (by omega)]
      exact q5 x hx
  · obtain ⟨h1, h2⟩ := hP m hm
    have e1 : gb_cq v 8 8 8 1 c M 286 m = M 286 m := go_cqn c400 (by unfold go_own; omega)
    refine ⟨by rw [e1]; exact h1, fun k hk => ?_⟩
    rw [e1] at hk
    obtain ⟨i', j, a1, a2, a3, a4, a5⟩ := h2 k hk
    refine ⟨i', j, ?_, ?_, a3, a4, pw_cg (fun q hq => go_cqn c400 (by unfold go_own; omega)) a5⟩
    · rw [go_cqn c400 (by unfold go_own; omega)]
      exact a1
    · rw [go_cqn c400 (by unfold go_own; omega)]
      exact a2
end GOP
