/-! TEXTS: an offer's codes, clause by clause; in order for the reference -/
noncomputable def ps_jn : List (List Int × Int) → List Int
  | [] => []
  | q :: l => (q.1 ++ [q.2]) ++ ps_jn l
theorem ps_jn_a {q : List Int × Int} : ∀ {l : List (List Int × Int)}, ps_jn (l ++ [q]) = ps_jn l ++ (q.1 ++ [q.2])
  | [] => by
    show (q.1 ++ [q.2]) ++ [] = _
    rw [List.append_nil]
    rfl
  | p :: l => by
    show (p.1 ++ [p.2]) ++ ps_jn (l ++ [q]) = ((p.1 ++ [p.2]) ++ ps_jn l) ++ (q.1 ++ [q.2])
    rw [ps_jn_a (l := l), ← List.append_assoc]
noncomputable def ps_gc (l : List Int) : Prop := ∃ cls : List (List Int × Int), l = ps_jn cls ∧ ∀ q ∈ cls, (q.2 = -15 ∨ q.2 = -16) ∧ (∀ c ∈ q.1, -15 < c) ∧ ps_dp 31 q.1 0 = some 1
section PSH
variable {A : Nat → Int} {n : Nat}
theorem ps_cl_gc (hA : ps_A A n) {i : Nat} {σ : ps_S} (q : σ.2.2.1 = 0) (g : ps_gc σ.2.1) (k : (ps_cl A n i σ).2.2.1 = 0) : ps_gc (ps_cl A n i σ).2.1 := by
  have fl : ∀ k : Int, k ≠ 0 → (ps_fl A n k σ).2.2.1 ≠ 0 := fun k hk => by
    unfold ps_fl
    rw [if_pos q]
    exact hk
  unfold ps_cl at k ⊢
  by_cases hd : ps_hd A n σ
  · rw [if_pos hd] at k ⊢
    by_cases i8 : i < 8
    · rw [if_pos i8] at k ⊢
      have k : (ps_pa A n 59 (ps_ex A n 6 (ps_av A n σ))).2.2.1 = 0 := k
      have k2 := (ps_ok_pa (n := n) (c := 59) hA k).1
      obtain ⟨m1, a1, a2⟩ := ps_sf_ex (A := A) (n := n) 6 (ps_av A n σ)
      obtain ⟨m2, b1, b2⟩ := ps_gd_ex (B := 31) hA 6 (ps_av A n σ) k2
      have e : m1 = m2 := List.append_cancel_left (a1.symm.trans b1)
      subst e
      obtain ⟨cls, c1, c2⟩ := g
      refine ⟨cls ++ [(m1, ps_vl A n σ.1)], ?_, fun z hz => ?_⟩
      · show (ps_pa A n 59 (ps_ex A n 6 (ps_av A n σ))).2.1 ++ [ps_vl A n σ.1] = _
        rw [ps_pa_c, a1, ps_jn_a, ← c1, List.append_assoc]
        rfl
      · rcases List.mem_append.mp hz with hz | hz
        · exact c2 z hz
        · rw [List.mem_singleton.mp hz]
          exact ⟨hd.2, a2, b2 0 (by omega)⟩
    · rw [if_neg i8] at k
      exact absurd k (fl 2 (by omega))
  · rw [if_neg hd] at k
    exact absurd k (fl 1 (by omega))
theorem ps_ok_rd (hA : ps_A A n) : ∀ (f i : Nat) (σ : ps_S), ps_ok n σ (ps_rd A n f i σ)
  | 0, _, σ => ps_ok_rf
  | f + 1, i, σ => by
    unfold ps_rd
    split
    · exact ps_ok_tr (ps_ok_cl hA) (ps_ok_rd hA f (i + 1) _)
    · exact ps_ok_rf
theorem ps_rd_gc (hA : ps_A A n) : ∀ (f i : Nat) (σ : ps_S), ps_gc σ.2.1 → (ps_rd A n f i σ).2.2.1 = 0 → ps_gc (ps_rd A n f i σ).2.1
  | 0, _, _, g, _ => g
  | f + 1, i, σ, g, k => by
    unfold ps_rd at k ⊢
    by_cases w : σ.2.2.1 = 0 ∧ (i = 0 ∨ ps_tk A n σ.1 ≠ 0)
    · rw [if_pos w] at k ⊢
      exact ps_rd_gc hA f (i + 1) _ (ps_cl_gc hA w.1 g (ps_ok_rd hA f (i + 1) _ k).1) k
    · rw [if_neg w] at k ⊢
      exact g
theorem ps_read_gc (hA : ps_A A n) (k : (ps_read A n).2.2.1 = 0) : ps_gc (ps_read A n).2.1 := ps_rd_gc hA 9 0 _ ⟨[], rfl, fun q hq => by cases hq⟩ k
end PSH
theorem ps_gr {d : Int} {m : List Int} {x : Nat} : ∀ {l : List Int}, (l ++ m).getD (l.length + x) d = m.getD x d
  | [] => by
    rw [List.length_nil, Nat.zero_add]
    rfl
  | c :: l => by
    rw [List.length_cons, show l.length + 1 + x = (l.length + x) + 1 by omega]
    exact ps_gr (l := l)
/-- the reference's words of a clause: never too few or too many on the stack -/
theorem gb_cv {B : Nat} (hB : B ≤ 110) {f : Nat → Int} : ∀ {m : List Int} {n i d : Nat}, ps_dp B m d = some 1 → d ≤ 110 → m.length ≤ n → (∀ x, x < (gb_cs m).length → f (i + x) = (gb_cs m).getD x 0) → pw_cv f n i (i + (gb_cs m).length) d
  | [], n, i, d, h, _, _, _ => by
    have h : some d = some 1 := h
    cases h
    cases n with
    | zero => exact ⟨rfl, rfl⟩
    | succ n => exact Or.inl ⟨rfl, rfl⟩
  | c :: m, 0, i, d, _, _, hl, _ => absurd hl (by show ¬ m.length + 1 ≤ 0; omega)
  | c :: m, n + 1, i, d, h, hd, hl, hf => by
    have hl : m.length + 1 ≤ n + 1 := hl
    rw [ps_dp_c] at h
    have e : gb_cs (c :: m) = gb_enc c ++ gb_cs m := gb_cs_c
    have sh : ∀ (k : Nat), (gb_enc c).length = k → ∀ x, x < (gb_cs m).length → f (i + k + x) = (gb_cs m).getD x 0 := fun k hk x hx => by
      have := hf (k + x) (by rw [e, List.length_append, hk]; omega)
      rw [Nat.add_assoc, this, e, ← hk, ps_gr]
    by_cases a : -5 ≤ c
    · rw [if_pos a] at h
      by_cases b : d < B
      · rw [if_pos b] at h
        by_cases p : 0 ≤ c
        · have ec : gb_enc c = [0, c] := if_pos p
          have f0 := hf 0 (by rw [e, ec]; show 0 < (gb_cs m).length + 1 + 1; omega)
          rw [e, ec] at f0 ⊢
          have f0 : f i = 0 := f0
          have ih := gb_cv hB (m := m) (n := n) (i := i + 2) (d := d + 1) h (by omega) (by omega) (sh 2 (by rw [ec]; rfl))
          rw [show i + ([0, c] ++ gb_cs m).length = i + 2 + (gb_cs m).length by rw [List.length_append]; show i + (2 + _) = _; omega]
          exact Or.inr ⟨by omega, Or.inl ⟨f0, by omega, by omega, ih⟩⟩
        · have ec : gb_enc c = [19 - c] := (if_neg p).trans (if_pos a)
          have f0 := hf 0 (by rw [e, ec]; show 0 < (gb_cs m).length + 1; omega)
          rw [e, ec] at f0 ⊢
          have f0 : f i = 19 - c := f0
          have ih := gb_cv hB (m := m) (n := n) (i := i + 1) (d := d + 1) h (by omega) (by omega) (sh 1 (by rw [ec]; rfl))
          rw [show i + ([19 - c] ++ gb_cs m).length = i + 1 + (gb_cs m).length by rw [List.length_append]; show i + (1 + _) = _; omega]
          exact Or.inr ⟨by omega, Or.inr (Or.inl ⟨by omega, by omega, by omega, ih⟩)⟩
      · rw [if_neg b] at h
        cases h
    · rw [if_neg a] at h
      by_cases b : c = -12
      · rw [if_pos b] at h
        by_cases x : 1 ≤ d
        · rw [if_pos x] at h
          have ec : gb_enc c = [9] := by
            rw [b]
            decide
          have f0 := hf 0 (by rw [e, ec]; show 0 < (gb_cs m).length + 1; omega)
          rw [e, ec] at f0 ⊢
          have f0 : f i = 9 := f0
          have ih := gb_cv hB (m := m) (n := n) (i := i + 1) (d := d) h hd (by omega) (sh 1 (by rw [ec]; rfl))
          rw [show i + ([(9 : Int)] ++ gb_cs m).length = i + 1 + (gb_cs m).length by rw [List.length_append]; show i + (1 + _) = _; omega]
          exact Or.inr ⟨by omega, Or.inr (Or.inr (Or.inl ⟨f0, x, hd, ih⟩))⟩
        · rw [if_neg x] at h
          cases h
      · rw [if_neg b] at h
        by_cases x : -14 ≤ c
        · rw [if_pos x] at h
          by_cases y : 2 ≤ d
          · rw [if_pos y] at h
            obtain ⟨w, ec, w1, w2⟩ : ∃ w : Int, gb_enc c = [w] ∧ 1 ≤ w ∧ w ≤ 8 := by
              rcases (by omega : -11 ≤ c ∨ c = -13 ∨ c = -14) with z | z | z
              · exact ⟨-5 - c, (if_neg (by omega)).trans ((if_neg a).trans (if_pos z)), by omega, by omega⟩
              · exact ⟨7, by rw [z]; decide, by omega, by omega⟩
              · exact ⟨8, by rw [z]; decide, by omega, by omega⟩
            have f0 := hf 0 (by rw [e, ec]; show 0 < (gb_cs m).length + 1; omega)
            rw [e, ec] at f0 ⊢
            have f0 : f i = w := f0
            have ih := gb_cv hB (m := m) (n := n) (i := i + 1) (d := d - 1) h (by omega) (by omega) (sh 1 (by rw [ec]; rfl))
            rw [show i + ([w] ++ gb_cs m).length = i + 1 + (gb_cs m).length by rw [List.length_append]; show i + (1 + _) = _; omega]
            exact Or.inr ⟨by omega, Or.inr (Or.inr (Or.inr ⟨by omega, by omega, y, hd, ih⟩))⟩
          · rw [if_neg y] at h
            cases h
        · rw [if_neg x] at h
          cases h
