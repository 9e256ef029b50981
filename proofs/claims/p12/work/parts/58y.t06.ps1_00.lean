/-! TEXTS: a pure reading: bytes, tokens -/
noncomputable def ps_b (A : Nat → Int) (n i : Nat) : Int := if i < n then A i else -1
noncomputable def ps_bl (c : Int) : Bool := decide (c = 32) || decide (c = 10)
noncomputable def ps_al (c : Int) : Bool := decide (97 ≤ c) && decide (c ≤ 122)
noncomputable def ps_dg (c : Int) : Bool := decide (48 ≤ c) && decide (c ≤ 57)
noncomputable def ps_sg (c : Int) : Bool := (decide (c = 59) || (decide (c = 60) || decide (c = 61))) || ((decide (40 ≤ c) && decide (c ≤ 43)) || (decide (c = 45) || decide (c = 47)))
/-- the first place from p on, at most k further, whose byte isn't as f says -/
noncomputable def ps_wh (f : Int → Bool) (A : Nat → Int) (n : Nat) : Nat → Nat → Nat
  | 0, p => p
  | k + 1, p => if f (ps_b A n p) = true then ps_wh f A n k (p + 1) else p
noncomputable def ps_W (f : Int → Bool) (A : Nat → Int) (n p s : Nat) : Prop := p ≤ s ∧ (∀ i, p ≤ i → i < s → f (ps_b A n i) = true) ∧ f (ps_b A n s) = false
section PSA
variable {f : Int → Bool} {A : Nat → Int} {n : Nat}
theorem ps_b_lt {i : Nat} (h : i < n) : ps_b A n i = A i := if_pos h
theorem ps_b_ge {i : Nat} (h : n ≤ i) : ps_b A n i = -1 := if_neg (by omega)
theorem ps_W_u {p s t : Nat} (h : ps_W f A n p s) (g : ps_W f A n p t) : s = t := by
  rcases Nat.lt_trichotomy s t with w | w | w
  · have := g.2.1 s h.1 w
    rw [h.2.2] at this
    cases this
  · exact w
  · have := h.2.1 t g.1 w
    rw [g.2.2] at this
    cases this
theorem ps_wh_ok (hf : f (-1) = false) : ∀ k p, n ≤ p + k → ps_W f A n p (ps_wh f A n k p)
  | 0, p, h => ⟨Nat.le_refl _, fun i h1 h2 => absurd h2 (by show ¬ i < p; omega), by
    show f (ps_b A n p) = false
    rw [ps_b_ge (by omega)]
    exact hf⟩
  | k + 1, p, h => by
    unfold ps_wh
    by_cases c : f (ps_b A n p) = true
    · rw [if_pos c]
      obtain ⟨h1, h2, h3⟩ := ps_wh_ok hf k (p + 1) (by omega)
      refine ⟨by omega, fun i i1 i2 => ?_, h3⟩
      by_cases e : i = p
      · rw [e]
        exact c
      · exact h2 i (by omega) i2
    · rw [if_neg c]
      exact ⟨Nat.le_refl _, fun i h1 h2 => by omega, by rw [Bool.not_eq_true] at c; exact c⟩
theorem ps_W_le (hf : f (-1) = false) {p s : Nat} (hp : p ≤ n) (h : ps_W f A n p s) : s ≤ n := by
  rcases Nat.lt_or_ge n s with w | w
  · have := h.2.1 n hp w
    rw [ps_b_ge (Nat.le_refl _), hf] at this
    cases this
  · exact w
theorem ps_f1 : ps_bl (-1) = false ∧ ps_al (-1) = false ∧ ps_dg (-1) = false ∧ ps_sg (-1) = false := by decide
end PSA
/-- a token from p on: where it begins, its first byte, its kind, where it ends -/
noncomputable def ps_st (A : Nat → Int) (n p : Nat) : Nat := ps_wh ps_bl A n n p
noncomputable def ps_c (A : Nat → Int) (n p : Nat) : Int := ps_b A n (ps_st A n p)
noncomputable def ps_tk (A : Nat → Int) (n p : Nat) : Nat := if ps_c A n p = -1 then 0 else if ps_al (ps_c A n p) = true then 2 else if ps_dg (ps_c A n p) = true then 1 else if ps_sg (ps_c A n p) = true then 3 else 4
noncomputable def ps_en (A : Nat → Int) (n p : Nat) : Nat := if ps_c A n p = -1 then ps_st A n p else if ps_al (ps_c A n p) = true then ps_wh ps_al A n n (ps_st A n p) else if ps_dg (ps_c A n p) = true then ps_wh ps_dg A n n (ps_st A n p) else ps_st A n p + 1
/-- a number's value: -1 where it is too long -/
noncomputable def ps_dec (A : Nat → Int) (s : Nat) : Nat → Int
  | 0 => 0
  | k + 1 => ps_dec A s k * 10 + A (s + k) - 48
noncomputable def ps_nv (A : Nat → Int) (s e : Nat) : Int := if e - s ≤ 5 then ps_dec A s (e - s) else -1
/-- a word: whether it is the k-th; its code -/
noncomputable def ps_m (A : Nat → Int) (k s e : Nat) : Bool := decide (e - s = rd_n k) && (List.range (rd_n k)).all (fun j => decide (A (s + j) = ps_ch k j))
noncomputable def ps_wd (A : Nat → Int) (s e : Nat) : Int := if ps_m A 0 s e = true then -1 else if ps_m A 1 s e = true then -2 else if ps_m A 2 s e = true then -3 else if ps_m A 3 s e = true then -4 else if ps_m A 4 s e = true then -5 else if ps_m A 8 s e = true then -15 else if ps_m A 9 s e = true then -16 else if ps_m A 5 s e = true then -12 else if ps_m A 6 s e = true then -13 else if ps_m A 7 s e = true then -14 else -17
noncomputable def ps_vl (A : Nat → Int) (n p : Nat) : Int := if ps_tk A n p = 1 then ps_nv A (ps_st A n p) (ps_en A n p) else if ps_tk A n p = 2 then ps_wd A (ps_st A n p) (ps_en A n p) else ps_c A n p
noncomputable def ps_A (A : Nat → Int) (n : Nat) : Prop := n ≤ 200 ∧ ∀ i, i < n → 0 ≤ A i ∧ A i ≤ 255
section PSB
variable {A : Nat → Int} {n : Nat}
theorem ps_st_W (p : Nat) : ps_W ps_bl A n p (ps_st A n p) := ps_wh_ok ps_f1.1 n p (by omega)
theorem ps_st_le {p : Nat} (h : p ≤ n) : p ≤ ps_st A n p ∧ ps_st A n p ≤ n := ⟨(ps_st_W p).1, ps_W_le ps_f1.1 h (ps_st_W p)⟩
theorem ps_c_end (hA : ps_A A n) (p : Nat) : ps_c A n p = -1 ↔ n ≤ ps_st A n p := by
  unfold ps_c ps_b
  by_cases c : ps_st A n p < n
  · rw [if_pos c]
    have := hA.2 _ c
    omega
  · rw [if_neg c]
    omega
theorem ps_tk_end {p : Nat} : ps_tk A n p = 0 ↔ ps_c A n p = -1 := by
  unfold ps_tk
  split
  · rename_i h
    exact ⟨fun _ => h, fun _ => rfl⟩
  · rename_i h
    split
    · exact ⟨fun q => by omega, fun q => absurd q h⟩
    · split
      · exact ⟨fun q => by omega, fun q => absurd q h⟩
      · split
        · exact ⟨fun q => by omega, fun q => absurd q h⟩
        · exact ⟨fun q => by omega, fun q => absurd q h⟩
theorem ps_tk4 {p : Nat} : ps_tk A n p ≤ 4 := by
  unfold ps_tk
  split
  · omega
  · split
    · omega
    · split
      · omega
      · split <;> omega
theorem ps_wh1 {f : Int → Bool} (hf : f (-1) = false) {s : Nat} (hs : s ≤ n) (h : f (ps_b A n s) = true) : s < ps_wh f A n n s ∧ ps_wh f A n n s ≤ n := by
  have w := ps_wh_ok (A := A) (n := n) hf n s (by omega)
  refine ⟨?_, ps_W_le hf hs w⟩
  rcases Nat.lt_or_ge s (ps_wh f A n n s) with q | q
  · exact q
  · exfalso
    have e : ps_wh f A n n s = s := by have := w.1; omega
    have := w.2.2
    rw [e, h] at this
    cases this
/-- a token that is one ends behind its beginning, within the text -/
theorem ps_en_le (hA : ps_A A n) {p : Nat} (hp : p ≤ n) (h : ps_tk A n p ≠ 0) : ps_st A n p < ps_en A n p ∧ ps_en A n p ≤ n := by
  have c1 : ps_c A n p ≠ -1 := fun e => h (ps_tk_end.mpr e)
  have s1 := ps_st_le (A := A) hp
  have s2 : ps_st A n p < n := by
    rcases Nat.lt_or_ge (ps_st A n p) n with w | w
    · exact w
    · exact absurd ((ps_c_end hA p).mpr w) c1
  unfold ps_en
  rw [if_neg c1]
  split
  · rename_i q
    exact ps_wh1 ps_f1.2.1 s1.2 q
  · split
    · rename_i q
      exact ps_wh1 ps_f1.2.2.1 s1.2 q
    · omega
theorem ps_en_0 (hA : ps_A A n) {p : Nat} (hp : p ≤ n) (h : ps_tk A n p = 0) : ps_en A n p = ps_st A n p ∧ ps_st A n p = n := by
  have c1 := ps_tk_end.mp h
  have := (ps_c_end hA p).mp c1
  have := ps_st_le (A := A) hp
  unfold ps_en
  rw [if_pos c1]
  exact ⟨rfl, by omega⟩
end PSB
