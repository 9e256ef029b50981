/-! ASKED: both sides answer alike -/
theorem am_n_dn {A : Nat → Int} {k : Nat} (h : am_n A k < k) : ∀ d, am_n A (k + d) = am_n A k
  | 0 => rfl
  | d + 1 => by
    have ih := am_n_dn h d
    show am_n A (k + d + 1) = _
    rw [am_n_s, if_neg (fun w => by have := w.1; omega)]
    exact ih
theorem am_n_up {A : Nat → Int} {k : Nat} (h : am_n A k = k) : ∀ d, k ≤ am_n A (k + d)
  | 0 => Nat.le_of_eq h.symm
  | d + 1 => by
    have ih := am_n_up h d
    show k ≤ am_n A (k + d + 1)
    rw [am_n_s]
    split
    · omega
    · exact ih
theorem am_n_pre {A : Nat → Int} : ∀ k j, j ≤ am_n A k → am_n A j = j
  | 0, j, h => by
    have h : j ≤ 0 := h
    have e : j = 0 := by omega
    subst e
    rfl
  | k + 1, j, h => by
    by_cases c : am_n A k = k ∧ A (k + 1) ≠ -1
    · by_cases e : j = k + 1
      · subst e
        rw [am_n_s, if_pos c]
      · rw [am_n_s, if_pos c] at h
        exact am_n_pre k j (by omega)
    · rw [am_n_s, if_neg c] at h
      exact am_n_pre k j h
theorem am_S_b {A : Nat → Int} (hA : ∀ j, A j = -1 ∨ (0 ≤ A j ∧ A j ≤ 9999)) : ∀ k, k ≤ 7 → am_n A k = k → 0 ≤ am_S A k ∧ am_S A k ≤ 9999 * (k : Int)
  | 0, _, _ => ⟨Int.le_refl 0, Int.le_refl 0⟩
  | k + 1, h7, h => by
    have c : am_n A k = k ∧ A (k + 1) ≠ -1 := by
      by_cases c : am_n A k = k ∧ A (k + 1) ≠ -1
      · exact c
      · exfalso
        rw [am_n_s, if_neg c] at h
        have := am_n_le (A := A) k
        omega
    have ih := am_S_b hA k (by omega) c.1
    have a := hA (k + 1)
    have c2 := c.2
    have e : am_S A (k + 1) = am_S A k + A (k + 1) := by
      show ai_op 0 (am_S A k) (A (k + 1)) = _
      exact wq_o0 (by omega) (by omega)
    rw [e]
    omega
noncomputable def rq_v (A : Nat → Int) (u : Nat) : Int := if am_n A (u - 1) = u - 1 then A u else -1
theorem rq_eq {A : Nat → Int} {u mo : Nat} (hA : ∀ j, A j = -1 ∨ (0 ≤ A j ∧ A j ≤ 9999)) (hu : 1 ≤ u) (hm : u ≤ mo) (h7 : mo ≤ 7) : as_v A u (am_n A mo) = rq_v A u := by
  obtain ⟨w, rfl⟩ : ∃ w, u = w + 1 := ⟨u - 1, by omega⟩
  have ew : w + 1 - 1 = w := Nat.add_sub_cancel w 1
  unfold as_v rq_v
  rw [ew]
  by_cases c : w + 1 ≤ am_n A mo
  · have e0 := am_n_pre (A := A) mo w (by omega)
    rw [if_pos c, if_pos e0]
    have b := am_S_b hA w (by omega) e0
    have a := hA (w + 1)
    have e : am_S A (w + 1) = am_S A w + A (w + 1) := by
      show ai_op 0 (am_S A w) (A (w + 1)) = _
      exact wq_o0 (by omega) (by omega)
    rw [e, wq_o1 (by omega) (by omega)]
    omega
  · rw [if_neg c]
    by_cases e0 : am_n A w = w
    · rw [if_pos e0]
      by_cases x : A (w + 1) = -1
      · exact x.symm
      · exfalso
        have e1 : am_n A (w + 1) = w + 1 := by rw [am_n_s, if_pos ⟨e0, x⟩]
        have := am_n_up e1 (mo - (w + 1))
        rw [show w + 1 + (mo - (w + 1)) = mo by omega] at this
        exact c this
    · rw [if_neg e0]
