/-! THE LEAST: the class leaves rows that can't be cheaper, or can't come to all -/
noncomputable def ze_zc (lo hi : Nat → Nat) (C : Nat → Nat → Int) (F : (Nat → Int) → Bool) : Nat → Nat → Nat → Int → (Nat → Int) → ze_S → ze_S
  | 0, _, left, sum, t, s => if s.1 ≠ -1 ∧ s.1 ≤ sum then s else if left = 0 ∧ F t = true then (sum, t) else s
  | d + 1, m, left, sum, t, s => if s.1 ≠ -1 ∧ s.1 ≤ sum then s else ze_lp (fun u s => if left - u ≤ ze_sm hi d (m + 1) then ze_zc lo hi C F d (m + 1) (left - u) (sum + C m u) (ze_up t m (u : Int)) s else s) (ze_n (hi m) (lo m) left) (lo m) s
theorem ze_zc_eq {lo hi : Nat → Nat} {C : Nat → Nat → Int} {F : (Nat → Int) → Bool} (hC : ∀ m u, u ≤ hi m → 0 ≤ C m u) : ∀ {d m left : Nat} {sum : Int} {t : Nat → Int} {s : ze_S}, ze_zc lo hi C F d m left sum t s = ze_go lo hi C F d m left sum t s
  | 0, m, left, sum, t, s => by
    show (if s.1 ≠ -1 ∧ s.1 ≤ sum then s else if left = 0 ∧ F t = true then (sum, t) else s) = ze_lf F left sum t s
    by_cases h : s.1 ≠ -1 ∧ s.1 ≤ sum
    · rw [if_pos h]
      exact (ze_dom (lo := lo) (m := m) (d := 0) hC h.1 h.2).symm
    · rw [if_neg h]
      have g : s.1 = -1 ∨ sum < s.1 := by
        by_cases a : s.1 = -1
        · exact Or.inl a
        · exact Or.inr (by
            have : ¬ s.1 ≤ sum := fun b => h ⟨a, b⟩
            omega)
      unfold ze_lf
      by_cases q : left = 0 ∧ F t = true
      · rw [if_pos q, if_pos ⟨q.1, g, q.2⟩]
      · rw [if_neg q, if_neg (fun w => q ⟨w.1, w.2.2⟩)]
  | d + 1, m, left, sum, t, s => by
    show (if s.1 ≠ -1 ∧ s.1 ≤ sum then s else ze_lp (fun u s => if left - u ≤ ze_sm hi d (m + 1) then ze_zc lo hi C F d (m + 1) (left - u) (sum + C m u) (ze_up t m (u : Int)) s else s) (ze_n (hi m) (lo m) left) (lo m) s) = ze_go lo hi C F (d + 1) m left sum t s
    by_cases h : s.1 ≠ -1 ∧ s.1 ≤ sum
    · rw [if_pos h]
      exact (ze_dom hC h.1 h.2).symm
    · rw [if_neg h]
      show _ = ze_lp (fun u s => ze_go lo hi C F d (m + 1) (left - u) (sum + C m u) (ze_up t m (u : Int)) s) (ze_n (hi m) (lo m) left) (lo m) s
      refine ze_lp_c (fun k s a b => ?_)
      by_cases q : left - k ≤ ze_sm hi d (m + 1)
      · show (if left - k ≤ ze_sm hi d (m + 1) then _ else s) = _
        rw [if_pos q]
        exact ze_zc_eq hC
      · show (if left - k ≤ ze_sm hi d (m + 1) then _ else s) = _
        rw [if_neg q]
        exact (ze_rm (by omega)).symm
