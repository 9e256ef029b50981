/-! THE LEAST: rows of units, tried in their order -/
abbrev ze_S : Type := Int × (Nat → Int)
noncomputable def ze_up (t : Nat → Int) (m : Nat) (u : Int) : Nat → Int := fun k => if k = m then u else t k
noncomputable def ze_lp (f : Nat → ze_S → ze_S) : Nat → Nat → ze_S → ze_S
  | 0, _, s => s
  | n + 1, u, s => ze_lp f n (u + 1) (f u s)
noncomputable def ze_lf (F : (Nat → Int) → Bool) (left : Nat) (sum : Int) (t : Nat → Int) (s : ze_S) : ze_S := if left = 0 ∧ ((s.1 = -1 ∨ sum < s.1) ∧ F t = true) then (sum, t) else s
noncomputable def ze_n (hi lo left : Nat) : Nat := min hi left + 1 - lo
/-- d mills from m on, so many units left, so much coin so far -/
noncomputable def ze_go (lo hi : Nat → Nat) (C : Nat → Nat → Int) (F : (Nat → Int) → Bool) : Nat → Nat → Nat → Int → (Nat → Int) → ze_S → ze_S
  | 0, _, left, sum, t, s => ze_lf F left sum t s
  | d + 1, m, left, sum, t, s => ze_lp (fun u s => ze_go lo hi C F d (m + 1) (left - u) (sum + C m u) (ze_up t m (u : Int)) s) (ze_n (hi m) (lo m) left) (lo m) s
theorem ze_lp_id {f : Nat → ze_S → ze_S} {s : ze_S} : ∀ {n u : Nat}, (∀ k, u ≤ k → k < u + n → f k s = s) → ze_lp f n u s = s
  | 0, _, _ => rfl
  | n + 1, u, h => by
    show ze_lp f n (u + 1) (f u s) = s
    rw [h u (Nat.le_refl u) (by omega)]
    exact ze_lp_id (fun k a b => h k (by omega) (by omega))
theorem ze_lp_c {f g : Nat → ze_S → ze_S} : ∀ {n u : Nat} {s : ze_S}, (∀ k s, u ≤ k → k < u + n → f k s = g k s) → ze_lp f n u s = ze_lp g n u s
  | 0, _, _, _ => rfl
  | n + 1, u, s, h => by
    show ze_lp f n (u + 1) (f u s) = ze_lp g n (u + 1) (g u s)
    rw [h u s (Nat.le_refl u) (by omega)]
    exact ze_lp_c (fun k s a b => h k s (by omega) (by omega))
theorem ze_lp_r {f g : Nat → ze_S → ze_S} {R : ze_S → ze_S → Prop} : ∀ {n u : Nat} {s s' : ze_S}, (∀ k s s', u ≤ k → k < u + n → R s s' → R (f k s) (g k s')) → R s s' → R (ze_lp f n u s) (ze_lp g n u s')
  | 0, _, _, _, _, h => h
  | n + 1, u, s, s', h, h0 => ze_lp_r (f := f) (g := g) (R := R) (n := n) (u := u + 1) (fun k s s' a b => h k s s' (by omega) (by omega)) (h u s s' (Nat.le_refl u) (by omega) h0)
theorem ze_k {hi lo left k : Nat} (h : k < lo + ze_n hi lo left) (h2 : lo ≤ k) : k ≤ hi ∧ k ≤ left := by
  unfold ze_n at h
  have a : min hi left ≤ hi := Nat.min_le_left _ _
  have b : min hi left ≤ left := Nat.min_le_right _ _
  omega
/-- the loop, as it runs -/
theorem ze_lp_on {f : Nat → ze_S → ze_S} {hi left u : Nat} {s : ze_S} (h1 : u ≤ hi) (h2 : u ≤ left) : ze_lp f (ze_n hi u left) u s = ze_lp f (ze_n hi (u + 1) left) (u + 1) (f u s) := by
  have e : ze_n hi u left = ze_n hi (u + 1) left + 1 := by
    unfold ze_n
    have : u ≤ min hi left := Nat.le_min.mpr ⟨h1, h2⟩
    omega
  rw [e]
  rfl
theorem ze_lp_off {f : Nat → ze_S → ze_S} {hi left u : Nat} {s : ze_S} (h : hi < u ∨ left < u) : ze_lp f (ze_n hi u left) u s = s := by
  have e : ze_n hi u left = 0 := by
    unfold ze_n
    have a : min hi left ≤ hi := Nat.min_le_left _ _
    have b : min hi left ≤ left := Nat.min_le_right _ _
    omega
  rw [e]
  rfl
section ZEA
variable {lo hi : Nat → Nat} {C : Nat → Nat → Int} {F : (Nat → Int) → Bool}
/-- what isn't cheaper changes nothing -/
theorem ze_dom (hC : ∀ m u, u ≤ hi m → 0 ≤ C m u) : ∀ {d m left : Nat} {sum : Int} {t : Nat → Int} {s : ze_S}, s.1 ≠ -1 → s.1 ≤ sum → ze_go lo hi C F d m left sum t s = s
  | 0, m, left, sum, t, s, h1, h2 => by
    show ze_lf F left sum t s = s
    unfold ze_lf
    rw [if_neg (fun w => by
      rcases w.2.1 with a | a
      · exact h1 a
      · omega)]
  | d + 1, m, left, sum, t, s, h1, h2 => by
    show ze_lp _ _ _ s = s
    refine ze_lp_id (fun k a b => ?_)
    have c := ze_k b a
    have e := hC m k c.1
    exact ze_dom hC h1 (by omega)
noncomputable def ze_sm (hi : Nat → Nat) : Nat → Nat → Nat
  | 0, _ => 0
  | d + 1, m => hi m + ze_sm hi d (m + 1)
/-- more left than all behind can make -/
theorem ze_rm : ∀ {d m left : Nat} {sum : Int} {t : Nat → Int} {s : ze_S}, ze_sm hi d m < left → ze_go lo hi C F d m left sum t s = s
  | 0, m, left, sum, t, s, h => by
    have h : 0 < left := h
    show ze_lf F left sum t s = s
    unfold ze_lf
    rw [if_neg (fun w => by omega)]
  | d + 1, m, left, sum, t, s, h => by
    have h : hi m + ze_sm hi d (m + 1) < left := h
    show ze_lp _ _ _ s = s
    refine ze_lp_id (fun k a b => ?_)
    have c := ze_k b a
    exact ze_rm (by omega)
/-- a mill that can't be at all -/
theorem ze_em : ∀ {d m left : Nat} {sum : Int} {t : Nat → Int} {s : ze_S}, (∃ k, m ≤ k ∧ k < m + d ∧ hi k < lo k) → ze_go lo hi C F d m left sum t s = s
  | 0, m, left, sum, t, s, h => by
    obtain ⟨k, a, b, -⟩ := h
    omega
  | d + 1, m, left, sum, t, s, h => by
    obtain ⟨k, a, b, c⟩ := h
    show ze_lp _ (ze_n (hi m) (lo m) left) _ s = s
    by_cases e : k = m
    · subst e
      exact ze_lp_off (Or.inl c)
    · exact ze_lp_id (fun j a2 b2 => ze_em ⟨k, by omega, by omega, c⟩)
/-- mills that make nothing -/
theorem ze_pad : ∀ {e m left : Nat} {sum : Int} {t : Nat → Int} {s : ze_S}, (∀ k, m ≤ k → k < m + e → lo k = 0 ∧ hi k = 0 ∧ C k 0 = 0) → ze_go lo hi C F e m left sum t s = ze_lf F left sum (fun k => if m ≤ k ∧ k < m + e then 0 else t k) s
  | 0, m, left, sum, t, s, _ => by
    show ze_lf F left sum t s = _
    refine congrArg (fun z => ze_lf F left sum z s) ?_
    funext k
    rw [if_neg (by omega)]
  | e + 1, m, left, sum, t, s, h => by
    obtain ⟨h1, h2, h3⟩ := h m (Nat.le_refl m) (by omega)
    show ze_lp (fun u s => ze_go lo hi C F e (m + 1) (left - u) (sum + C m u) (ze_up t m (u : Int)) s) (ze_n (hi m) (lo m) left) (lo m) s = _
    rw [h1, h2, ze_lp_on (Nat.le_refl 0) (Nat.zero_le left), ze_lp_off (Or.inl (Nat.succ_pos 0)), h3, Int.add_zero]
    show ze_go lo hi C F e (m + 1) (left - 0) sum (ze_up t m ((0 : Nat) : Int)) s = _
    rw [Nat.sub_zero, ze_pad (fun k a b => h k (by omega) (by omega))]
    refine congrArg (fun z => ze_lf F left sum z s) ?_
    funext k
    by_cases q : m + 1 ≤ k ∧ k < m + 1 + e
    · rw [if_pos q, if_pos (by omega)]
    · rw [if_neg q]
      unfold ze_up
      by_cases w : k = m
      · rw [if_pos w, if_pos (by omega)]
        rfl
      · rw [if_neg w, if_neg (by omega)]
end ZEA
