/-! the matrix -/
noncomputable def rb_add (a b : Nat) (s : Int) (p : Nat → Int) : Nat → Int := fun x => if x = 5 * a then ai_op 20 (p x) s else if x = 5 * b then ai_op 20 (p x) s else if x = 4 * a + b then ai_op 21 (p x) s else if x = 4 * b + a then ai_op 21 (p x) s else p x
noncomputable def rb_mx (r : Nat → Int) : Nat → Nat → Int
  | 0 => fun _ => 0
  | l + 1 => if (l : Int) + 1 ≤ r 123 then rb_add (r (164 + l)).toNat (r (169 + l)).toNat (r (174 + l)) (rb_mx r l) else rb_mx r l
noncomputable def rb_ok (r : Nat → Int) : Prop := ∀ l : Nat, l < 5 → (l : Int) + 1 ≤ r 123 → r (164 + l) ≠ r (169 + l) ∧ r (164 + l) + 1 ≤ r 122 ∧ r (169 + l) + 1 ≤ r 122
noncomputable def rb_i9 (r r' : Nat → Int) : Prop := ∀ t, t < 338 → ¬(196 ≤ t ∧ t < 212) → r' t = r t
theorem rb_aW_ok {r : Nat → Int} {l a b q : Nat} (hl : l < 5) (ha : a < 4) (hb : b < 4) (hab : a ≠ b) (hq : q < 16) : pt_up r (rb_lW l a b ++ rb_aW l a b) (196 + q) = rb_add a b (r (174 + l)) (fun x => r (196 + x)) q := by
  show (if 196 + q = 164 + l then _ else if 196 + q = 169 + l then _ else if 196 + q = 196 + 5 * a then ai_op 20 (r (196 + 5 * a)) (r (174 + l)) else if 196 + q = 196 + 5 * b then ai_op 20 (r (196 + 5 * b)) (r (174 + l)) else if 196 + q = 196 + (4 * a + b) then ai_op 21 (r (196 + (4 * a + b))) (r (174 + l)) else if 196 + q = 196 + (4 * b + a) then ai_op 21 (r (196 + (4 * b + a))) (r (174 + l)) else r (196 + q)) = if q = 5 * a then ai_op 20 (r (196 + q)) (r (174 + l)) else if q = 5 * b then ai_op 20 (r (196 + q)) (r (174 + l)) else if q = 4 * a + b then ai_op 21 (r (196 + q)) (r (174 + l)) else if q = 4 * b + a then ai_op 21 (r (196 + q)) (r (174 + l)) else r (196 + q)
  rw [if_neg (by omega), if_neg (by omega)]
  by_cases e1 : q = 5 * a
  · rw [if_pos (by omega), if_pos e1, e1]
  rw [if_neg (by omega), if_neg e1]
  by_cases e2 : q = 5 * b
  · rw [if_pos (by omega), if_pos e2, e2]
  rw [if_neg (by omega), if_neg e2]
  by_cases e3 : q = 4 * a + b
  · rw [if_pos (by omega), if_pos e3, e3]
  rw [if_neg (by omega), if_neg e3]
  by_cases e4 : q = 4 * b + a
  · rw [if_pos (by omega), if_pos e4, e4]
  rw [if_neg (by omega), if_neg e4]
theorem rb_aW_ne {r : Nat → Int} {l a b t : Nat} (ha : r (164 + l) = (a : Int)) (hb : r (169 + l) = (b : Int)) (h : ¬(196 ≤ t ∧ t < 212)) (ha4 : a < 4) (hb4 : b < 4) : pt_up r (rb_lW l a b ++ rb_aW l a b) t = r t := by
  show (if t = 164 + l then pt_v r (ra_c a) else if t = 169 + l then pt_v r (ra_c b) else if t = 196 + 5 * a then _ else if t = 196 + 5 * b then _ else if t = 196 + (4 * a + b) then _ else if t = 196 + (4 * b + a) then _ else r t) = r t
  by_cases e1 : t = 164 + l
  · rw [if_pos e1, e1, ha]
    rfl
  rw [if_neg e1]
  by_cases e2 : t = 169 + l
  · rw [if_pos e2, e2, hb]
    rfl
  rw [if_neg e2, if_neg (by omega), if_neg (by omega), if_neg (by omega), if_neg (by omega)]
theorem rb_add_c {a b : Nat} {s s' : Int} {p p' : Nat → Int} (hs : s = s') (h : ∀ x, x < 16 → p x = p' x) : ∀ x, x < 16 → rb_add a b s p x = rb_add a b s' p' x := fun x hx => by
  subst hs
  unfold rb_add
  rw [h x hx]
section RBM
variable {n : Nat} {P : pt_P} {r : Nat → Int} {M : Nat → Nat → Int} {Z : (Nat → Int) → (Nat → Nat → Int) → Option Int → Prop}
theorem rb_mloop (h : pt_Cl n 213 rbY 0 Z P) (hok : rb_ok r) (hZ : ∀ r', (∀ q, q < 16 → r' (196 + q) = rb_mx r 5 q) → rb_i9 r r' → P (167, 0, 0) [rb_264, rb_k 0, ra_u, ra_u, ra_u] [] r' M) : ∀ (d l : Nat) (r' : Nat → Int), 5 - l = d → l ≤ 5 → (∀ q, q < 16 → r' (196 + q) = rb_mx r l q) → rb_i9 r r' → P (23, 0, 0) (rb_nL l) [] r' M := by
  obtain ⟨hseg, henv, hrel, -⟩ := h
  have exit : ∀ (l : Nat) (r' : Nat → Int), l ≤ 5 → r 123 ≤ (l : Int) → (∀ q, q < 16 → r' (196 + q) = rb_mx r l q) → rb_i9 r r' → P (23, 0, 0) (rb_nL l) [] r' M := fun l r' hl hln hq hi => by
    refine henv _ _ _ _ _ (fun hE _ => ?_)
    have b := rb_eb hE rb_bnd.1
    have e : r' 123 = r 123 := hi _ (by omega) (by omega)
    refine hseg _ _ _ _ _ _ _ _ _ _ _ _ (List.all_eq_true.mp rb_n_x l (List.mem_range.mpr (by omega))) ⟨pt_m0, pt_m1 ⟨b.1, by show r' 123 ≤ (l : Int); omega⟩, pt_m0⟩ ⟨fun _ => ?_, trivial⟩
    refine hrel _ _ [rb_264, rb_k 0, ra_u, ra_u, ra_u] _ [] _ _ ⟨rfl, ⟨rb_N0, rfl⟩, trivial, trivial, trivial, trivial⟩ trivial (hZ _ (fun q h9 => ?_) hi)
    refine Eq.trans (hq q h9) ?_
    have go : ∀ k, rb_mx r (l + k) = rb_mx r l := fun k => by
      induction k with
      | zero => rfl
      | succ k ih =>
        show (if ((l + k : Nat) : Int) + 1 ≤ r 123 then rb_add _ _ _ (rb_mx r (l + k)) else rb_mx r (l + k)) = _
        rw [if_neg (by omega), ih]
    have := go (5 - l)
    rw [show l + (5 - l) = 5 by omega] at this
    rw [this]
  intro d
  induction d with
  | zero =>
    intro l r' hd hl hq hi
    refine henv _ _ _ _ _ (fun hE _ => ?_)
    have b := rb_eb hE rb_bnd.1
    have e : r' 123 = r 123 := hi _ (by omega) (by omega)
    exact exit l r' hl (by omega) hq hi
  | succ d ih =>
    intro l r' hd hl hq hi
    by_cases hln : r 123 ≤ (l : Int)
    · exact exit l r' hl hln hq hi
    refine henv _ _ _ _ _ (fun hE _ => ?_)
    obtain ⟨m1, m2, m3⟩ := rb_bnd
    obtain ⟨m4, m5, m6⟩ := m3 l (by omega)
    have b := rb_eb hE m1
    have b4 := rb_eb hE m4
    have b5 := rb_eb hE m5
    have e : r' 123 = r 123 := hi _ (by omega) (by omega)
    have e4 : r' (164 + l) = r (164 + l) := hi _ (by omega) (by omega)
    have e5 : r' (169 + l) = r (169 + l) := hi _ (by omega) (by omega)
    have e6 : r' (174 + l) = r (174 + l) := hi _ (by omega) (by omega)
    obtain ⟨a, ha⟩ : ∃ a : Nat, r' (164 + l) = (a : Int) := ⟨(r' (164 + l)).toNat, by omega⟩
    obtain ⟨c, hc⟩ : ∃ c : Nat, r' (169 + l) = (c : Int) := ⟨(r' (169 + l)).toNat, by omega⟩
    have hne : a ≠ c := fun q => (hok l (by omega) (by omega)).1 (by rw [← e4, ← e5, ha, hc, q])
    have row := List.all_eq_true.mp (List.all_eq_true.mp (List.all_eq_true.mp rb_n_c l (List.mem_range.mpr (by omega))) a (List.mem_range.mpr (by omega))) c (List.mem_range.mpr (by omega))
    rw [Bool.or_eq_true] at row
    rcases row with row | row
    · exact absurd (Nat.eq_of_beq_eq_true row) hne
    refine hseg _ _ _ _ _ _ _ _ _ _ _ _ row ⟨pt_m2 ha hc, pt_m1 ⟨by show (((l + 1 : Nat) : Int)) ≤ r' 123; omega, b.2⟩, pt_m0⟩ ⟨fun _ => ?_, trivial⟩
    refine ih (l + 1) (pt_up r' (rb_lW l a c ++ rb_aW l a c)) (by omega) (by omega) (fun q h9 => ?_) (fun t ht hn => ?_)
    · rw [rb_aW_ok (by omega) (by omega) (by omega) hne h9]
      show _ = (if (l : Int) + 1 ≤ r 123 then rb_add (r (164 + l)).toNat (r (169 + l)).toNat (r (174 + l)) (rb_mx r l) else rb_mx r l) q
      rw [if_pos (by omega), ← e4, ← e5, ← e6, ha, hc]
      exact rb_add_c rfl (fun x hx => hq x hx) q h9
    · rw [rb_aW_ne ha hc hn (by omega) (by omega)]
      exact hi t ht hn
end RBM
