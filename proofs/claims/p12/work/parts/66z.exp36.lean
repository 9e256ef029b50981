/-! p14's -/
noncomputable def fy_e (a b i : Nat) : Int := if i = a then 1 else if i = b then -1 else 0
noncomputable def fy_lap (en : Nat → Nat × Nat) (st : Nat → Int) : Nat → Nat → Nat → Int
  | 0, _, _ => 0
  | l + 1, i, j => fy_lap en st l i j + st l * (fy_e (en l).1 (en l).2 i * fy_e (en l).1 (en l).2 j)
theorem fy_e3 (a b i : Nat) : fy_e a b i = 1 ∨ fy_e a b i = -1 ∨ fy_e a b i = 0 := by
  unfold fy_e
  by_cases h : i = a
  · exact Or.inl (if_pos h)
  · rw [if_neg h]
    by_cases g : i = b
    · exact Or.inr (Or.inl (if_pos g))
    · exact Or.inr (Or.inr (if_neg g))
noncomputable def ra_c (k : Nat) : pt_X := [(1, 0, .ofNat k)]
noncomputable def ra_s (t : Nat) : pt_X := [(0, t, 0)]
theorem ra_up_ne {r : Nat → Int} : ∀ {W : List (Nat × pt_X)} {t : Nat}, (∀ q ∈ W, t ≠ q.1) → pt_up r W t = r t
  | [], _, _ => rfl
  | q :: W, t, h => by
    unfold pt_up
    rw [if_neg (h q List.mem_cons_self)]
    exact ra_up_ne (fun z hz => h z (List.mem_cons_of_mem _ hz))
noncomputable def rb_up (l o t : Nat) : Nat × pt_X := (390 + t, [(0, 390 + t, 0), (0, 123 + l, 0), (2, o, 0)])
noncomputable def rb_aW (l a b : Nat) : List (Nat × pt_X) := [rb_up l 20 (5 * a), rb_up l 20 (5 * b), rb_up l 21 (4 * a + b), rb_up l 21 (4 * b + a)]
noncomputable def rb_lW (l a b : Nat) : List (Nat × pt_X) := [(113 + l, ra_c a), (118 + l, ra_c b)]
noncomputable def rb_0W : List (Nat × pt_X) := (List.range 16).map (fun q => (390 + q, ra_c 0))
/-- a determinant by rows and columns that are left, as the reference tells it -/
noncomputable def rb_dt : List Nat → List Nat → pt_X
  | [], _ => [(1, 0, 1)]
  | i :: rows, cols => (cols.foldl (fun (z : pt_X × Int) c => (z.1 ++ [(1, 0, z.2), (0, 390 + 4 * i + c, 0), (2, 22, 0)] ++ rb_dt rows (cols.filter (fun x => !(Nat.beq x c))) ++ [(2, 22, 0), (2, 20, 0)], -z.2)) ([(1, 0, 0)], 1)).1
noncomputable def rb_dx (pl : Nat) : pt_X := rb_dt (List.range (pl - 1)) (List.range (pl - 1))
noncomputable def rb_hx (pl i j : Nat) : pt_X := match Nat.beq (i + 1) pl || Nat.beq (j + 1) pl with
  | true => [(1, 0, 0)]
  | false => match Nat.beq ((i + j) % 2) 0 with
    | true => rb_dt ((List.range (pl - 1)).filter (fun x => !(Nat.beq x j))) ((List.range (pl - 1)).filter (fun x => !(Nat.beq x i)))
    | false => [(1, 0, 0)] ++ rb_dt ((List.range (pl - 1)).filter (fun x => !(Nat.beq x j))) ((List.range (pl - 1)).filter (fun x => !(Nat.beq x i))) ++ [(2, 21, 0)]
noncomputable def rb_add (a b : Nat) (s : Int) (p : Nat → Int) : Nat → Int := fun x => if x = 5 * a then ai_op 20 (p x) s else if x = 5 * b then ai_op 20 (p x) s else if x = 4 * a + b then ai_op 21 (p x) s else if x = 4 * b + a then ai_op 21 (p x) s else p x
noncomputable def rb_mx (r : Nat → Int) : Nat → Nat → Int
  | 0 => fun _ => 0
  | l + 1 => if (l : Int) + 1 ≤ r 72 then rb_add (r (113 + l)).toNat (r (118 + l)).toNat (r (123 + l)) (rb_mx r l) else rb_mx r l
noncomputable def rb_ok (r : Nat → Int) : Prop := ∀ l : Nat, l < 5 → (l : Int) + 1 ≤ r 72 → r (113 + l) ≠ r (118 + l) ∧ r (113 + l) + 1 ≤ r 71 ∧ r (118 + l) + 1 ≤ r 71
theorem rb_aW_ok {r : Nat → Int} {l a b q : Nat} (hl : l < 5) (ha : a < 4) (hb : b < 4) (hab : a ≠ b) (hq : q < 16) : pt_up r (rb_lW l a b ++ rb_aW l a b) (390 + q) = rb_add a b (r (123 + l)) (fun x => r (390 + x)) q := by
  show (if 390 + q = 113 + l then _ else if 390 + q = 118 + l then _ else if 390 + q = 390 + 5 * a then ai_op 20 (r (390 + 5 * a)) (r (123 + l)) else if 390 + q = 390 + 5 * b then ai_op 20 (r (390 + 5 * b)) (r (123 + l)) else if 390 + q = 390 + (4 * a + b) then ai_op 21 (r (390 + (4 * a + b))) (r (123 + l)) else if 390 + q = 390 + (4 * b + a) then ai_op 21 (r (390 + (4 * b + a))) (r (123 + l)) else r (390 + q)) = if q = 5 * a then ai_op 20 (r (390 + q)) (r (123 + l)) else if q = 5 * b then ai_op 20 (r (390 + q)) (r (123 + l)) else if q = 4 * a + b then ai_op 21 (r (390 + q)) (r (123 + l)) else if q = 4 * b + a then ai_op 21 (r (390 + q)) (r (123 + l)) else r (390 + q)
  rw [if_neg (by omega), if_neg (by omega)]
  by_cases e1 : q = 5 * a
  · rw [if_pos (by omega), if_pos e1, e1]
  rw [if_neg (by omega), if_neg e1]
  by_cases e2 : q = 5 * b
  · rw [if_pos (by omega), if_pos e2, e2]
  rw [if_neg (by omega), if_neg e2]
  by_cases e3 : q = 4 * a + b
  · rw [if_pos (by omega), if_pos e3, e3]
  rw [if_neg (by omega), if_neg e3]
  by_cases e4 : q = 4 * b + a
  · rw [if_pos (by omega), if_pos e4, e4]
  rw [if_neg (by omega), if_neg e4]
theorem rb_add_c {a b : Nat} {s s' : Int} {p p' : Nat → Int} (hs : s = s') (h : ∀ x, x < 16 → p x = p' x) : ∀ x, x < 16 → rb_add a b s p x = rb_add a b s' p' x := fun x hx => by
  subst hs
  unfold rb_add
  rw [h x hx]
theorem rb_s1_c {r r2 : Nat → Int} {st : List Int} {q : Nat × Nat × Int} (h : q.1 = 0 → r q.2.1 = r2 q.2.1) : pt_s1 r st q = pt_s1 r2 st q := by
  obtain ⟨k, t, c⟩ := q
  match k, h with
  | 0, h =>
    have h := h rfl
    show r t :: st = r2 t :: st
    rw [show r t = r2 t from h]
  | 1, _ => rfl
  | 2, _ => rfl
  | k + 3, _ => rfl
theorem rb_fold_c {r r2 : Nat → Int} : ∀ {l : pt_X} {st : List Int}, (∀ q ∈ l, q.1 = 0 → r q.2.1 = r2 q.2.1) → l.foldl (pt_s1 r) st = l.foldl (pt_s1 r2) st
  | [], _, _ => rfl
  | q :: l, st, h => by
    show l.foldl (pt_s1 r) (pt_s1 r st q) = l.foldl (pt_s1 r2) (pt_s1 r2 st q)
    rw [rb_s1_c (h q List.mem_cons_self)]
    exact rb_fold_c (fun z hz => h z (List.mem_cons_of_mem _ hz))
theorem rb_v_c {r r2 : Nat → Int} {l : pt_X} (h : ∀ q ∈ l, q.1 = 0 → r q.2.1 = r2 q.2.1) : pt_v r l = pt_v r2 l := by
  unfold pt_v
  rw [rb_fold_c h]
noncomputable def rb_inM (l : pt_X) : Bool := l.all (fun q => !(Nat.beq q.1 0) || (Nat.ble 390 q.2.1 && Nat.blt q.2.1 406))
theorem rb_in_c {r r2 : Nat → Int} {l : pt_X} (hl : rb_inM l = true) (h : ∀ t, 390 ≤ t → t < 406 → r t = r2 t) : pt_v r l = pt_v r2 l := rb_v_c (fun q hq e => by
  have g := List.all_eq_true.mp hl q hq
  rw [e] at g
  have g : (Nat.ble 390 q.2.1 && Nat.blt q.2.1 406) = true := g
  rw [Bool.and_eq_true] at g
  exact h _ (Nat.le_of_ble_eq_true g.1) (Nat.le_of_ble_eq_true g.2))
theorem rb_in_h : (List.range 4).all (fun p => rb_inM (rb_dx (p + 1)) && (List.range (p + 1)).all (fun i => (List.range (p + 1)).all (fun j => rb_inM (rb_hx (p + 1) i j)))) = true := by decide +kernel
theorem rb_in_hx {p i j : Nat} (hp : p < 4) (hi : i < p + 1) (hj : j < p + 1) : rb_inM (rb_hx (p + 1) i j) = true := by
  have h := List.all_eq_true.mp rb_in_h p (List.mem_range.mpr hp)
  rw [Bool.and_eq_true] at h
  exact List.all_eq_true.mp (List.all_eq_true.mp h.2 i (List.mem_range.mpr hi)) j (List.mem_range.mpr hj)
noncomputable def rb_pv (r : Nat → Int) (i j : Nat) : Int := ai_op 22 (r (123 + i)) (ai_op 21 (pt_v r (rb_hx (r 71).toNat (r (113 + i)).toNat j)) (pt_v r (rb_hx (r 71).toNat (r (118 + i)).toNat j)))
theorem rb_small {x : Int} (h : -2000000000 ≤ x ∧ x ≤ 2000000000) : x.bmod 18446744073709551616 = x := Int.bmod_eq_of_le_mul_two (by omega) (by omega)
noncomputable def rb_fin (r : Nat → Int) : Nat → Int := fun t => if 390 ≤ t ∧ t < 406 then rb_mx r 5 (t - 390) else r t
noncomputable def rb_D (r : Nat → Int) : Int := pt_v (rb_fin r) (rb_dx (r 71).toNat)
noncomputable def fy_en (r : Nat → Int) (l : Nat) : Nat × Nat := ((r (113 + l)).toNat, (r (118 + l)).toNat)
noncomputable def fy_L (r : Nat → Int) (l : Nat) : Nat → Nat → Int := fy_lap (fy_en r) (fun l => r (123 + l)) l
noncomputable def fy_H (r : Nat → Int) : Prop := rb_ok r ∧ (∀ l, l < 5 → (0 ≤ r (113 + l) ∧ r (113 + l) ≤ 3) ∧ (0 ≤ r (118 + l) ∧ r (118 + l) ≤ 3) ∧ (0 ≤ r (123 + l) ∧ r (123 + l) ≤ 9)) ∧ (0 ≤ r 72 ∧ r 72 ≤ 5) ∧ (0 ≤ r 71 ∧ r 71 ≤ 4)
theorem fy_ee (a b i j : Nat) : fy_e a b i * fy_e a b j = 1 ∨ fy_e a b i * fy_e a b j = -1 ∨ fy_e a b i * fy_e a b j = 0 := by
  rcases fy_e3 a b i with h | h | h <;> rcases fy_e3 a b j with g | g | g <;> rw [h, g] <;> decide
theorem fy_bd {r : Nat → Int} (h : fy_H r) (i j : Nat) : ∀ l : Nat, l ≤ 5 → -(9 * (l : Int)) ≤ fy_L r l i j ∧ fy_L r l i j ≤ 9 * (l : Int)
  | 0, _ => by
    show -(9 * ((0 : Nat) : Int)) ≤ 0 ∧ (0 : Int) ≤ 9 * ((0 : Nat) : Int)
    omega
  | l + 1, hl => by
    have ih := fy_bd h i j l (by omega)
    have s := (h.2.1 l (by omega)).2.2
    show -(9 * ((l + 1 : Nat) : Int)) ≤ fy_L r l i j + r (123 + l) * (fy_e (fy_en r l).1 (fy_en r l).2 i * fy_e (fy_en r l).1 (fy_en r l).2 j) ∧ fy_L r l i j + r (123 + l) * (fy_e (fy_en r l).1 (fy_en r l).2 i * fy_e (fy_en r l).1 (fy_en r l).2 j) ≤ 9 * ((l + 1 : Nat) : Int)
    rcases fy_ee (fy_en r l).1 (fy_en r l).2 i j with w | w | w <;> rw [w] <;> omega
theorem fy_radd {a b i j : Nat} {s : Int} {p : Nat → Int} (ha : a < 4) (hb : b < 4) (hab : a ≠ b) (hi : i < 4) (hj : j < 4) (hs : 0 ≤ s ∧ s ≤ 9) (hp : -1000 ≤ p (4 * i + j) ∧ p (4 * i + j) ≤ 1000) : rb_add a b s p (4 * i + j) = p (4 * i + j) + s * (fy_e a b i * fy_e a b j) := by
  have e20 : ai_op 20 (p (4 * i + j)) s = p (4 * i + j) + s := rb_small (by omega)
  have e21 : ai_op 21 (p (4 * i + j)) s = p (4 * i + j) - s := rb_small (by omega)
  show (if 4 * i + j = 5 * a then ai_op 20 (p (4 * i + j)) s else if 4 * i + j = 5 * b then ai_op 20 (p (4 * i + j)) s else if 4 * i + j = 4 * a + b then ai_op 21 (p (4 * i + j)) s else if 4 * i + j = 4 * b + a then ai_op 21 (p (4 * i + j)) s else p (4 * i + j)) = p (4 * i + j) + s * (fy_e a b i * fy_e a b j)
  rw [e20, e21]
  generalize p (4 * i + j) = y
  unfold fy_e
  by_cases h1 : i = a
  · by_cases h2 : j = a
    · rw [if_pos (by omega), if_pos h1, if_pos h2]
      omega
    · by_cases h3 : j = b
      · rw [if_neg (by omega), if_neg (by omega), if_pos (by omega), if_pos h1, if_neg h2, if_pos h3]
        omega
      · rw [if_neg (by omega), if_neg (by omega), if_neg (by omega), if_neg (by omega), if_pos h1, if_neg h2, if_neg h3]
        omega
  · by_cases h4 : i = b
    · by_cases h2 : j = a
      · rw [if_neg (by omega), if_neg (by omega), if_neg (by omega), if_pos (by omega), if_neg h1, if_pos h4, if_pos h2]
        omega
      · by_cases h3 : j = b
        · rw [if_neg (by omega), if_pos (by omega), if_neg h1, if_pos h4, if_neg h2, if_pos h3]
          omega
        · rw [if_neg (by omega), if_neg (by omega), if_neg (by omega), if_neg (by omega), if_neg h1, if_pos h4, if_neg h2, if_neg h3]
          omega
    · rw [if_neg (by omega), if_neg (by omega), if_neg (by omega), if_neg (by omega), if_neg h1, if_neg h4, Int.zero_mul, Int.mul_zero, Int.add_zero]
section
variable {r : Nat → Int}
theorem fy_ends (h : fy_H r) {l : Nat} (hl : l < 5) (hn : (l : Int) + 1 ≤ r 72) : (fy_en r l).1 < 4 ∧ (fy_en r l).2 < 4 ∧ (fy_en r l).1 ≠ (fy_en r l).2 ∧ ((fy_en r l).1 : Int) + 1 ≤ r 71 ∧ ((fy_en r l).2 : Int) + 1 ≤ r 71 := by
  obtain ⟨a, b, c⟩ := h.1 l hl hn
  obtain ⟨d, e, -⟩ := h.2.1 l hl
  show (r (113 + l)).toNat < 4 ∧ (r (118 + l)).toNat < 4 ∧ (r (113 + l)).toNat ≠ (r (118 + l)).toNat ∧ ((r (113 + l)).toNat : Int) + 1 ≤ r 71 ∧ ((r (118 + l)).toNat : Int) + 1 ≤ r 71
  omega
end
section
variable {r : Nat → Int}
theorem fy_mx (h : fy_H r) {i j : Nat} (hi : i < 4) (hj : j < 4) : ∀ l, l ≤ 5 → rb_mx r l (4 * i + j) = fy_L r (min l (r 72).toNat) i j
  | 0, _ => by
    rw [Nat.zero_min]
    rfl
  | l + 1, hl => by
    have ih := fy_mx h hi hj l (by omega)
    show (if (l : Int) + 1 ≤ r 72 then rb_add (fy_en r l).1 (fy_en r l).2 (r (123 + l)) (rb_mx r l) else rb_mx r l) (4 * i + j) = _
    by_cases e : (l : Int) + 1 ≤ r 72
    · obtain ⟨e1, e2, e3, -⟩ := fy_ends h (by omega) e
      rw [show min l (r 72).toNat = l by omega] at ih
      have b := fy_bd h i j l (by omega)
      rw [if_pos e, fy_radd e1 e2 e3 hi hj (h.2.1 l (by omega)).2.2 (by rw [ih]; omega), ih, show min (l + 1) (r 72).toNat = l + 1 by omega]
      rfl
    · rw [if_neg e, ih, show min (l + 1) (r 72).toNat = min l (r 72).toNat by omega]
end
