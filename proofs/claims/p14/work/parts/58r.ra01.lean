/-! THE LAND'S NETS: rows with numbers told (lines, places of a line, views), by pure transitions -/
noncomputable def ra_c (k : Nat) : pt_X := [(1, 0, .ofNat k)]
noncomputable def ra_s (t : Nat) : pt_X := [(0, t, 0)]
noncomputable def ra_17 : ai_V := .inr (.inr (some (some 17)))
noncomputable def ra_u : ai_V := .inr (.inr none)
/-! fillPull: its loop -/
noncomputable def ra_ad (l q o : Nat) : Nat × pt_X := (301 + q, [(0, 301 + q, 0), (0, 174 + l, 0), (2, o, 0)])
noncomputable def ra_aW (l a b : Nat) : List (Nat × pt_X) := match a, b with
  | 0, 0 => []
  | a + 1, 0 => [ra_ad l (4 * a) 0]
  | 0, b + 1 => [ra_ad l (4 * b) 0]
  | a + 1, b + 1 => [ra_ad l (4 * a) 0, ra_ad l (4 * b) 0, ra_ad l (3 * a + b) 1, ra_ad l (3 * b + a) 1]
noncomputable def ra_lW (l a b : Nat) : List (Nat × pt_X) := [(164 + l, ra_c a), (169 + l, ra_c b)]
noncomputable def ra_fL (l : Nat) : List ai_V := [ra_17, .inl (326, 0), .inl (0, .ofNat l)]
noncomputable def ra_fE (l a b : Nat) : List pt_E := [((48, 0, 0), (ra_fL (l + 1), []), ra_lW l a b, [(0, ra_c (l + 1), ra_s 123), (0, ra_s 326, ra_c (l + 1)), (0, ra_c (l + 1), ra_s 326)]),
  ((48, 0, 0), (ra_fL (l + 1), []), ra_lW l a b ++ ra_aW l a b, [(0, ra_c (l + 1), ra_s 123), (1, ra_s 326, ra_c (l + 1))])]
theorem ra_f_c : (List.range 5).all (fun l => (List.range 4).all (fun a => (List.range 4).all (fun b => Nat.beq a b || pt_row raY 39 [48, 100] true (48, 0, 0) (ra_fL l) [] [(164 + l, .ofNat a), (169 + l, .ofNat b)] [(123, (.ofNat (l + 1), 5))] [] [37, 38, 39] (ra_fE l a b)))) = true := by decide +kernel
theorem ra_f_x : (List.range 6).all (fun l => pt_row raY 39 [48, 100] true (48, 0, 0) (ra_fL l) [] [] [(123, (0, .ofNat l))] [] [] [((100, 0, 0), (ra_fL l, []), [], [])]) = true := by decide +kernel
noncomputable def ra_b0 (r : Nat → Int) : Nat → Int := fun q => if q = 0 then (if r 122 ≤ 1 then 1 else 0) else if q = 4 then (if r 122 ≤ 2 then 1 else 0) else if q = 8 then (if r 122 ≤ 3 then 1 else 0) else 0
noncomputable def ra_add (a b : Nat) (s : Int) (p : Nat → Int) : Nat → Int := match a, b with
  | 0, 0 => p
  | a + 1, 0 => fun x => if x = 4 * a then ai_op 0 (p (4 * a)) s else p x
  | 0, b + 1 => fun x => if x = 4 * b then ai_op 0 (p (4 * b)) s else p x
  | a + 1, b + 1 => fun x => if x = 4 * a then ai_op 0 (p (4 * a)) s else if x = 4 * b then ai_op 0 (p (4 * b)) s else if x = 3 * a + b then ai_op 1 (p (3 * a + b)) s else if x = 3 * b + a then ai_op 1 (p (3 * b + a)) s else p x
/-- what goes off, by the first lines -/
noncomputable def ra_pl (r : Nat → Int) (v : Int) : Nat → Nat → Int
  | 0 => ra_b0 r
  | l + 1 => if ((l : Int) + 1 ≤ r 123) ∧ v ≠ (l : Int) + 1 then ra_add (r (164 + l)).toNat (r (169 + l)).toNat (r (174 + l)) (ra_pl r v l) else ra_pl r v l
/-- ends of lines -/
noncomputable def ra_ok (r : Nat → Int) : Prop := ∀ l : Nat, l < 5 → (l : Int) + 1 ≤ r 123 → r (164 + l) ≠ r (169 + l)
noncomputable def ra_i9 (r r' : Nat → Int) : Prop := ∀ t, t < 325 → ¬(301 ≤ t ∧ t < 310) → r' t = r t
theorem ra_eb {r : Nat → Int} {t : Nat} {lo hi : Int} (hE : ai_gE r raE) (h : (t, (lo, hi)) ∈ raE.2.1) : lo ≤ r t ∧ r t ≤ hi := (hE.2.2.2.1 _ h).2
theorem ra_bnd : (123, ((0 : Int), (5 : Int))) ∈ raE.2.1 ∧ (122, ((0 : Int), (4 : Int))) ∈ raE.2.1 ∧ ∀ l, l < 5 → (164 + l, ((0 : Int), (3 : Int))) ∈ raE.2.1 ∧ (169 + l, ((0 : Int), (3 : Int))) ∈ raE.2.1 ∧ (174 + l, ((0 : Int), (9 : Int))) ∈ raE.2.1 := by
  have h : ((123, ((0 : Int), (5 : Int))) ∈ raE.2.1 ∧ (122, ((0 : Int), (4 : Int))) ∈ raE.2.1) ∧ ∀ l ∈ List.range 5, (164 + l, ((0 : Int), (3 : Int))) ∈ raE.2.1 ∧ (169 + l, ((0 : Int), (3 : Int))) ∈ raE.2.1 ∧ (174 + l, ((0 : Int), (9 : Int))) ∈ raE.2.1 := by decide +kernel
  exact ⟨h.1.1, h.1.2, fun l hl => h.2 l (List.mem_range.mpr hl)⟩
theorem ra_up_ne {r : Nat → Int} : ∀ {W : List (Nat × pt_X)} {t : Nat}, (∀ q ∈ W, t ≠ q.1) → pt_up r W t = r t
  | [], _, _ => rfl
  | q :: W, t, h => by
    unfold pt_up
    rw [if_neg (h q List.mem_cons_self)]
    exact ra_up_ne (fun z hz => h z (List.mem_cons_of_mem _ hz))
theorem ra_vc (r : Nat → Int) (k : Nat) : pt_v r (ra_c k) = (k : Int) := rfl
theorem ra_vs (r : Nat → Int) (t : Nat) : pt_v r (ra_s t) = r t := rfl
/-- a step's numbers -/
theorem ra_aW_ok {r : Nat → Int} {l a b q : Nat} (ha : a < 4) (hb : b < 4) (hab : a ≠ b) (hq : q < 9) : pt_up r (ra_lW l a b ++ ra_aW l a b) (301 + q) = ra_add a b (r (174 + l)) (fun x => r (301 + x)) q ∨ 5 ≤ l := by
  by_cases h5 : 5 ≤ l
  · exact Or.inr h5
  refine Or.inl ?_
  have n1 : 301 + q ≠ 164 + l := by omega
  have n2 : 301 + q ≠ 169 + l := by omega
  unfold ra_lW
  show pt_up r ((164 + l, ra_c a) :: (169 + l, ra_c b) :: ra_aW l a b) (301 + q) = _
  unfold pt_up
  rw [if_neg n1]
  unfold pt_up
  rw [if_neg n2]
  have one : ∀ x o, pt_v r (ra_ad l x o).2 = ai_op o (r (301 + x)) (r (174 + l)) := fun _ _ => rfl
  have e : ∀ x, (301 + q = 301 + x) = (q = x) := fun x => propext ⟨fun h => by omega, fun h => by rw [h]⟩
  match a, b with
  | 0, 0 => exact absurd rfl hab
  | a + 1, 0 =>
    show pt_up r [ra_ad l (4 * a) 0] (301 + q) = if q = 4 * a then _ else _
    unfold pt_up
    show (if 301 + q = 301 + 4 * a then _ else _) = _
    simp only [e, one]
    rfl
  | 0, b + 1 =>
    show pt_up r [ra_ad l (4 * b) 0] (301 + q) = if q = 4 * b then _ else _
    unfold pt_up
    show (if 301 + q = 301 + 4 * b then _ else _) = _
    simp only [e, one]
    rfl
  | a + 1, b + 1 =>
    show pt_up r [ra_ad l (4 * a) 0, ra_ad l (4 * b) 0, ra_ad l (3 * a + b) 1, ra_ad l (3 * b + a) 1] (301 + q) = if q = 4 * a then _ else if q = 4 * b then _ else if q = 3 * a + b then _ else if q = 3 * b + a then _ else _
    unfold pt_up
    show (if 301 + q = 301 + 4 * a then _ else (if 301 + q = 301 + 4 * b then _ else (if 301 + q = 301 + (3 * a + b) then _ else (if 301 + q = 301 + (3 * b + a) then _ else _)))) = _
    simp only [e, one]
    rfl
theorem ra_aW_ne {r : Nat → Int} {l a b t : Nat} (ha : r (164 + l) = (a : Int)) (hb : r (169 + l) = (b : Int)) (h : ¬(301 ≤ t ∧ t < 310)) (ha4 : a < 4) (hb4 : b < 4) : pt_up r (ra_lW l a b ++ ra_aW l a b) t = r t := by
  have k : pt_up r (ra_aW l a b) t = r t := ra_up_ne (fun q hq => by
    have : ∃ x, x < 9 ∧ q.1 = 301 + x := by
      match a, b with
      | 0, 0 => cases hq
      | a + 1, 0 =>
        rcases List.mem_cons.mp hq with rfl | hq
        · exact ⟨4 * a, by omega, rfl⟩
        · cases hq
      | 0, b + 1 =>
        rcases List.mem_cons.mp hq with rfl | hq
        · exact ⟨4 * b, by omega, rfl⟩
        · cases hq
      | a + 1, b + 1 =>
        have hq : q ∈ [ra_ad l (4 * a) 0, ra_ad l (4 * b) 0, ra_ad l (3 * a + b) 1, ra_ad l (3 * b + a) 1] := hq
        simp only [List.mem_cons, List.not_mem_nil, or_false] at hq
        rcases hq with rfl | rfl | rfl | rfl
        · exact ⟨4 * a, by omega, rfl⟩
        · exact ⟨4 * b, by omega, rfl⟩
        · exact ⟨3 * a + b, by omega, rfl⟩
        · exact ⟨3 * b + a, by omega, rfl⟩
    obtain ⟨x, h1, h2⟩ := this
    omega)
  show pt_up r ((164 + l, ra_c a) :: (169 + l, ra_c b) :: ra_aW l a b) t = r t
  unfold pt_up
  by_cases e1 : t = 164 + l
  · rw [if_pos e1, e1, ha]
    rfl
  · rw [if_neg e1]
    unfold pt_up
    by_cases e2 : t = 169 + l
    · rw [if_pos e2, e2, hb]
      rfl
    · rw [if_neg e2]
      exact k
theorem ra_lW_ne {r : Nat → Int} {l a b t : Nat} (ha : r (164 + l) = (a : Int)) (hb : r (169 + l) = (b : Int)) : pt_up r (ra_lW l a b) t = r t := by
  show pt_up r [(164 + l, ra_c a), (169 + l, ra_c b)] t = r t
  unfold pt_up
  by_cases e1 : t = 164 + l
  · rw [if_pos e1, e1, ha]
    rfl
  · rw [if_neg e1]
    unfold pt_up
    by_cases e2 : t = 169 + l
    · rw [if_pos e2, e2, hb]
      rfl
    · rw [if_neg e2]
      rfl
theorem ra_add_c {a b : Nat} {s s' : Int} {p p' : Nat → Int} (hs : s = s') (ha : a < 4) (hb : b < 4) (h : ∀ x, x < 9 → p x = p' x) : ∀ x, x < 9 → ra_add a b s p x = ra_add a b s' p' x := fun x hx => by
  subst hs
  match a, b with
  | 0, 0 => exact h x hx
  | a + 1, 0 =>
    show (if x = 4 * a then _ else _) = (if x = 4 * a then _ else _)
    rw [h (4 * a) (by omega), h x hx]
  | 0, b + 1 =>
    show (if x = 4 * b then _ else _) = (if x = 4 * b then _ else _)
    rw [h (4 * b) (by omega), h x hx]
  | a + 1, b + 1 =>
    show (if x = 4 * a then _ else if x = 4 * b then _ else if x = 3 * a + b then _ else if x = 3 * b + a then _ else _) = (if x = 4 * a then _ else if x = 4 * b then _ else if x = 3 * a + b then _ else if x = 3 * b + a then _ else _)
    rw [h (4 * a) (by omega), h (4 * b) (by omega), h (3 * a + b) (by omega), h (3 * b + a) (by omega), h x hx]
theorem ra_fpl : lh_plain 39 = true := by decide +kernel
section RAF
variable {n : Nat} {P : pt_P} {r : Nat → Int} {M : Nat → Nat → Int} {Z : (Nat → Int) → (Nat → Nat → Int) → Option Int → Prop}
theorem ra_floop (h : pt_Cl n 39 raY 0 Z P) (hok : ra_ok r) (hZ : ∀ r', (∀ q, q < 9 → r' (301 + q) = ra_pl r (r 326) 5 q) → ra_i9 r r' → Z r' M none) : ∀ (d l : Nat) (r' : Nat → Int), 5 - l = d → l ≤ 5 → (∀ q, q < 9 → r' (301 + q) = ra_pl r (r 326) l q) → ra_i9 r r' → r' 326 = r 326 → P (48, 0, 0) (ra_fL l) [] r' M := by
  obtain ⟨hseg, henv, hrel, hval, -, -, -, -, -, -, -, -, -, hret⟩ := h
  have exit : ∀ (l : Nat) (r' : Nat → Int), l ≤ 5 → r 123 ≤ (l : Int) → (∀ q, q < 9 → r' (301 + q) = ra_pl r (r 326) l q) → ra_i9 r r' → P (48, 0, 0) (ra_fL l) [] r' M := fun l r' hl hln hq hi => by
    refine henv _ _ _ _ _ (fun hE _ => ?_)
    have b := ra_eb hE ra_bnd.1
    have e : r' 123 = r 123 := hi _ (by omega) (by omega)
    refine hseg _ _ _ _ _ _ _ _ _ _ _ _ (List.all_eq_true.mp ra_f_x l (List.mem_range.mpr (by omega))) ⟨pt_m0, pt_m1 ⟨b.1, by show r' 123 ≤ (l : Int); omega⟩, pt_m0⟩ ⟨fun _ => ?_, trivial⟩
    refine hval _ _ _ _ r' _ M (fun t _ => rfl) (fun _ _ _ _ => rfl) ?_
    refine hret (100, 0, 0) _ r' M rfl (by decide +kernel) (by decide +kernel) (by decide +kernel) (hZ r' (fun q h9 => ?_) hi)
    rw [hq q h9]
    have go : ∀ k, ra_pl r (r 326) (l + k) = ra_pl r (r 326) l := fun k => by
      induction k with
      | zero => rfl
      | succ k ih =>
        show (if (((l + k : Nat) : Int) + 1 ≤ r 123) ∧ r 326 ≠ ((l + k : Nat) : Int) + 1 then _ else ra_pl r (r 326) (l + k)) = _
        rw [if_neg (fun w => by omega), ih]
    have := go (5 - l)
    rw [show l + (5 - l) = 5 by omega] at this
    rw [this]
  intro d
  induction d with
  | zero =>
    intro l r' hd hl hq hi h1
    refine henv _ _ _ _ _ (fun hE hm => ?_)
    have b := ra_eb hE ra_bnd.1
    have e : r' 123 = r 123 := hi _ (by omega) (by omega)
    exact exit l r' hl (by omega) hq hi
  | succ d ih =>
    intro l r' hd hl hq hi h1
    by_cases hln : r 123 ≤ (l : Int)
    · exact exit l r' hl hln hq hi
    refine henv _ _ _ _ _ (fun hE hm => ?_)
    obtain ⟨m1, m2, m3⟩ := ra_bnd
    obtain ⟨m4, m5, m6⟩ := m3 l (by omega)
    have b := ra_eb hE m1
    have b4 := ra_eb hE m4
    have b5 := ra_eb hE m5
    have e : r' 123 = r 123 := hi _ (by omega) (by omega)
    have e4 : r' (164 + l) = r (164 + l) := hi _ (by omega) (by omega)
    have e5 : r' (169 + l) = r (169 + l) := hi _ (by omega) (by omega)
    have e6 : r' (174 + l) = r (174 + l) := hi _ (by omega) (by omega)
    obtain ⟨a, ha⟩ : ∃ a : Nat, r' (164 + l) = (a : Int) := ⟨(r' (164 + l)).toNat, by omega⟩
    obtain ⟨c, hc⟩ : ∃ c : Nat, r' (169 + l) = (c : Int) := ⟨(r' (169 + l)).toNat, by omega⟩
    have hne : a ≠ c := fun q => hok l (by omega) (by omega) (by rw [← e4, ← e5, ha, hc, q])
    have row := List.all_eq_true.mp (List.all_eq_true.mp (List.all_eq_true.mp ra_f_c l (List.mem_range.mpr (by omega))) a (List.mem_range.mpr (by omega))) c (List.mem_range.mpr (by omega))
    rw [Bool.or_eq_true] at row
    rcases row with row | row
    · exact absurd (Nat.eq_of_beq_eq_true row) hne
    refine hseg _ _ _ _ _ _ _ _ _ _ _ _ row ⟨pt_m2 ha hc, pt_m1 ⟨by show (((l + 1 : Nat) : Int)) ≤ r' 123; omega, b.2⟩, pt_m0⟩ ⟨fun g => ?_, fun g => ?_, trivial⟩
    · have g2 : r' 326 ≤ ((l + 1 : Nat) : Int) := g.2.1
      have g3 : ((l + 1 : Nat) : Int) ≤ r' 326 := g.2.2.1
      have hv : r 326 = (l : Int) + 1 := by omega
      refine hval _ _ _ _ r' _ M (fun t _ => (ra_lW_ne ha hc).symm) (fun _ _ _ _ => rfl) ?_
      refine ih (l + 1) r' (by omega) (by omega) (fun q h9 => ?_) hi h1
      rw [hq q h9]
      show _ = (if ((l : Int) + 1 ≤ r 123) ∧ r 326 ≠ (l : Int) + 1 then ra_add (r (164 + l)).toNat (r (169 + l)).toNat (r (174 + l)) (ra_pl r (r 326) l) else ra_pl r (r 326) l) q
      rw [if_neg (fun w => w.2 hv)]
    · have g2 : r' 326 ≠ ((l + 1 : Nat) : Int) := g.2.1
      have hv : r 326 ≠ (l : Int) + 1 := fun w => g2 (by rw [h1, w]; rfl)
      refine ih (l + 1) (pt_up r' (ra_lW l a c ++ ra_aW l a c)) (by omega) (by omega) (fun q h9 => ?_) (fun t ht hn => ?_) ?_
      · rcases ra_aW_ok (r := r') (l := l) (by omega) (by omega) hne h9 with w | w
        · rw [w]
          show _ = (if ((l : Int) + 1 ≤ r 123) ∧ r 326 ≠ (l : Int) + 1 then ra_add (r (164 + l)).toNat (r (169 + l)).toNat (r (174 + l)) (ra_pl r (r 326) l) else ra_pl r (r 326) l) q
          rw [if_pos ⟨by omega, hv⟩, ← e4, ← e5, ← e6, ha, hc]
          exact ra_add_c rfl (by omega) (by omega) (fun x hx => hq x hx) q h9
        · omega
      · rw [ra_aW_ne ha hc hn (by omega) (by omega)]
        exact hi t ht hn
      · rw [ra_aW_ne ha hc (by omega) (by omega) (by omega)]
        exact h1
end RAF
