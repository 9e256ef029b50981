/-! fillShares -/
noncomputable def ra_wn (v : Nat) : Nat := match v with
  | 0 => 8
  | v + 1 => 196 + v
noncomputable def ra_hn (v : Nat) : Nat := match v with
  | 0 => 9
  | v + 1 => 201 + 20 * v
noncomputable def ra_sx (v l a b p : Nat) : pt_X := match Nat.beq v (l + 1) with
  | true => ra_c 0
  | false => match p with
    | 0 => ra_c 0
    | p + 1 => match a, b with
      | 0, 0 => ra_c 0
      | a + 1, 0 => [(0, 174 + l, 0), (0, 310 + (3 * a + p), 0), (2, 2, 0)]
      | 0, b + 1 => [(0, 174 + l, 0), (1, 0, 0), (0, 310 + (3 * b + p), 0), (2, 1, 0), (2, 2, 0)]
      | a + 1, b + 1 => [(0, 174 + l, 0), (0, 310 + (3 * a + p), 0), (0, 310 + (3 * b + p), 0), (2, 1, 0), (2, 2, 0)]
noncomputable def ra_sW (v l a b : Nat) : List (Nat × pt_X) := [(ra_hn v + 4 * l, ra_sx v l a b 0), (ra_hn v + 4 * l + 1, ra_sx v l a b 1), (ra_hn v + 4 * l + 2, ra_sx v l a b 2), (ra_hn v + 4 * l + 3, ra_sx v l a b 3)]
noncomputable def ra_sL (v l : Nat) : List ai_V := [ra_17, .inl (0, .ofNat v), .inl (0, .ofNat l), ra_u, ra_u]
noncomputable def ra_sR (v : Nat) : Bool := (List.range 5).all (fun l => (List.range 4).all (fun a => (List.range 4).all (fun b => Nat.beq a b || pt_row raY 42 [2, 94] true (2, 0, 0) (ra_sL v l) [] [(164 + l, .ofNat a), (169 + l, .ofNat b)] [(123, (.ofNat (l + 1), 5))] [] [30 + v] [((2, 0, 0), (ra_sL v (l + 1), []), ra_lW l a b ++ ra_sW v l a b, [])])))
theorem ra_s_0 : ra_sR 0 = true := by decide +kernel
theorem ra_s_1 : ra_sR 1 = true := by decide +kernel
theorem ra_s_2 : ra_sR 2 = true := by decide +kernel
theorem ra_s_3 : ra_sR 3 = true := by decide +kernel
theorem ra_s_4 : ra_sR 4 = true := by decide +kernel
theorem ra_s_5 : ra_sR 5 = true := by decide +kernel
theorem ra_s_c : ∀ v, v < 6 → ra_sR v = true := fun v h => match v, h with
  | 0, _ => ra_s_0
  | 1, _ => ra_s_1
  | 2, _ => ra_s_2
  | 3, _ => ra_s_3
  | 4, _ => ra_s_4
  | 5, _ => ra_s_5
  | n + 6, h => absurd h (by omega)
theorem ra_s_x : (List.range 6).all (fun v => (List.range 6).all (fun l => pt_row raY 42 [2, 94] true (2, 0, 0) (ra_sL v l) [] [] [(123, (0, .ofNat l))] [] [] [((94, 0, 0), (ra_sL v l, []), [], [])])) = true := by decide +kernel
theorem ra_s_e : (List.range 6).all (fun v => pt_row raY 42 [2, 94] true (0, 0, 0) [ra_17, .inl (0, .ofNat v), ra_u, ra_u, ra_u] [] [] [] [] [] [((2, 0, 0), (ra_sL v 0, []), [], [])]) = true := by decide +kernel
noncomputable def ra_iS (v : Nat) (r r' : Nat → Int) : Prop := ∀ t, t < 325 → ¬(ra_hn v ≤ t ∧ t < ra_hn v + 20) → r' t = r t
noncomputable def ra_sv (r : Nat → Int) (v l p : Nat) : Int := pt_v r (ra_sx v l (r (164 + l)).toNat (r (169 + l)).toNat p)
theorem ra_hnb {v : Nat} (h : v < 6) : (9 ≤ ra_hn v ∧ ra_hn v + 20 ≤ 9 + 20) ∨ (201 ≤ ra_hn v ∧ ra_hn v + 20 ≤ 201 + 100) := by
  match v with
  | 0 => exact Or.inl ⟨Nat.le_refl _, Nat.le_refl _⟩
  | v + 1 =>
    refine Or.inr ⟨?_, ?_⟩
    · show 201 ≤ 201 + 20 * v
      omega
    · show 201 + 20 * v + 20 ≤ 201 + 100
      omega
/-- a share's expression speaks of the stiffness and of what is turned alone -/
theorem ra_sx_c {r r' : Nat → Int} {v l a b p : Nat} (hs : r' (174 + l) = r (174 + l)) (ht : ∀ q, q < 9 → r' (310 + q) = r (310 + q)) (ha : a < 4) (hb : b < 4) (hp : p < 4) : pt_v r' (ra_sx v l a b p) = pt_v r (ra_sx v l a b p) := by
  unfold ra_sx
  cases Nat.beq v (l + 1) with
  | true => rfl
  | false =>
    match p with
    | 0 => rfl
    | p + 1 =>
      match a, b with
      | 0, 0 => rfl
      | a + 1, 0 =>
        show ai_op 2 (r' (174 + l)) (r' (310 + (3 * a + p))) = ai_op 2 (r (174 + l)) (r (310 + (3 * a + p)))
        rw [hs, ht _ (by omega)]
      | 0, b + 1 =>
        show ai_op 2 (r' (174 + l)) (ai_op 1 0 (r' (310 + (3 * b + p)))) = ai_op 2 (r (174 + l)) (ai_op 1 0 (r (310 + (3 * b + p))))
        rw [hs, ht _ (by omega)]
      | a + 1, b + 1 =>
        show ai_op 2 (r' (174 + l)) (ai_op 1 (r' (310 + (3 * a + p))) (r' (310 + (3 * b + p)))) = ai_op 2 (r (174 + l)) (ai_op 1 (r (310 + (3 * a + p))) (r (310 + (3 * b + p))))
        rw [hs, ht _ (by omega), ht _ (by omega)]
theorem ra_sW_ok {r : Nat → Int} {v l a b p : Nat} (hv : v < 6) (hl : l < 5) (hp : p < 4) : pt_up r (ra_lW l a b ++ ra_sW v l a b) (ra_hn v + 4 * l + p) = pt_v r (ra_sx v l a b p) := by
  have hb := ra_hnb hv
  show pt_up r ((164 + l, ra_c a) :: (169 + l, ra_c b) :: ra_sW v l a b) _ = _
  unfold pt_up
  rw [if_neg (by show ¬(ra_hn v + 4 * l + p = 164 + l); omega)]
  unfold pt_up
  rw [if_neg (by show ¬(ra_hn v + 4 * l + p = 169 + l); omega)]
  unfold ra_sW
  match p, hp with
  | 0, _ =>
    unfold pt_up
    rw [if_pos (by rfl)]
  | 1, _ =>
    unfold pt_up
    rw [if_neg (by show ¬(ra_hn v + 4 * l + 1 = ra_hn v + 4 * l); omega)]
    unfold pt_up
    rw [if_pos (by rfl)]
  | 2, _ =>
    unfold pt_up
    rw [if_neg (by show ¬(ra_hn v + 4 * l + 2 = ra_hn v + 4 * l); omega)]
    unfold pt_up
    rw [if_neg (by show ¬(ra_hn v + 4 * l + 2 = ra_hn v + 4 * l + 1); omega)]
    unfold pt_up
    rw [if_pos (by rfl)]
  | 3, _ =>
    unfold pt_up
    rw [if_neg (by show ¬(ra_hn v + 4 * l + 3 = ra_hn v + 4 * l); omega)]
    unfold pt_up
    rw [if_neg (by show ¬(ra_hn v + 4 * l + 3 = ra_hn v + 4 * l + 1); omega)]
    unfold pt_up
    rw [if_neg (by show ¬(ra_hn v + 4 * l + 3 = ra_hn v + 4 * l + 2); omega)]
    unfold pt_up
    rw [if_pos (by rfl)]
  | n + 4, h => exact absurd h (by omega)
theorem ra_sW_ne {r : Nat → Int} {v l a b t : Nat} (ha : r (164 + l) = (a : Int)) (hb : r (169 + l) = (b : Int)) (h : ¬(ra_hn v + 4 * l ≤ t ∧ t < ra_hn v + 4 * l + 4)) : pt_up r (ra_lW l a b ++ ra_sW v l a b) t = r t := by
  have k : pt_up r (ra_sW v l a b) t = r t := ra_up_ne (fun q hq => by
    unfold ra_sW at hq
    simp only [List.mem_cons, List.not_mem_nil, or_false] at hq
    rcases hq with rfl | rfl | rfl | rfl
    · show t ≠ ra_hn v + 4 * l
      omega
    · show t ≠ ra_hn v + 4 * l + 1
      omega
    · show t ≠ ra_hn v + 4 * l + 2
      omega
    · show t ≠ ra_hn v + 4 * l + 3
      omega)
  show pt_up r ((164 + l, ra_c a) :: (169 + l, ra_c b) :: ra_sW v l a b) t = r t
  unfold pt_up
  by_cases e1 : t = 164 + l
  · rw [if_pos e1, e1, ha]
    rfl
  · rw [if_neg e1]
    unfold pt_up
    by_cases e2 : t = 169 + l
    · rw [if_pos e2, e2, hb]
      rfl
    · rw [if_neg e2]
      exact k
theorem ra_spl : lh_plain 42 = true := by decide +kernel
section RAS
variable {n v : Nat} {P : pt_P} {r : Nat → Int} {M : Nat → Nat → Int} {Z : (Nat → Int) → (Nat → Nat → Int) → Option Int → Prop}
theorem ra_sloop (h : pt_Cl n 42 raY 0 Z P) (hv : v < 6) (hok : ra_ok r) (hZ : ∀ r', (∀ l : Nat, l < 5 → (l : Int) + 1 ≤ r 123 → ∀ p, p < 4 → r' (ra_hn v + 4 * l + p) = ra_sv r v l p) → ra_iS v r r' → Z r' M none) : ∀ (d l : Nat) (r' : Nat → Int), 5 - l = d → l ≤ 5 → (∀ k, k < l → (k : Int) + 1 ≤ r 123 → ∀ p, p < 4 → r' (ra_hn v + 4 * k + p) = ra_sv r v k p) → ra_iS v r r' → P (2, 0, 0) (ra_sL v l) [] r' M := by
  obtain ⟨hseg, henv, hrel, hval, -, -, -, -, -, -, -, -, -, hret⟩ := h
  have hb := ra_hnb hv
  have exit : ∀ (l : Nat) (r' : Nat → Int), l ≤ 5 → r 123 ≤ (l : Int) → (∀ k, k < l → (k : Int) + 1 ≤ r 123 → ∀ p, p < 4 → r' (ra_hn v + 4 * k + p) = ra_sv r v k p) → ra_iS v r r' → P (2, 0, 0) (ra_sL v l) [] r' M := fun l r' hl hln hq hi => by
    refine henv _ _ _ _ _ (fun hE _ => ?_)
    have b := ra_eb hE ra_bnd.1
    have e : r' 123 = r 123 := hi _ (by omega) (by omega)
    refine hseg _ _ _ _ _ _ _ _ _ _ _ _ (List.all_eq_true.mp (List.all_eq_true.mp ra_s_x v (List.mem_range.mpr hv)) l (List.mem_range.mpr (by omega))) ⟨pt_m0, pt_m1 ⟨b.1, by show r' 123 ≤ (l : Int); omega⟩, pt_m0⟩ ⟨fun _ => ?_, trivial⟩
    refine hval _ _ _ _ r' _ M (fun t _ => rfl) (fun _ _ _ _ => rfl) ?_
    exact hret (94, 0, 0) _ r' M rfl (by decide +kernel) (by decide +kernel) (by decide +kernel) (hZ r' (fun k hk hkl p hp => hq k (by omega) hkl p hp) hi)
  intro d
  induction d with
  | zero =>
    intro l r' hd hl hq hi
    refine henv _ _ _ _ _ (fun hE hm => ?_)
    have b := ra_eb hE ra_bnd.1
    have e : r' 123 = r 123 := hi _ (by omega) (by omega)
    exact exit l r' hl (by omega) hq hi
  | succ d ih =>
    intro l r' hd hl hq hi
    by_cases hln : r 123 ≤ (l : Int)
    · exact exit l r' hl hln hq hi
    refine henv _ _ _ _ _ (fun hE hm => ?_)
    obtain ⟨m1, m2, m3⟩ := ra_bnd
    obtain ⟨m4, m5, m6⟩ := m3 l (by omega)
    have b := ra_eb hE m1
    have b4 := ra_eb hE m4
    have b5 := ra_eb hE m5
    have e : r' 123 = r 123 := hi _ (by omega) (by omega)
    have e4 : r' (164 + l) = r (164 + l) := hi _ (by omega) (by omega)
    have e5 : r' (169 + l) = r (169 + l) := hi _ (by omega) (by omega)
    have e6 : r' (174 + l) = r (174 + l) := hi _ (by omega) (by omega)
    obtain ⟨a, ha⟩ : ∃ a : Nat, r' (164 + l) = (a : Int) := ⟨(r' (164 + l)).toNat, by omega⟩
    obtain ⟨c, hc⟩ : ∃ c : Nat, r' (169 + l) = (c : Int) := ⟨(r' (169 + l)).toNat, by omega⟩
    have hne : a ≠ c := fun q => hok l (by omega) (by omega) (by rw [← e4, ← e5, ha, hc, q])
    have row := List.all_eq_true.mp (List.all_eq_true.mp (List.all_eq_true.mp (ra_s_c v hv) l (List.mem_range.mpr (by omega))) a (List.mem_range.mpr (by omega))) c (List.mem_range.mpr (by omega))
    rw [Bool.or_eq_true] at row
    rcases row with row | row
    · exact absurd (Nat.eq_of_beq_eq_true row) hne
    refine hseg _ _ _ _ _ _ _ _ _ _ _ _ row ⟨pt_m2 ha hc, pt_m1 ⟨by show (((l + 1 : Nat) : Int)) ≤ r' 123; omega, b.2⟩, pt_m0⟩ ⟨fun g => ?_, trivial⟩
    refine ih (l + 1) (pt_up r' (ra_lW l a c ++ ra_sW v l a c)) (by omega) (by omega) (fun k hk hkl p hp => ?_) (fun t ht hn => ?_)
    · by_cases q : k = l
      · subst q
        rw [ra_sW_ok hv (by omega) hp]
        unfold ra_sv
        rw [← e4, ← e5, ha, hc]
        exact ra_sx_c e6 (fun q hq => hi _ (by omega) (by omega)) (by omega) (by omega) hp
      · rw [ra_sW_ne ha hc (by omega)]
        exact hq k (by omega) hkl p hp
    · rw [ra_sW_ne ha hc (by omega)]
      exact hi t ht hn
end RAS
noncomputable def ra_sQ (v : Nat) (r : Nat → Int) (M : Nat → Nat → Int) (r2 : Nat → Int) (M2 : Nat → Nat → Int) (o : Option Int) : Prop := o = none ∧ M2 = M ∧ (∀ l : Nat, l < 5 → (l : Int) + 1 ≤ r 123 → ∀ p, p < 4 → r2 (ra_hn v + 4 * l + p) = ra_sv r v l p) ∧ ra_iS v r r2
theorem ra_shares {n v : Nat} (hn : 4 ≤ n) (hv : v < 6) : pt_Met (n + 1) 42 raY [ra_17, .inl (326, 0)] (fun r _ => ra_ok r ∧ r 326 = (v : Int)) (ra_sQ v) 0 := by
  refine pt_intro (L0 := [ra_17, .inl (326, 0), ra_u, ra_u, ra_u]) ra_spl hn rasys (by
    have e : (ct_mt 42).2.2.1 = 5 := by decide +kernel
    rw [e]
    rfl) (fun P r M h hp => ?_)
  obtain ⟨hok, h1⟩ := hp
  have loop := ra_sloop h hv hok (fun r' a b => ⟨rfl, rfl, a, b⟩)
  obtain ⟨hseg, henv, hrel, -⟩ := h
  refine henv _ _ _ _ _ (fun hE _ => ?_)
  refine hrel _ _ [ra_17, .inl (0, .ofNat v), ra_u, ra_u, ra_u] _ [] _ _ ⟨rfl, ⟨hE.2.1, ?_⟩, trivial, trivial, trivial, trivial⟩ trivial ?_
  · show r 326 + 0 = r 0 + (v : Int)
    rw [hE.1, h1, Int.add_zero, Int.zero_add]
  · refine hseg _ _ _ _ _ _ _ _ _ _ _ _ (List.all_eq_true.mp ra_s_e v (List.mem_range.mpr hv)) ⟨pt_m0, pt_m0, pt_m0⟩ ⟨fun _ => ?_, trivial⟩
    exact loop 5 0 _ rfl (by omega) (fun k hk => absurd hk (by omega)) (fun t _ _ => rfl)
