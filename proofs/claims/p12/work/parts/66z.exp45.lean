/-! THE NETS (the reference): a height, the matrix -/
noncomputable def zn_hQ (r : Nat → Int) (M : Nat → Nat → Int) (r2 : Nat → Int) (M2 : Nat → Nat → Int) (o : Option Int) : Prop := o = some (pt_v r (rb_hx (r 71).toNat (r 727).toNat (r 728).toNat)) ∧ M2 = M ∧ ∀ t, t < 727 → r2 t = r t
theorem zn_height {n : Nat} (hn : 4 ≤ n) : pt_Met (n + 1) 212 zyY [wa_r 264, wa_i 727, wa_i 728] (fun r _ => (0 ≤ r 727 ∧ r 727 + 1 ≤ r 71) ∧ (0 ≤ r 728 ∧ r 728 + 1 ≤ r 71)) zn_hQ 2 := by
  refine pt_intro (L0 := [wa_r 264, wa_i 727, wa_i 728, wa_u, wa_u, wa_u]) zn_pl.1.1.1 hn zysys (by
    rw [zn_pl.2.2.1]
    rfl) (fun P r M h hp => ?_)
  obtain ⟨hseg, henv, hrel, -, -, -, -, -, -, -, -, -, hret, -⟩ := h
  refine henv _ _ _ _ _ (fun hE _ => ?_)
  have h0 : r 0 = 0 := hE.1
  obtain ⟨⟨p1, p2⟩, p3, p4⟩ := hp
  have bP := ze_eb hE zr_bd.1.2
  obtain ⟨p, hp⟩ : ∃ p : Nat, r 71 = ((p + 1 : Nat) : Int) := ⟨(r 71).toNat - 1, by omega⟩
  obtain ⟨i, hi⟩ : ∃ i : Nat, r 727 = (i : Int) := ⟨(r 727).toNat, by omega⟩
  obtain ⟨j, hj⟩ : ∃ j : Nat, r 728 = (j : Int) := ⟨(r 728).toNat, by omega⟩
  refine hrel _ _ (zn_hL i j) _ [] _ _ ⟨rfl, ⟨by show 0 < 827; omega, by show r 727 + 0 = r 0 + (i : Int); omega⟩, ⟨by show 0 < 827; omega, by show r 728 + 0 = r 0 + (j : Int); omega⟩, trivial, trivial, trivial, trivial⟩ trivial ?_
  have row := List.all_eq_true.mp (List.all_eq_true.mp (List.all_eq_true.mp zn_h p (List.mem_range.mpr (by omega))) i (List.mem_range.mpr (by omega))) j (List.mem_range.mpr (by omega))
  have fin : ∀ pc, pt_is 6 212 pc = true → P (pc, 0, 0) (zn_hL i j) [zn_q (727 + 90)] (pt_up r [(71, ra_c (p + 1)), (727 + 90, rb_hx (p + 1) i j)]) M := fun pc hpc => by
    refine hret (pc, 0, 0) _ (727 + 90, 0) _ M rfl hpc (Nat.ble_eq_true_of_le (Nat.zero_le _)) (Nat.ble_eq_true_of_le (Nat.zero_le _)) ⟨congrArg some ?_, rfl, fun t ht => ?_⟩
    · show pt_v r (rb_hx (p + 1) i j) + 0 = _
      rw [Int.add_zero, hp, hi, hj]
      rfl
    · show (if t = 71 then pt_v r (ra_c (p + 1)) else if t = 727 + 90 then _ else r t) = r t
      by_cases e : t = 71
      · rw [if_pos e, e, hp]
        rfl
      · rw [if_neg e, if_neg (by omega)]
  cases eb : (Nat.beq i p || Nat.beq j p) with
  | true =>
    rw [eb] at row
    exact hseg _ _ _ _ _ _ _ _ _ _ _ _ row ⟨pt_m1 hp, pt_m0, pt_m0⟩ ⟨fun _ => fin 32 zn_pl.2.1.1.1, trivial⟩
  | false =>
    rw [eb] at row
    exact hseg _ _ _ _ _ _ _ _ _ _ _ _ row ⟨pt_m1 hp, pt_m0, pt_m0⟩ ⟨fun _ => fin 69 zn_pl.2.1.1.2, trivial⟩
theorem zn_aW_ne {r : Nat → Int} {l a b t : Nat} (ha : r (113 + l) = (a : Int)) (hb : r (118 + l) = (b : Int)) (h : ¬ (390 ≤ t ∧ t < 390 + 16)) (ha4 : a < 4) (hb4 : b < 4) : pt_up r (rb_lW l a b ++ rb_aW l a b) t = r t := by
  show (if t = 113 + l then pt_v r (ra_c a) else if t = 118 + l then pt_v r (ra_c b) else if t = 390 + 5 * a then _ else if t = 390 + 5 * b then _ else if t = 390 + (4 * a + b) then _ else if t = 390 + (4 * b + a) then _ else r t) = r t
  by_cases e1 : t = 113 + l
  · rw [if_pos e1, e1, ha]
    rfl
  rw [if_neg e1]
  by_cases e2 : t = 118 + l
  · rw [if_pos e2, e2, hb]
    rfl
  rw [if_neg e2, if_neg (by omega), if_neg (by omega), if_neg (by omega), if_neg (by omega)]
section ZNM
variable {n v : Nat} {P : pt_P} {r : Nat → Int} {M : Nat → Nat → Int} {Z : (Nat → Int) → (Nat → Nat → Int) → Option Int → Prop}
theorem zn_mloop (h : pt_Cl n 213 zyY 0 Z P) (hv : v < 6) (hH : zn_H r) (hZ : ∀ r', (∀ q, q < 16 → r' (390 + q) = rb_mx (zn_r r v) 5 q) → zn_iM r r' → P (167, 0, 0) (zn_0 v) [] r' M) : ∀ (d l : Nat) (r' : Nat → Int), l + d = 5 → (∀ q, q < 16 → r' (390 + q) = rb_mx (zn_r r v) l q) → zn_iM r r' → P (23, 0, 0) (zn_nL v l) [] r' M := by
  obtain ⟨hseg, henv, -⟩ := h
  have eLN : zn_r r v 72 = r 72 := if_neg (by omega)
  have exit : ∀ (l : Nat) (r' : Nat → Int), l ≤ 5 → r 72 ≤ (l : Int) → (∀ q, q < 16 → r' (390 + q) = rb_mx (zn_r r v) l q) → zn_iM r r' → P (23, 0, 0) (zn_nL v l) [] r' M := fun l r' hl hln hq hi => by
    have e : r' 72 = r 72 := hi _ (by omega) (by omega)
    have b := hH.2.2.1
    refine hseg _ _ _ _ _ _ _ _ _ _ _ _ (List.all_eq_true.mp (List.all_eq_true.mp zn_n3 v (List.mem_range.mpr hv)) l (List.mem_range.mpr (by omega))) ⟨pt_m0, pt_m1 ⟨by show 0 ≤ r' 72; omega, by show r' 72 ≤ (l : Int); omega⟩, pt_m0⟩ ⟨fun _ => ?_, trivial⟩
    refine hZ _ (fun q h9 => ?_) hi
    refine Eq.trans (hq q h9) ?_
    have go : ∀ k, rb_mx (zn_r r v) (l + k) = rb_mx (zn_r r v) l := fun k => by
      induction k with
      | zero => rfl
      | succ k ih =>
        show (if ((l + k : Nat) : Int) + 1 ≤ zn_r r v 72 then rb_add _ _ _ (rb_mx (zn_r r v) (l + k)) else rb_mx (zn_r r v) (l + k)) = _
        rw [eLN, if_neg (by omega), ih]
    have g := go (5 - l)
    rw [show l + (5 - l) = 5 by omega] at g
    rw [g]
  intro d
  induction d with
  | zero =>
    intro l r' hd hq hi
    have b := hH.2.2.1
    exact exit l r' (by omega) (by omega) hq hi
  | succ d ih =>
    intro l r' hd hq hi
    by_cases hln : r 72 ≤ (l : Int)
    · exact exit l r' (by omega) hln hq hi
    have l5 : l < 5 := by omega
    have b := hH.2.2.1
    obtain ⟨b4, b5, b6⟩ := hH.2.1 l l5
    have e : r' 72 = r 72 := hi _ (by omega) (by omega)
    have e4 : r' (113 + l) = r (113 + l) := hi _ (by omega) (by omega)
    have e5 : r' (118 + l) = r (118 + l) := hi _ (by omega) (by omega)
    have e6 : r' (123 + l) = r (123 + l) := hi _ (by omega) (by omega)
    have z4 : zn_r r v (113 + l) = r (113 + l) := if_neg (by omega)
    have z5 : zn_r r v (118 + l) = r (118 + l) := if_neg (by omega)
    have bl : (((l + 1 : Nat) : Int)) ≤ r' 72 ∧ r' 72 ≤ 5 := by omega
    have nx : rb_mx (zn_r r v) (l + 1) = rb_add (r (113 + l)).toNat (r (118 + l)).toNat (zn_r r v (123 + l)) (rb_mx (zn_r r v) l) := by
      show (if (l : Int) + 1 ≤ zn_r r v 72 then rb_add (zn_r r v (113 + l)).toNat (zn_r r v (118 + l)).toNat (zn_r r v (123 + l)) (rb_mx (zn_r r v) l) else rb_mx (zn_r r v) l) = _
      rw [eLN, if_pos (by omega), z4, z5]
    by_cases cv : v = l + 1
    · have z6 : zn_r r v (123 + l) = 0 := if_pos ⟨by omega, by omega⟩
      have row := List.all_eq_true.mp zn_n2 l (List.mem_range.mpr l5)
      rw [← cv] at row
      refine hseg _ _ _ _ _ _ _ _ _ _ _ _ row ⟨pt_m0, pt_m1 (by
        show (v : Int) ≤ r' 72 ∧ r' 72 ≤ 5
        omega), pt_m0⟩ ⟨fun _ => ?_, trivial⟩
      have cL : zn_nL v v = zn_nL v (l + 1) := by rw [cv]
      show P (23, 0, 0) (zn_nL v v) [] r' M
      rw [cL]
      refine ih (l + 1) r' (by omega) (fun q h9 => ?_) hi
      rw [nx, z6, zn_add0 (zn_mxb (zn_Hr hH v) l (by omega)) q h9]
      exact hq q h9
    · have z6 : zn_r r v (123 + l) = r (123 + l) := if_neg (by omega)
      obtain ⟨a, ha⟩ : ∃ a : Nat, r' (113 + l) = (a : Int) := ⟨(r' (113 + l)).toNat, by omega⟩
      obtain ⟨c, hc⟩ : ∃ c : Nat, r' (118 + l) = (c : Int) := ⟨(r' (118 + l)).toNat, by omega⟩
      have hne : a ≠ c := fun q => (hH.1 l l5 (by omega)).1 (by rw [← e4, ← e5, ha, hc, q])
      have row := List.all_eq_true.mp (zn_n1 hv) l (List.mem_range.mpr l5)
      rw [Bool.or_eq_true] at row
      rcases row with row | row
      · exact absurd (Nat.eq_of_beq_eq_true row) cv
      have row := List.all_eq_true.mp (List.all_eq_true.mp row a (List.mem_range.mpr (by omega))) c (List.mem_range.mpr (by omega))
      rw [Bool.or_eq_true] at row
      rcases row with row | row
      · exact absurd (Nat.eq_of_beq_eq_true row) hne
      refine hseg _ _ _ _ _ _ _ _ _ _ _ _ row ⟨pt_m2 ha hc, pt_m1 bl, pt_m0⟩ ⟨fun _ => ?_, trivial⟩
      refine ih (l + 1) (pt_up r' (rb_lW l a c ++ rb_aW l a c)) (by omega) (fun q h9 => ?_) (fun t ht hn => ?_)
      · rw [rb_aW_ok l5 (by omega) (by omega) hne h9, nx, z6, ← e4, ← e5, ← e6, ha, hc]
        exact rb_add_c rfl (fun x hx => hq x hx) q h9
      · rw [zn_aW_ne ha hc hn (by omega) (by omega)]
        exact hi t ht hn
end ZNM
