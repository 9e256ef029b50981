/-! THE LEAST: from where to where a mill may go -/
theorem ze_min {a b : Int} : ai_min a b = if a ≤ b then a else b := by
  have h := ai_min_le (a := a) (b := b)
  split
  · rcases h.2.2 with e | e <;> omega
  · rcases h.2.2 with e | e <;> omega
theorem ze_max {a b : Int} : ai_max a b = if a ≤ b then b else a := by
  have h := ai_max_ge (a := a) (b := b)
  split
  · rcases h.2.2 with e | e <;> omega
  · rcases h.2.2 with e | e <;> omega
noncomputable def zs_w (h : Nat) : Nat := match h with
  | 0 => 9
  | 1 => 3
  | _ => 1
noncomputable def zs_d (sd h : Nat) : Nat := sd / zs_w h % 3
noncomputable def zs_bt (on : Int) (m : Nat) : Int := ai_op 5 (ai_op 9 on (m : Int)) 1
/-- the least and the most that a mill may make (what is OFFERED aside) -/
noncomputable def zs_l (r : Nat → Int) (le : Nat → Int) (bt : Nat → Int) (w sil : Int) (m : Nat) : Nat := if (m : Int) < r 73 ∧ r (141 + m) ≠ sil then (if r (137 + m) ≤ 1 then (if bt m = 0 then 0 else (le m).toNat) else if r (137 + m) = 2 then w.toNat else 0) else 0
noncomputable def zs_h (r : Nat → Int) (le : Nat → Int) (bt : Nat → Int) (w sil : Int) (hd : Nat → Nat) (q m : Nat) : Nat := if (m : Int) < r 73 ∧ r (141 + m) ≠ sil then (if r (137 + m) ≤ 1 then (if bt m = 0 then 0 else max (le m).toNat ((r (145 + m)).toNat - hd (r (141 + m)).toNat)) else if r (137 + m) = 2 then w.toNat else min (min (r (145 + m)).toNat (r (185 + 4 * m + q)).toNat) ((r (145 + m)).toNat - hd (r (141 + m)).toNat)) else 0
theorem zs_dv : ∀ sd : Nat, sd < 27 → ∀ h : Nat, h < 3 → ai_op 4 (ai_op 3 (sd : Int) (zs_w h : Int)) 3 = (zs_d sd h : Int) ∧ zs_d sd h ≤ 2 := by
  have k : (List.range 27).all (fun sd => (List.range 3).all (fun h => decide (ai_op 4 (ai_op 3 ((sd : Nat) : Int) (zs_w h : Int)) 3 = (zs_d sd h : Int) ∧ zs_d sd h ≤ 2))) = true := by decide +kernel
  exact fun sd a h b => of_decide_eq_true (List.all_eq_true.mp (List.all_eq_true.mp k sd (List.mem_range.mpr a)) h (List.mem_range.mpr b))
