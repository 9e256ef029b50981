/-! day: words -/
/-- what a day read out of a sheet comes to -/
noncomputable def dv_r (sz a most : Int) (w : Nat → Int) : Int := if sz = -1 then 1 else if a < 0 ∨ sz < a + 4 then 3 else if (0 ≤ w 0 ∧ w 0 ≤ most) ∧ (0 ≤ w 1 ∧ w 1 ≤ most) ∧ (0 ≤ w 2 ∧ w 2 ≤ most) ∧ (0 ≤ w 3 ∧ w 3 ≤ most) then 0 else 4
/-- the first q of four, laid into T from b on -/
noncomputable def dm (M : Nat → Nat → Int) (T b q : Nat) (w : Nat → Int) : Nat → Nat → Int := fun x y => if x = T ∧ b ≤ y ∧ y < b + q then w (y - b) else M x y
theorem dm_0 {M : Nat → Nat → Int} {T b : Nat} {w : Nat → Int} : dm M T b 0 w = M := by
  funext x y
  unfold dm
  rw [if_neg (by omega)]
theorem dm_s {M : Nat → Nat → Int} {T b q : Nat} {w : Nat → Int} : pt_sto (dm M T b q w) T (b + q) (w q) = dm M T b (q + 1) w := by
  funext x y
  unfold pt_sto dm
  by_cases e : x = T ∧ y = b + q
  · rw [if_pos e, if_pos ⟨e.1, by omega, by omega⟩, show y - b = q by omega]
  · rw [if_neg e]
    by_cases g : x = T ∧ b ≤ y ∧ y < b + q
    · rw [if_pos g, if_pos ⟨g.1, g.2.1, by omega⟩]
    · rw [if_neg g, if_neg (fun k => e ⟨k.1, by
        have : ¬ (b ≤ y ∧ y < b + q) := fun z => g ⟨k.1, z⟩
        omega⟩)]
theorem dm_o {M : Nat → Nat → Int} {T b q x y : Nat} {w : Nat → Int} (h : x ≠ T) : dm M T b q w x y = M x y := if_neg (fun k => h k.1)
theorem dv_good {sz a most : Int} {w : Nat → Int} (h1 : sz ≠ -1) (h2 : 0 ≤ a) (h3 : a + 4 ≤ sz) (h : ∀ q : Nat, q < 4 → 0 ≤ w q ∧ w q ≤ most) : dv_r sz a most w = 0 := by
  unfold dv_r
  rw [if_neg h1, if_neg (by omega), if_pos ⟨h 0 (by omega), h 1 (by omega), h 2 (by omega), h 3 (by omega)⟩]
theorem dv_bad {sz a most : Int} {w : Nat → Int} (h1 : sz ≠ -1) (h2 : 0 ≤ a) (h3 : a + 4 ≤ sz) {q : Nat} (hq : q < 4) (h : ¬ (0 ≤ w q ∧ w q ≤ most)) : dv_r sz a most w = 4 := by
  unfold dv_r
  rw [if_neg h1, if_neg (by omega), if_neg (fun k => h (by
    obtain ⟨k0, k1, k2, k3⟩ := k
    rcases (by omega : q = 0 ∨ q = 1 ∨ q = 2 ∨ q = 3) with e | e | e | e <;> subst e
    · exact k0
    · exact k1
    · exact k2
    · exact k3))]
noncomputable def da_com (p : Nat) : Nat := 45 + 6 * p
theorem da_pl : lh_plain 117 = true ∧ lh_plain 139 = true ∧ lh_plain 262 = true ∧ lh_plain 183 = true := by decide +kernel
theorem da_ml : (ct_mt 117).2.2.1 = 6 ∧ (ct_mt 139).2.2.1 = 5 ∧ (ct_mt 262).2.2.1 = 7 ∧ (ct_mt 183).2.2.1 = 8 := by decide +kernel
theorem da_bu : ct_bud 117 = (0, 0) ∧ ct_bud 139 = (1, 6) ∧ ct_bud 262 = (1, 6) ∧ ct_bud 183 = (0, 0) := by decide +kernel
theorem da_is : pt_is 5 117 19 = true ∧ pt_is 5 117 38 = true ∧ pt_is 5 117 68 = true ∧ pt_is 5 117 107 = true ∧ pt_is 5 139 69 = true ∧ pt_is 5 139 124 = true ∧ pt_is 5 262 22 = true ∧ pt_is 5 183 76 = true ∧ pt_is 5 183 89 = true ∧ pt_is 5 183 133 = true ∧ pt_is 5 183 206 = true := by decide +kernel
