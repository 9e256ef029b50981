/-! WHAT AN INSTRUCTION DOES: on the machine's numbers, on whole numbers, and its bounds -/
theorem ai_bm32 (u : Int) : ai_lo32 ≤ u.bmod 4294967296 ∧ u.bmod 4294967296 ≤ ai_hi32 := by
  have h1 := Int.le_bmod (x := u) (m := 4294967296) (by decide)
  have h2 := Int.bmod_lt (x := u) (m := 4294967296) (by decide)
  unfold ai_lo32 ai_hi32
  omega
theorem ai_bm64 (u : Int) : ai_lo64 ≤ u.bmod 18446744073709551616 ∧ u.bmod 18446744073709551616 ≤ ai_hi64 := by
  have h1 := Int.le_bmod (x := u) (m := 18446744073709551616) (by decide)
  have h2 := Int.bmod_lt (x := u) (m := 18446744073709551616) (by decide)
  unfold ai_lo64 ai_hi64
  omega
theorem ai_bm32_id {u : Int} (h1 : ai_lo32 ≤ u) (h2 : u ≤ ai_hi32) : u.bmod 4294967296 = u := by
  unfold ai_lo32 at h1
  unfold ai_hi32 at h2
  exact Int.bmod_eq_of_le (by omega) (by omega)
theorem ai_bm64_id {u : Int} (h1 : ai_lo64 ≤ u) (h2 : u ≤ ai_hi64) : u.bmod 18446744073709551616 = u := by
  unfold ai_lo64 at h1
  unfold ai_hi64 at h2
  exact Int.bmod_eq_of_le (by omega) (by omega)
theorem ai_fit32 {lo hi u : Int} (h1 : lo ≤ u) (h2 : u ≤ hi) : (ai_fit false lo hi).1 ≤ u.bmod 4294967296 ∧ u.bmod 4294967296 ≤ (ai_fit false lo hi).2 := by
  have hb := ai_bm32 u
  unfold ai_fit
  cases e1 : ai_le ai_lo32 lo with
  | false => exact hb
  | true => cases e2 : ai_le hi ai_hi32 with
    | false => exact hb
    | true =>
      have e1 := ai_le_iff.mp e1
      have e2 := ai_le_iff.mp e2
      show lo ≤ _ ∧ _ ≤ hi
      rw [ai_bm32_id (by omega) (by omega)]
      exact ⟨h1, h2⟩
theorem ai_fit64 {lo hi u : Int} (h1 : lo ≤ u) (h2 : u ≤ hi) : (ai_fit true lo hi).1 ≤ u.bmod 18446744073709551616 ∧ u.bmod 18446744073709551616 ≤ (ai_fit true lo hi).2 := by
  have hb := ai_bm64 u
  unfold ai_fit
  cases e1 : ai_le ai_lo64 lo with
  | false => exact hb
  | true => cases e2 : ai_le hi ai_hi64 with
    | false => exact hb
    | true =>
      have e1 := ai_le_iff.mp e1
      have e2 := ai_le_iff.mp e2
      show lo ≤ _ ∧ _ ≤ hi
      rw [ai_bm64_id (by omega) (by omega)]
      exact ⟨h1, h2⟩
/-- a product lies between the products of the ends -/
theorem ai_between {a b c d x y : Int} (h1 : a ≤ x) (h2 : x ≤ b) (h3 : c ≤ y) (h4 : y ≤ d) : (a * c ≤ x * y ∨ a * d ≤ x * y ∨ b * c ≤ x * y ∨ b * d ≤ x * y) ∧ (x * y ≤ a * c ∨ x * y ≤ a * d ∨ x * y ≤ b * c ∨ x * y ≤ b * d) := by
  have key : ∀ {p q z w : Int}, p ≤ z → z ≤ q → (p * w ≤ z * w ∨ q * w ≤ z * w) ∧ (z * w ≤ p * w ∨ z * w ≤ q * w) := by
    intro p q z w hp hq
    rcases Int.le_total 0 w with hw | hw
    · exact ⟨Or.inl (Int.mul_le_mul_of_nonneg_right hp hw), Or.inr (Int.mul_le_mul_of_nonneg_right hq hw)⟩
    · exact ⟨Or.inr (Int.mul_le_mul_of_nonpos_right hq hw), Or.inl (Int.mul_le_mul_of_nonpos_right hp hw)⟩
  have kx := key (w := y) h1 h2
  have ka := key (w := a) h3 h4
  have kb := key (w := b) h3 h4
  rw [Int.mul_comm c a, Int.mul_comm y a, Int.mul_comm d a] at ka
  rw [Int.mul_comm c b, Int.mul_comm y b, Int.mul_comm d b] at kb
  obtain ⟨x1, x2⟩ := kx
  obtain ⟨a1, a2⟩ := ka
  obtain ⟨b1, b2⟩ := kb
  constructor
  · rcases x1 with x1 | x1
    · rcases a1 with a1 | a1
      · exact Or.inl (Int.le_trans a1 x1)
      · exact Or.inr (Or.inl (Int.le_trans a1 x1))
    · rcases b1 with b1 | b1
      · exact Or.inr (Or.inr (Or.inl (Int.le_trans b1 x1)))
      · exact Or.inr (Or.inr (Or.inr (Int.le_trans b1 x1)))
  · rcases x2 with x2 | x2
    · rcases a2 with a2 | a2
      · exact Or.inl (Int.le_trans x2 a2)
      · exact Or.inr (Or.inl (Int.le_trans x2 a2))
    · rcases b2 with b2 | b2
      · exact Or.inr (Or.inr (Or.inl (Int.le_trans x2 b2)))
      · exact Or.inr (Or.inr (Or.inr (Int.le_trans x2 b2)))
theorem ai_min4 {p q r s u : Int} (h : p ≤ u ∨ q ≤ u ∨ r ≤ u ∨ s ≤ u) : ai_min (ai_min p q) (ai_min r s) ≤ u := by
  have h1 := ai_min_le (a := p) (b := q)
  have h2 := ai_min_le (a := r) (b := s)
  have h3 := ai_min_le (a := ai_min p q) (b := ai_min r s)
  omega
theorem ai_max4 {p q r s u : Int} (h : u ≤ p ∨ u ≤ q ∨ u ≤ r ∨ u ≤ s) : u ≤ ai_max (ai_max p q) (ai_max r s) := by
  have h1 := ai_max_ge (a := p) (b := q)
  have h2 := ai_max_ge (a := r) (b := s)
  have h3 := ai_max_ge (a := ai_max p q) (b := ai_max r s)
  omega
theorem ai_rmul32 {a b c d x y : Int} (h1 : a ≤ x) (h2 : x ≤ b) (h3 : c ≤ y) (h4 : y ≤ d) : (ai_rmul false a b c d).1 ≤ (x * y).bmod 4294967296 ∧ (x * y).bmod 4294967296 ≤ (ai_rmul false a b c d).2 := by
  obtain ⟨k1, k2⟩ := ai_between h1 h2 h3 h4
  exact ai_fit32 (ai_min4 k1) (ai_max4 k2)
theorem ai_rmul64 {a b c d x y : Int} (h1 : a ≤ x) (h2 : x ≤ b) (h3 : c ≤ y) (h4 : y ≤ d) : (ai_rmul true a b c d).1 ≤ (x * y).bmod 18446744073709551616 ∧ (x * y).bmod 18446744073709551616 ≤ (ai_rmul true a b c d).2 := by
  obtain ⟨k1, k2⟩ := ai_between h1 h2 h3 h4
  exact ai_fit64 (ai_min4 k1) (ai_max4 k2)
theorem ai_abs_of (a : Int) : ai_abs a = (a.natAbs : Int) := by
  cases a with
  | ofNat n => rfl
  | negSucc n => rfl
theorem ai_tdiv_abs (x y : Int) : (x.tdiv y).natAbs ≤ x.natAbs := by
  rw [Int.natAbs_tdiv]
  exact Nat.div_le_self _ _
theorem ai_tdiv_bd {a b x y : Int} (h1 : a ≤ x) (h2 : x ≤ b) : -(ai_max (ai_abs a) (ai_abs b)) ≤ x.tdiv y ∧ x.tdiv y ≤ ai_max (ai_abs a) (ai_abs b) := by
  have h := ai_tdiv_abs x y
  have g := ai_max_ge (a := ai_abs a) (b := ai_abs b)
  rw [ai_abs_of, ai_abs_of] at g ⊢
  omega
theorem ai_rdiv32 {a b c x y : Int} (h1 : a ≤ x) (h2 : x ≤ b) (h3 : c ≤ y) (hb : x ≤ ai_hi32) : (ai_rdiv false a b c).1 ≤ (x.tdiv y).bmod 4294967296 ∧ (x.tdiv y).bmod 4294967296 ≤ (ai_rdiv false a b c).2 := by
  have h := ai_tdiv_bd (y := y) h1 h2
  unfold ai_rdiv
  cases e1 : ai_le 0 a with
  | false => exact ai_fit32 h.1 h.2
  | true => cases e2 : ai_le 1 c with
    | false => exact ai_fit32 h.1 h.2
    | true =>
      have e1 := ai_le_iff.mp e1
      have e2 := ai_le_iff.mp e2
      have k1 : 0 ≤ x.tdiv y := Int.tdiv_nonneg (by omega) (by omega)
      have k2 : x.tdiv y ≤ x := Int.tdiv_le_self _ (by omega)
      show 0 ≤ _ ∧ _ ≤ b
      rw [ai_bm32_id (by unfold ai_lo32; omega) (by omega)]
      omega
theorem ai_rdiv64 {a b c x y : Int} (h1 : a ≤ x) (h2 : x ≤ b) (h3 : c ≤ y) (hb : x ≤ ai_hi64) : (ai_rdiv true a b c).1 ≤ (x.tdiv y).bmod 18446744073709551616 ∧ (x.tdiv y).bmod 18446744073709551616 ≤ (ai_rdiv true a b c).2 := by
  have h := ai_tdiv_bd (y := y) h1 h2
  unfold ai_rdiv
  cases e1 : ai_le 0 a with
  | false => exact ai_fit64 h.1 h.2
  | true => cases e2 : ai_le 1 c with
    | false => exact ai_fit64 h.1 h.2
    | true =>
      have e1 := ai_le_iff.mp e1
      have e2 := ai_le_iff.mp e2
      have k1 : 0 ≤ x.tdiv y := Int.tdiv_nonneg (by omega) (by omega)
      have k2 : x.tdiv y ≤ x := Int.tdiv_le_self _ (by omega)
      show 0 ≤ _ ∧ _ ≤ b
      rw [ai_bm64_id (by unfold ai_lo64; omega) (by omega)]
      omega
theorem ai_sub_tdiv (x y : Int) : x - x.tdiv y * y = x.tmod y := by
  have h := Int.tmod_add_mul_tdiv x y
  rw [Int.mul_comm] at h
  omega
theorem ai_tmod_nn {x y : Int} (h : 0 ≤ x) : 0 ≤ x.tmod y ∧ x.tmod y ≤ x := by
  refine ⟨Int.tmod_nonneg _ h, ?_⟩
  have h1 := Int.natAbs_tmod x y
  have h2 := Nat.mod_le x.natAbs y.natAbs
  omega
theorem ai_tmod_lt {x y : Int} (h : 1 ≤ y) : 1 - y ≤ x.tmod y ∧ x.tmod y ≤ y - 1 := by
  have h1 := Int.natAbs_tmod x y
  have h2 := Nat.mod_lt x.natAbs (show y.natAbs > 0 by omega)
  omega
theorem ai_tmod_abs (x y : Int) : (x.tmod y).natAbs ≤ x.natAbs := by
  rw [Int.natAbs_tmod]
  exact Nat.mod_le _ _
theorem ai_rrem32 {a b c d x y : Int} (h1 : a ≤ x) (h2 : x ≤ b) (h3 : c ≤ y) (h4 : y ≤ d) (hb : x ≤ ai_hi32) : (ai_rrem false a b c d).1 ≤ (x - x.tdiv y * y).bmod 4294967296 ∧ (x - x.tdiv y * y).bmod 4294967296 ≤ (ai_rrem false a b c d).2 := by
  rw [ai_sub_tdiv]
  unfold ai_rrem
  cases e1 : ai_le 0 a with
  | true =>
    have e1 := ai_le_iff.mp e1
    have k := ai_tmod_nn (x := x) (y := y) (by omega)
    rw [ai_bm32_id (by unfold ai_lo32; omega) (by omega)]
    cases e2 : ai_le 1 c with
    | true =>
      have e2 := ai_le_iff.mp e2
      have k2 := ai_tmod_lt (x := x) (y := y) (by omega)
      have k3 := ai_min_le (a := b) (b := d - 1)
      show 0 ≤ _ ∧ _ ≤ ai_min b (d - 1)
      omega
    | false =>
      show 0 ≤ _ ∧ _ ≤ b
      omega
  | false => cases e2 : ai_le 1 c with
    | true =>
      have e2 := ai_le_iff.mp e2
      have k2 := ai_tmod_lt (x := x) (y := y) (by omega)
      exact ai_fit32 (by omega) (by omega)
    | false => exact ai_bm32 _
theorem ai_rrem64 {a b c d x y : Int} (h1 : a ≤ x) (h2 : x ≤ b) (h3 : c ≤ y) (h4 : y ≤ d) (hb : x ≤ ai_hi64) : (ai_rrem true a b c d).1 ≤ (x - x.tdiv y * y).bmod 18446744073709551616 ∧ (x - x.tdiv y * y).bmod 18446744073709551616 ≤ (ai_rrem true a b c d).2 := by
  rw [ai_sub_tdiv]
  unfold ai_rrem
  cases e1 : ai_le 0 a with
  | true =>
    have e1 := ai_le_iff.mp e1
    have k := ai_tmod_nn (x := x) (y := y) (by omega)
    rw [ai_bm64_id (by unfold ai_lo64; omega) (by omega)]
    cases e2 : ai_le 1 c with
    | true =>
      have e2 := ai_le_iff.mp e2
      have k2 := ai_tmod_lt (x := x) (y := y) (by omega)
      have k3 := ai_min_le (a := b) (b := d - 1)
      show 0 ≤ _ ∧ _ ≤ ai_min b (d - 1)
      omega
    | false =>
      show 0 ≤ _ ∧ _ ≤ b
      omega
  | false => cases e2 : ai_le 1 c with
    | true =>
      have e2 := ai_le_iff.mp e2
      have k2 := ai_tmod_lt (x := x) (y := y) (by omega)
      exact ai_fit64 (by omega) (by omega)
    | false => exact ai_bm64 _
