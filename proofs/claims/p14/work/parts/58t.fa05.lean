/-! flow: the class's numbers are the reference's -/
noncomputable def fy_S (r : Nat → Int) (l q : Nat) : Int := ra_shv 0 l (r (164 + l)).toNat (r (169 + l)).toNat q (r (174 + l)) (ra_tv (ra_pl r 0 5))
theorem fy_gen {r : Nat → Int} (h : fy_H r) {P l a b : Nat} (hP : r 122 = (P : Int)) (hl : (l : Int) + 1 ≤ r 123) (ha : a < P) (hb : b < P) (H : (rb_D r = ra_wv (ra_pl r 0 5) ∧ 0 ≤ ra_wv (ra_pl r 0 5) ∧ ra_wv (ra_pl r 0 5) ≤ 2000000) ∧ ∃ G : Nat → Nat → Int, (∀ x y, x < P → y < P → pt_v (rb_fin r) (rb_hx P x y) = (G x y).bmod 18446744073709551616) ∧ ∀ x y, x < P → y < P → fy_hC (ra_pl r 0 5) x y = G x y - G 0 y - G x 0 + G 0 0) :
    (rb_D r = ra_wv (ra_pl r 0 5) ∧ 0 ≤ ra_wv (ra_pl r 0 5) ∧ ra_wv (ra_pl r 0 5) ≤ 2000000) ∧ ai_op 1 (fy_S r l a) (fy_S r l b) = rb_N r l a b ∧ -2000000 ≤ rb_N r l a b ∧ rb_N r l a b ≤ 2000000 := by
  obtain ⟨H1, G, hG, hI⟩ := H
  refine ⟨H1, ?_⟩
  have l5 : l < 5 := by have := h.2.2.1; omega
  obtain ⟨e1, e2, e3, e4, e5⟩ := fy_ends h l5 hl
  obtain ⟨f, hf⟩ : ∃ f, f = (r (164 + l)).toNat := ⟨_, rfl⟩
  obtain ⟨t, ht⟩ : ∃ t, t = (r (169 + l)).toNat := ⟨_, rfl⟩
  have f4 : f < P := by
    have : (((r (164 + l)).toNat : Nat) : Int) + 1 ≤ r 122 := e4
    omega
  have t4 : t < P := by
    have : (((r (169 + l)).toNat : Nat) : Int) + 1 ≤ r 122 := e5
    omega
  have ft : f ≠ t := by
    have : (r (164 + l)).toNat ≠ (r (169 + l)).toNat := e3
    omega
  have st := (h.2.1 l l5).2.2
  have pb := fy_ppb h
  obtain ⟨s1, s2⟩ := fy_sh pb (l := l) (q := a) st ft
  obtain ⟨s3, s4⟩ := fy_sh pb (l := l) (q := b) st ft
  have ea : fy_S r l a = r (174 + l) * (fy_hC (ra_pl r 0 5) f a - fy_hC (ra_pl r 0 5) t a) := by
    unfold fy_S
    rw [← hf, ← ht]
    exact s1
  have eb : fy_S r l b = r (174 + l) * (fy_hC (ra_pl r 0 5) f b - fy_hC (ra_pl r 0 5) t b) := by
    unfold fy_S
    rw [← hf, ← ht]
    exact s3
  have fo : ∀ u, ¬(196 ≤ u ∧ u < 212) → rb_fin r u = r u := fun u hu => if_neg hu
  have pv : ∀ j, j < P → rb_pv (rb_fin r) l j = (r (174 + l) * (G f j - G t j)).bmod 18446744073709551616 := fun j hj => by
    unfold rb_pv
    rw [fo (174 + l) (by omega), fo 122 (by omega), fo (164 + l) (by omega), fo (169 + l) (by omega), ← hf, ← ht, hP]
    show ai_op 22 (r (174 + l)) (ai_op 21 (pt_v (rb_fin r) (rb_hx P f j)) (pt_v (rb_fin r) (rb_hx P t j))) = _
    rw [hG f j f4 hj, hG t j t4 hj]
    simp only [fy_20, fy_21, fy_22, Int.add_bmod_bmod, Int.bmod_add_bmod, Int.bmod_mul_bmod, Int.mul_bmod_bmod, Int.sub_bmod_bmod, Int.bmod_sub_bmod]
  have eN : rb_N r l a b = (r (174 + l) * (G f a - G t a) - r (174 + l) * (G f b - G t b)).bmod 18446744073709551616 := by
    unfold rb_N
    rw [pv a ha, pv b hb]
    simp only [fy_20, fy_21, fy_22, Int.add_bmod_bmod, Int.bmod_add_bmod, Int.bmod_mul_bmod, Int.mul_bmod_bmod, Int.sub_bmod_bmod, Int.bmod_sub_bmod]
  have i1 := hI f a f4 ha
  have i2 := hI t a t4 ha
  have i3 := hI f b f4 hb
  have i4 := hI t b t4 hb
  have key : r (174 + l) * (G f a - G t a) - r (174 + l) * (G f b - G t b) = r (174 + l) * (fy_hC (ra_pl r 0 5) f a - fy_hC (ra_pl r 0 5) t a) - r (174 + l) * (fy_hC (ra_pl r 0 5) f b - fy_hC (ra_pl r 0 5) t b) := by
    rw [← Int.mul_sub, ← Int.mul_sub]
    congr 1
    omega
  have eS : ai_op 1 (fy_S r l a) (fy_S r l b) = r (174 + l) * (fy_hC (ra_pl r 0 5) f a - fy_hC (ra_pl r 0 5) t a) - r (174 + l) * (fy_hC (ra_pl r 0 5) f b - fy_hC (ra_pl r 0 5) t b) := by
    rw [ea, eb]
    exact ra_small (by omega)
  have eN2 : rb_N r l a b = r (174 + l) * (fy_hC (ra_pl r 0 5) f a - fy_hC (ra_pl r 0 5) t a) - r (174 + l) * (fy_hC (ra_pl r 0 5) f b - fy_hC (ra_pl r 0 5) t b) := by
    rw [eN, key]
    exact rb_small (by omega)
  rw [eS, eN2]
  refine ⟨rfl, by omega, by omega⟩
/-- flow's numbers: whole, part -/
theorem fy_end {r : Nat → Int} (h : fy_H r) {l a b : Nat} (hl : (l : Int) + 1 ≤ r 123) (ha : (a : Int) + 1 ≤ r 122) (hb : (b : Int) + 1 ≤ r 122) :
    (rb_D r = ra_wv (ra_pl r 0 5) ∧ 0 ≤ ra_wv (ra_pl r 0 5) ∧ ra_wv (ra_pl r 0 5) ≤ 2000000) ∧ ai_op 1 (fy_S r l a) (fy_S r l b) = rb_N r l a b ∧ -2000000 ≤ rb_N r l a b ∧ rb_N r l a b ≤ 2000000 := by
  have l5 : l < 5 := by have := h.2.2.1; omega
  obtain ⟨e1, e2, e3, e4, e5⟩ := fy_ends h l5 hl
  have p4 := h.2.2.2
  rcases (by omega : r 122 = 2 ∨ r 122 = 3 ∨ r 122 = 4) with q | q | q
  · exact fy_gen h (P := 2) q hl (by omega) (by omega) (fy_P2 h q)
  · exact fy_gen h (P := 3) q hl (by omega) (by omega) (fy_P3 h q)
  · exact fy_gen h (P := 4) q hl (by omega) (by omega) (fy_P4 h q)
/-- the class's answer is the reference's -/
theorem fy_ans {w D N : Int} : rb_fw w D N = if D = 0 then -1 else if w = 0 then N.tdiv (Int.gcd N D : Int) else D.tdiv (Int.gcd N D : Int) := rfl
