/-! KIND feed, offer by their contracts: what is wanted -/
noncomputable def kt_bt (m t : Nat) : Bool := Nat.blt t 381 && Nat.beq (Nat.land (Nat.shiftRight m t) 1) 1
noncomputable def kt_p1 : Nat → Bool := kt_bt 4906011513711226659732009387469053476706705817367523877112702547891934783074065065995508217060241855355332600004605
noncomputable def kt_p2 : Nat → Bool := kt_bt 18036807035703039190191210983342108370245241975615896607031994661367365312880203230394925376069689079560507752449
noncomputable def kt_X1 : List (Nat × Nat × Nat) := [(390, 335, 0)]
noncomputable def kt_X2 : List (Nat × Nat × Nat) := []
noncomputable def kt_A1 : List (Nat × ai_X) := [(392, (382, 0)), (393, (383, 0)), (394, (384, 0)), (395, (385, 0)), (396, (386, 0))]
noncomputable def kt_A2 : List (Nat × ai_X) := [(392, (382, 0)), (393, (383, 0)), (394, (384, 0)), (395, (385, 0)), (396, (386, 0))]
noncomputable def kt_Pf : List (Nat × Nat × Nat) := [(1, 0, 4), (70, 264, 1)]
theorem kt_Pfok : lx_pc kt_Pf = true := by decide +kernel
/-- what feed changes; what offer may change -/
noncomputable def kt_c7 (t : Nat) : Bool := Nat.beq t 75 || Nat.beq t 70
noncomputable def kt_c8 (t : Nat) : Bool := (of_p t || go_ch t) || [11, 11 + 8, 11 + 8 * 2, 11 + 8 * 3, 369, 369 + 1, 369 + 2, 369 + 3].elem t
noncomputable def kt_P7 (t : Nat) : Bool := Nat.blt t 391 && !(kt_c7 t)
noncomputable def kt_P8 (t : Nat) : Bool := Nat.blt t 391 && !(kt_c8 t)
theorem kt_bt_lt {m t : Nat} (h : kt_bt m t = true) : t < 381 := by
  unfold kt_bt at h
  rw [Bool.and_eq_true] at h
  exact Nat.le_of_ble_eq_true h.1
theorem kt_P7_ok {t : Nat} (h : kt_P7 t = true) : t < 391 ∧ t ≠ 75 ∧ t ≠ 70 := by
  unfold kt_P7 kt_c7 at h
  rw [Bool.and_eq_true, Bool.not_eq_true', Bool.or_eq_false_iff] at h
  exact ⟨Nat.le_of_ble_eq_true h.1, Nat.ne_of_beq_eq_false h.2.1, Nat.ne_of_beq_eq_false h.2.2⟩
theorem kt_c8_ok {t : Nat} (h : kt_c8 t = false) : (of_p t = false ∧ go_ch t = false) ∧ ∀ v, v < 4 → t ≠ 11 + 8 * v ∧ t ≠ 369 + v := by
  unfold kt_c8 at h
  rw [Bool.or_eq_false_iff, Bool.or_eq_false_iff] at h
  have key : ∀ v, v < 4 → (t = 11 + 8 * v ∨ t = 369 + v) → False := fun v hv e => by
    have m : t ∈ [11, 11 + 8, 11 + 8 * 2, 11 + 8 * 3, 369, 369 + 1, 369 + 2, 369 + 3] := by
      simp only [List.mem_cons, List.not_mem_nil, or_false]
      omega
    rw [List.elem_eq_true_of_mem m] at h
    cases h.2
  exact ⟨h.1, fun v hv => ⟨fun e => key v hv (Or.inl e), fun e => key v hv (Or.inr e)⟩⟩
theorem kt_P8_ok {t : Nat} (h : kt_P8 t = true) : t < 391 ∧ kt_c8 t = false := by
  unfold kt_P8 at h
  rw [Bool.and_eq_true, Bool.not_eq_true'] at h
  exact ⟨Nat.le_of_ble_eq_true h.1, h.2⟩
/-- numbers of both -/
theorem kt_pp : (List.range 381).all (fun t => !(kt_p1 t && kt_p2 t) || (Nat.beq t 75 || (Nat.beq t 85 || !(kt_c8 t)))) = true := by decide +kernel
theorem kt_both {t : Nat} (h1 : kt_p1 t = true) (h2 : kt_p2 t = true) : t = 75 ∨ t = 85 ∨ kt_c8 t = false := by
  have g := List.all_eq_true.mp kt_pp t (List.mem_range.mpr (kt_bt_lt h1))
  rw [h1, h2] at g
  have g : (Nat.beq t 75 || (Nat.beq t 85 || !(kt_c8 t))) = true := g
  rw [Bool.or_eq_true, Bool.or_eq_true, Bool.not_eq_true'] at g
  rcases g with g | g | g
  · exact Or.inl (Nat.eq_of_beq_eq_true g)
  · exact Or.inr (Or.inl (Nat.eq_of_beq_eq_true g))
  · exact Or.inr (Or.inr g)
theorem kt_pm : (kt_p1 0 = true ∧ kt_p2 0 = true) ∧ (kt_p1 73 = true ∧ kt_p2 73 = true) ∧ (kt_p1 75 = true ∧ kt_p2 75 = true) ∧ (kt_p1 85 = true ∧ kt_p2 85 = true) ∧ kt_p2 70 = true ∧ kt_p1 70 = false := by decide +kernel
theorem kt_hp1 : ∀ t, kt_p1 t = true → t < gcY.1.1 := fun t h => by
  have := kt_bt_lt h
  show t < 491
  omega
theorem kt_hp2 : ∀ t, kt_p2 t = true → t < gbY.1.1 := fun t h => by
  have := kt_bt_lt h
  show t < 491
  omega
theorem kt_hB7 : ∀ t, (kt_P7 t = true ∨ kt_p1 t = true ∨ kt_p2 t = true) → t < 393 := fun t h => by
  rcases h with h | h | h
  · have := (kt_P7_ok h).1
    omega
  · have := kt_bt_lt h
    omega
  · have := kt_bt_lt h
    omega
theorem kt_hB8 : ∀ t, (kt_P8 t = true ∨ kt_p1 t = true ∨ kt_p2 t = true) → t < 393 := fun t h => by
  rcases h with h | h | h
  · have := (kt_P8_ok h).1
    omega
  · have := kt_bt_lt h
    omega
  · have := kt_bt_lt h
    omega
theorem kt_ik1 : gq_ik gq_E lx_h (fun _ => true) kt_p1 kt_X1 kt_A1 gcY = true := by decide +kernel
theorem kt_ik2 : gq_ik gq_E lx_h (gq_ot gcY) kt_p2 kt_X2 kt_A2 gbY = true := by decide +kernel
theorem kt_gn : ((gq_gn gcY && gq_gn gbY) && (gcY.2.2.1.all (gw_g1 (fun _ => true)) && gbY.2.2.1.all (gw_g1 (gq_ot gcY)))) = true := by decide +kernel
theorem kt_c1 : gq_ck1 gcY gbY kt_p1 kt_p2 kt_X1 kt_X2 kt_A1 kt_A2 = true := by
  unfold gq_ck1
  rw [kt_ik1, kt_ik2, kt_gn]
  rfl
theorem kt_rdl : gq_rd.all (fun q => Nat.blt q.2.1 393) = true := by decide +kernel
theorem kt_bd : (75, ((0 : Int), (200 : Int))) ∈ gq_E.2.1 ∧ (73, ((0 : Int), (4 : Int))) ∈ gq_E.2.1 := by decide +kernel
theorem kt_i32 {r : Nat → Int} (hE : ai_gE r gq_E) {t : Nat} (h : 382 ≤ t ∧ t < 393) : -2147483648 ≤ r t ∧ r t ≤ 2147483647 := by
  have w : ∀ j ∈ List.range 11, (382 + j, ((-2147483648 : Int), (2147483647 : Int))) ∈ gq_E.2.1 := by decide +kernel
  have g := (hE.2.2.2.1 _ (w (t - 382) (List.mem_range.mpr (by omega)))).2
  rw [show 382 + (t - 382) = t by omega] at g
  exact g
theorem kt_ol : (gcY.2.2.1.any (fun g => Nat.beq g.1 86) = true ∧ gcY.2.2.1.any (fun g => Nat.beq g.1 285) = false) ∧ (gcY.2.2.1.any (fun g => Nat.beq g.1 286) = false ∧ gcY.2.2.1.any (fun g => Nat.beq g.1 288) = false) ∧ (gcY.2.2.1.any (fun g => Nat.beq g.1 289) = false ∧ gcY.2.2.1.any (fun g => Nat.beq g.1 290) = false) ∧
    (gbY.2.2.1.any (fun g => Nat.beq g.1 86) = false ∧ gbY.2.2.1.any (fun g => Nat.beq g.1 285) = true) ∧ (gbY.2.2.1.any (fun g => Nat.beq g.1 286) = true ∧ gbY.2.2.1.any (fun g => Nat.beq g.1 288) = true) ∧ (gbY.2.2.1.any (fun g => Nat.beq g.1 289) = true ∧ gbY.2.2.1.any (fun g => Nat.beq g.1 290) = true) := by decide +kernel
section KTO
variable {M2 M3 cc : Nat → Nat → Int}
theorem kt_o86 : gw_o gbY M3 (gw_o gcY M2 cc) 86 = M2 86 := (if_neg (by rw [kt_ol.2.2.2.1.1]; decide)).trans (if_pos kt_ol.1.1)
theorem kt_oo (h2 : ∀ z, z ≠ 86 → M2 z = cc z) (h3 : ∀ z, z ≠ 285 → M3 z = cc z) {z : Nat} (a : z ≠ 86) (b : z ≠ 285) : gw_o gbY M3 (gw_o gcY M2 cc) z = cc z := by
  unfold gw_o
  split
  · exact h3 z b
  · split
    · exact h2 z a
    · rfl
theorem kt_o287 : gw_o gbY M3 (gw_o gcY M2 cc) 287 = M3 287 := if_pos (by decide +kernel)
theorem kt_oc {v : Nat} (hv : v < 4) : gw_o gbY M3 (gw_o gcY M2 cc) (47 + 6 * v) = M2 (47 + 6 * v) := by
  have w : (List.range 4).all (fun v => !(gbY.2.2.1.any (fun g => Nat.beq g.1 (47 + 6 * v))) && gcY.2.2.1.any (fun g => Nat.beq g.1 (47 + 6 * v))) = true := by decide +kernel
  have g := List.all_eq_true.mp w v (List.mem_range.mpr hv)
  rw [Bool.and_eq_true, Bool.not_eq_true'] at g
  exact (if_neg (by rw [g.1]; decide)).trans (if_pos g.2)
theorem kt_o3 {q : Nat} (h : q = 285 ∨ q = 286 ∨ q = 288 ∨ q = 289 ∨ q = 290) : gw_o gbY M3 (gw_o gcY M2 cc) q = M3 q := by
  obtain ⟨-, -, -, ⟨-, a5⟩, ⟨a6, a8⟩, a9, a0⟩ := kt_ol
  rcases h with rfl | rfl | rfl | rfl | rfl
  · exact if_pos a5
  · exact if_pos a6
  · exact if_pos a8
  · exact if_pos a9
  · exact if_pos a0
theorem kt_o1 {q : Nat} (h : q = 286 ∨ q = 288 ∨ q = 289 ∨ q = 290) : gw_o gcY M2 cc q = cc q := by
  obtain ⟨-, ⟨a6, a8⟩, ⟨a9, a0⟩, -⟩ := kt_ol
  rcases h with rfl | rfl | rfl | rfl
  · exact if_neg (by rw [a6]; decide)
  · exact if_neg (by rw [a8]; decide)
  · exact if_neg (by rw [a9]; decide)
  · exact if_neg (by rw [a0]; decide)
theorem kt_pw1 (h : gz_pw cc) : gz_pw (gw_o gcY M2 cc) := gz_pw_c h (fun z x w => by rw [kt_o1 (by omega)])
theorem kt_pw3 (h : gz_pw M3) : gz_pw (gw_o gbY M3 (gw_o gcY M2 cc)) := gz_pw_c h (fun z x w => by rw [kt_o3 (by omega)])
end KTO
section KTX
variable {r4 : Nat → Int} {cc : Nat → Nat → Int} {a : Int}
theorem kt_r1 {t : Nat} (h : kt_p1 t = true) : gq_rn r4 cc kt_p1 kt_X1 kt_A1 gcY.1 t = r4 t := gq_rn_p h
theorem kt_r2 {t : Nat} (h : kt_p2 t = true) : gq_rn (pt_set r4 391 a) cc kt_p2 kt_X2 kt_A2 gbY.1 t = r4 t := (gq_rn_p h).trans (if_neg (by have := kt_bt_lt h; omega))
theorem kt_a1 : ∀ j, j < 5 → gq_rn r4 cc kt_p1 kt_X1 kt_A1 gcY.1 (392 + j) = r4 (382 + j) := fun j hj => by
  have g := gq_ik_A (r := r4) (c := cc) kt_ik1
  have k : ∀ x y, (x, ((y, 0) : ai_X)) ∈ kt_A1 → gq_rn r4 cc kt_p1 kt_X1 kt_A1 gcY.1 x = r4 y := fun x y h => (g _ h).2.trans (Int.add_zero _)
  rcases (by omega : j = 0 ∨ j = 1 ∨ j = 2 ∨ j = 3 ∨ j = 4) with rfl | rfl | rfl | rfl | rfl
  · exact k _ _ (by simp [kt_A1])
  · exact k _ _ (by simp [kt_A1])
  · exact k _ _ (by simp [kt_A1])
  · exact k _ _ (by simp [kt_A1])
  · exact k _ _ (by simp [kt_A1])
theorem kt_a2 : ∀ j, j < 5 → gq_rn (pt_set r4 391 a) cc kt_p2 kt_X2 kt_A2 gbY.1 (392 + j) = r4 (382 + j) := fun j hj => by
  have g := gq_ik_A (r := pt_set r4 391 a) (c := cc) kt_ik2
  have k : ∀ x y, y ≠ 391 → (x, ((y, 0) : ai_X)) ∈ kt_A2 → gq_rn (pt_set r4 391 a) cc kt_p2 kt_X2 kt_A2 gbY.1 x = r4 y := fun x y hy h => (g _ h).2.trans ((Int.add_zero _).trans (if_neg hy))
  rcases (by omega : j = 0 ∨ j = 1 ∨ j = 2 ∨ j = 3 ∨ j = 4) with rfl | rfl | rfl | rfl | rfl
  · exact k _ _ (by omega) (by simp [kt_A2])
  · exact k _ _ (by omega) (by simp [kt_A2])
  · exact k _ _ (by omega) (by simp [kt_A2])
  · exact k _ _ (by omega) (by simp [kt_A2])
  · exact k _ _ (by omega) (by simp [kt_A2])
end KTX
theorem kt_Jn (t : Nat) (ht : t ∈ lx_Jt) : t < 391 ∧ t ≠ 70 ∧ t ≠ 75 := by
  have w : lx_Jt.all (fun t => Nat.blt t 391 && (!(Nat.beq t 70) && !(Nat.beq t 75))) = true := by decide +kernel
  have g := List.all_eq_true.mp w t ht
  simp only [Bool.and_eq_true, Bool.not_eq_true'] at g
  exact ⟨Nat.le_of_ble_eq_true g.1, Nat.ne_of_beq_eq_false g.2.1, Nat.ne_of_beq_eq_false g.2.2⟩
theorem kt_Kn (t : Nat) (ht : t ∈ lx_Kt) : t < 391 ∧ t ≠ 70 ∧ t ≠ 75 := kt_Jn t (lx_Kj ht).1
