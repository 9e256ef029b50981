/-! write and day by their contracts: what both want -/
noncomputable def kw_bt (m t : Nat) : Bool := Nat.blt t 381 && Nat.beq (Nat.land (Nat.shiftRight m t) 1) 1
noncomputable def kw_p1 : Nat → Bool := kw_bt 4906011513711226659732009387469053476706705817421443770447003826732979974934682033222495832850070400636531956508669
noncomputable def kw_p2 : Nat → Bool := kw_bt 53919890120425191071353481703483665002350200267866807912876661014529
noncomputable def kw_X1 : List (Nat × Nat × Nat) := [(390, 335, 0)]
noncomputable def kw_X2 : List (Nat × Nat × Nat) := []
noncomputable def kw_A1 : List (Nat × ai_X) := [(392, (382, 0)), (393, (383, 0)), (394, (384, 0)), (395, (385, 0))]
noncomputable def kw_A2 : List (Nat × ai_X) := [(391, (382, 0)), (392, (383, 0)), (393, (384, 0)), (394, (385, 0))]
noncomputable def kw_Pf : List (Nat × Nat × Nat) := [(1, 0, 4), (70, 264, 1)]
theorem kw_Pfok : lx_pc kw_Pf = true := by decide +kernel
noncomputable def kw_row (t : Nat) : Bool := Nat.ble 225 t && Nat.blt t (225 + 144)
noncomputable def kw_R1 : List (Nat × Nat × Nat) := (List.range 144).map (fun k => (225 + k, 70 + k / 12, k % 12))
noncomputable def kw_R2 : List (Nat × Nat × Nat) := (List.range 144).map (fun k => (225 + k, 283, k))
noncomputable def kw_O2 : List (Nat × Nat × Nat) := (List.range 16).map (fun k => (169 + k, 279, k)) ++ (List.range 16).map (fun k => (185 + k, 280, k))
noncomputable def kw_G2 : List (Nat × Nat × Nat) := kw_R2 ++ kw_O2
noncomputable def kw_cg (t : Nat) : Bool := (Nat.ble 169 t && Nat.blt t (169 + 16)) || (Nat.ble 185 t && Nat.blt t (185 + 16))
theorem kw_cgF {t : Nat} (h : kw_cg t = false) : ¬ ((169 ≤ t ∧ t < 169 + 16) ∨ (185 ≤ t ∧ t < 185 + 16)) := fun q => by
  unfold kw_cg at h
  rw [Bool.or_eq_false_iff] at h
  rcases q with q | q
  · have h := h.1
    rw [Nat.ble_eq_true_of_le q.1, show Nat.blt t (169 + 16) = true from Nat.ble_eq_true_of_le q.2] at h
    cases h
  · have h := h.2
    rw [Nat.ble_eq_true_of_le q.1, show Nat.blt t (185 + 16) = true from Nat.ble_eq_true_of_le q.2] at h
    cases h
noncomputable def kw_P0 (t : Nat) : Bool := Nat.blt t 391 && !(Nat.beq t 70 || kw_row t)
noncomputable def kw_P0d (t : Nat) : Bool := Nat.blt t 391 && !(Nat.beq t 70 || kw_cg t)
theorem kw_bt_lt {m t : Nat} (h : kw_bt m t = true) : t < 381 := by
  unfold kw_bt at h
  rw [Bool.and_eq_true] at h
  exact Nat.le_of_ble_eq_true h.1
noncomputable def kw_nd : List Nat := [0, 74, 71, 73] ++ ((List.range 12).map (fun s => 213 + s) ++ ((List.range 12).map (fun s => 201 + s) ++ (List.range 4).map (fun s => 137 + s)))
theorem kw_p1m : kw_nd.all kw_p1 = true := by decide +kernel
theorem kw_p2m : (70 :: kw_nd).all kw_p2 = true := by decide +kernel
theorem kw_pn : (List.range 381).all (fun t => (!(kw_p1 t) || !(Nat.beq t 70 || kw_row t)) && (!(kw_p2 t) || !(kw_row t || kw_cg t))) = true := by decide +kernel
theorem kw_rowF {t : Nat} (h : kw_row t = false) : ¬ (225 ≤ t ∧ t < 225 + 144) := fun q => by
  unfold kw_row at h
  rw [Nat.ble_eq_true_of_le q.1, show Nat.blt t (225 + 144) = true from Nat.ble_eq_true_of_le q.2] at h
  cases h
theorem kw_n1 {t : Nat} (h : kw_p1 t = true) : t < 381 ∧ t ≠ 70 ∧ ¬ (225 ≤ t ∧ t < 225 + 144) := by
  have hl := kw_bt_lt h
  have g := List.all_eq_true.mp kw_pn t (List.mem_range.mpr hl)
  rw [Bool.and_eq_true, h] at g
  have g1 : (!(Nat.beq t 70 || kw_row t)) = true := g.1
  rw [Bool.not_eq_true', Bool.or_eq_false_iff] at g1
  exact ⟨hl, Nat.ne_of_beq_eq_false g1.1, kw_rowF g1.2⟩
theorem kw_n2 {t : Nat} (h : kw_p2 t = true) : t < 381 ∧ ¬ (225 ≤ t ∧ t < 225 + 144) ∧ ¬ ((169 ≤ t ∧ t < 169 + 16) ∨ (185 ≤ t ∧ t < 185 + 16)) := by
  have hl := kw_bt_lt h
  have g := List.all_eq_true.mp kw_pn t (List.mem_range.mpr hl)
  rw [Bool.and_eq_true, h] at g
  have g1 : (!(kw_row t || kw_cg t)) = true := g.2
  rw [Bool.not_eq_true', Bool.or_eq_false_iff] at g1
  exact ⟨hl, kw_rowF g1.1, kw_cgF g1.2⟩
theorem kw_P0_ok {t : Nat} (h : kw_P0 t = true) : t < 391 ∧ t ≠ 70 ∧ ¬ (225 ≤ t ∧ t < 225 + 144) := by
  unfold kw_P0 at h
  rw [Bool.and_eq_true, Bool.not_eq_true', Bool.or_eq_false_iff] at h
  exact ⟨Nat.le_of_ble_eq_true h.1, Nat.ne_of_beq_eq_false h.2.1, kw_rowF h.2.2⟩
theorem kw_P0d_ok {t : Nat} (h : kw_P0d t = true) : t < 391 ∧ t ≠ 70 ∧ ¬ ((169 ≤ t ∧ t < 169 + 16) ∨ (185 ≤ t ∧ t < 185 + 16)) := by
  unfold kw_P0d at h
  rw [Bool.and_eq_true, Bool.not_eq_true', Bool.or_eq_false_iff] at h
  exact ⟨Nat.le_of_ble_eq_true h.1, Nat.ne_of_beq_eq_false h.2.1, kw_cgF h.2.2⟩
theorem kw_hp1 : ∀ t, kw_p1 t = true → t < waY.1.1 := fun t h => by
  have := (kw_n1 h).1
  show t < 491
  omega
theorem kw_hp2 : ∀ t, kw_p2 t = true → t < wbY.1.1 := fun t h => by
  have := (kw_n2 h).1
  show t < 490
  omega
theorem kw_hB : ∀ t, (kw_P0 t = true ∨ kw_p1 t = true ∨ kw_p2 t = true) → t < 393 := fun t h => by
  rcases h with h | h | h
  · have := (kw_P0_ok h).1
    omega
  · have := (kw_n1 h).1
    omega
  · have := (kw_n2 h).1
    omega
theorem kw_hBd : ∀ t, (kw_P0d t = true ∨ kw_p1 t = true ∨ kw_p2 t = true) → t < 393 := fun t h => by
  rcases h with h | h | h
  · have := (kw_P0d_ok h).1
    omega
  · have := (kw_n1 h).1
    omega
  · have := (kw_n2 h).1
    omega
/-- what an array holds at a told place -/
noncomputable def gq_tk (z : Nat × Nat × Nat) : Bool := match ai_cell lx_h z.2.1 with
  | some (.inr (.inl (_, m, _, _, l))) => ((Nat.ble 16 z.2.1 && Nat.blt z.2.1 336) && (Nat.blt z.2.2 m && l.all (fun y => Nat.beq y.1.1 0))) && (match l.find? (fun y => ai_eq y.1.2 (.ofNat z.2.2)) with
    | some y => Nat.beq y.1.1 0 && cx_q y.2 (z.1, 0)
    | none => false)
  | _ => false
theorem gq_tk_ok {r : Nat → Int} {c : Nat → Nat → Int} {z : Nat × Nat × Nat} (h0 : r 0 = 0) (hct : gq_ct r c) (h : gq_tk z = true) : c z.2.1 z.2.2 = r z.1 := by
  unfold gq_tk at h
  split at h
  · rename_i ty mm lo hi' ll ec
    simp only [Bool.and_eq_true] at h
    obtain ⟨⟨⟨k1, k2⟩, k3, k4⟩, k5⟩ := h
    have gov := hct z.2.1 ty mm lo hi' ll (Nat.le_of_ble_eq_true k1) (Nat.le_of_ble_eq_true k2) ec z.2.2 (Nat.le_of_ble_eq_true k3)
    cases ef : ll.find? (fun y => ai_eq y.1.2 (.ofNat z.2.2)) with
    | none =>
      rw [ef] at k5
      cases k5
    | some zz =>
      rw [ef] at k5
      simp only [Bool.and_eq_true] at k5
      have w1 := Nat.eq_of_beq_eq_true k5.1
      have w2 := cx_q_ok k5.2
      have w3 := ai_eq_iff.mp (List.find?_some (p := fun (y : ai_X × ai_X) => ai_eq y.1.2 (.ofNat z.2.2)) ef)
      obtain ⟨⟨za, zb⟩, zc⟩ := zz
      have w1 : za = 0 := w1
      have w2 : zc = (z.1, 0) := w2
      have w3 : zb = ((z.2.2 : Nat) : Int) := w3
      subst w1 w2 w3
      exact (gl_at h0 (fun y hy => Nat.eq_of_beq_eq_true (List.all_eq_true.mp k4 y hy)) ef gov).trans (Int.add_zero _)
  · cases h
theorem kw_tk : (kw_R1 ++ kw_R2).all gq_tk = true := by decide +kernel
theorem kw_t1 {r : Nat → Int} {c : Nat → Nat → Int} (h0 : r 0 = 0) (hct : gq_ct r c) {k : Nat} (hk : k < 144) : c (70 + k / 12) (k % 12) = r (225 + k) := gq_tk_ok (z := (225 + k, 70 + k / 12, k % 12)) h0 hct (List.all_eq_true.mp kw_tk _ (List.mem_append_left _ (List.mem_map.mpr ⟨k, List.mem_range.mpr hk, rfl⟩)))
theorem kw_t2 {r : Nat → Int} {c : Nat → Nat → Int} (h0 : r 0 = 0) (hct : gq_ct r c) {k : Nat} (hk : k < 144) : c 283 k = r (225 + k) := gq_tk_ok (z := (225 + k, 283, k)) h0 hct (List.all_eq_true.mp kw_tk _ (List.mem_append_right _ (List.mem_map.mpr ⟨k, List.mem_range.mpr hk, rfl⟩)))
theorem kw_tkO : kw_O2.all gq_tk = true := by decide +kernel
theorem kw_t3 {r : Nat → Int} {c : Nat → Nat → Int} (h0 : r 0 = 0) (hct : gq_ct r c) {k : Nat} (hk : k < 16) : c 279 k = r (169 + k) ∧ c 280 k = r (185 + k) := ⟨gq_tk_ok (z := (169 + k, 279, k)) h0 hct (List.all_eq_true.mp kw_tkO _ (List.mem_append_left _ (List.mem_map.mpr ⟨k, List.mem_range.mpr hk, rfl⟩))), gq_tk_ok (z := (185 + k, 280, k)) h0 hct (List.all_eq_true.mp kw_tkO _ (List.mem_append_right _ (List.mem_map.mpr ⟨k, List.mem_range.mpr hk, rfl⟩)))⟩
theorem kw_ik1 : gq_ik gq_E lx_h (fun _ => true) kw_p1 kw_X1 kw_A1 waY = true := by decide +kernel
theorem kw_ik2 : gq_ik gq_E lx_h (gq_ot waY) kw_p2 kw_X2 kw_A2 wbY = true := by decide +kernel
theorem kw_gn : ((gq_gn waY && gq_gn wbY) && (waY.2.2.1.all (gw_g1 (fun _ => true)) && wbY.2.2.1.all (gw_g1 (gq_ot waY)))) = true := by decide +kernel
theorem kw_c1 : gq_ck1 waY wbY kw_p1 kw_p2 kw_X1 kw_X2 kw_A1 kw_A2 = true := by
  unfold gq_ck1
  rw [kw_ik1, kw_ik2, kw_gn]
  rfl
theorem kw_cv : gq_cv kw_P0 = true ∧ gq_cv kw_P0d = true := ⟨by decide +kernel, by decide +kernel⟩
theorem kw_i32 {r : Nat → Int} (hE : ai_gE r gq_E) {t : Nat} (h : 382 ≤ t ∧ t < 393) : -2147483648 ≤ r t ∧ r t ≤ 2147483647 := by
  have w : ∀ j ∈ List.range 11, (382 + j, ((-2147483648 : Int), (2147483647 : Int))) ∈ gq_E.2.1 := by decide +kernel
  have g := (hE.2.2.2.1 _ (w (t - 382) (List.mem_range.mpr (by omega)))).2
  rw [show 382 + (t - 382) = t by omega] at g
  exact g
theorem kw_bd {r : Nat → Int} (hE : ai_gE r gq_E) : (0 ≤ r 74 ∧ r 74 ≤ 12) ∧ (0 ≤ r 71 ∧ r 71 ≤ 4) ∧ (0 ≤ r 73 ∧ r 73 ≤ 4) ∧ (∀ s, s < 12 → -1 ≤ r (213 + s) ∧ r (213 + s) ≤ 12) ∧ ∀ m, m < 4 → 0 ≤ r (137 + m) ∧ r (137 + m) ≤ 3 := by
  have h : (((74, ((0 : Int), (12 : Int))) ∈ gq_E.2.1 ∧ (71, ((0 : Int), (4 : Int))) ∈ gq_E.2.1 ∧ (73, ((0 : Int), (4 : Int))) ∈ gq_E.2.1) ∧ ∀ s ∈ List.range 12, (213 + s, ((-1 : Int), (12 : Int))) ∈ gq_E.2.1) ∧ ∀ m ∈ List.range 4, (137 + m, ((0 : Int), (3 : Int))) ∈ gq_E.2.1 := by decide +kernel
  exact ⟨(hE.2.2.2.1 _ h.1.1.1).2, (hE.2.2.2.1 _ h.1.1.2.1).2, (hE.2.2.2.1 _ h.1.1.2.2).2, fun s hs => (hE.2.2.2.1 _ (h.1.2 s (List.mem_range.mpr hs))).2, fun m hm => (hE.2.2.2.1 _ (h.2 m (List.mem_range.mpr hm))).2⟩
section LWX
variable {r4 : Nat → Int} {cc : Nat → Nat → Int} {a : Int}
theorem kw_r1 {X : List (Nat × Nat × Nat)} {AL : List (Nat × ai_X)} {E' : ai_E} {t : Nat} (h : kw_p1 t = true) : gq_rn r4 cc kw_p1 X AL E' t = r4 t := gq_rn_p h
theorem kw_r2 {X : List (Nat × Nat × Nat)} {AL : List (Nat × ai_X)} {E' : ai_E} {t : Nat} (h : kw_p2 t = true) : gq_rn (pt_set r4 391 a) cc kw_p2 X AL E' t = r4 t := (gq_rn_p h).trans (if_neg (by have := (kw_n2 h).1; omega))
theorem kw_m1 {t : Nat} (h : t ∈ kw_nd) : kw_p1 t = true := List.all_eq_true.mp kw_p1m t h
theorem kw_m2 {t : Nat} (h : t ∈ kw_nd) : kw_p2 t = true := List.all_eq_true.mp kw_p2m t (List.mem_cons_of_mem _ h)
theorem kw_mMN : 74 ∈ kw_nd := by simp [kw_nd]
theorem kw_mPL : 71 ∈ kw_nd := by simp [kw_nd]
theorem kw_mMI : 73 ∈ kw_nd := by simp [kw_nd]
theorem kw_mSZ {s : Nat} (h : s < 12) : 213 + s ∈ kw_nd := List.mem_append_right _ (List.mem_append_left _ (List.mem_map.mpr ⟨s, List.mem_range.mpr h, rfl⟩))
theorem kw_mSO {s : Nat} (h : s < 12) : 201 + s ∈ kw_nd := List.mem_append_right _ (List.mem_append_right _ (List.mem_append_left _ (List.mem_map.mpr ⟨s, List.mem_range.mpr h, rfl⟩)))
theorem kw_mKI {s : Nat} (h : s < 4) : 137 + s ∈ kw_nd := List.mem_append_right _ (List.mem_append_right _ (List.mem_append_right _ (List.mem_map.mpr ⟨s, List.mem_range.mpr h, rfl⟩)))
theorem kw_a1 : gq_rn r4 cc kw_p1 kw_X1 kw_A1 waY.1 392 = r4 382 ∧ gq_rn r4 cc kw_p1 kw_X1 kw_A1 waY.1 393 = r4 383 ∧ gq_rn r4 cc kw_p1 kw_X1 kw_A1 waY.1 394 = r4 384 ∧ gq_rn r4 cc kw_p1 kw_X1 kw_A1 waY.1 395 = r4 385 := by
  have g := gq_ik_A (r := r4) (c := cc) kw_ik1
  have k : ∀ u b, (u, ((b, 0) : ai_X)) ∈ kw_A1 → gq_rn r4 cc kw_p1 kw_X1 kw_A1 waY.1 u = r4 b := fun u b h => (g _ h).2.trans (Int.add_zero _)
  exact ⟨k _ _ (by simp [kw_A1]), k _ _ (by simp [kw_A1]), k _ _ (by simp [kw_A1]), k _ _ (by simp [kw_A1])⟩
theorem kw_a2 : gq_rn (pt_set r4 391 a) cc kw_p2 kw_X2 kw_A2 wbY.1 391 = r4 382 ∧ gq_rn (pt_set r4 391 a) cc kw_p2 kw_X2 kw_A2 wbY.1 392 = r4 383 ∧ gq_rn (pt_set r4 391 a) cc kw_p2 kw_X2 kw_A2 wbY.1 393 = r4 384 ∧ gq_rn (pt_set r4 391 a) cc kw_p2 kw_X2 kw_A2 wbY.1 394 = r4 385 := by
  have g := gq_ik_A (r := pt_set r4 391 a) (c := cc) kw_ik2
  have k : ∀ u b, b ≠ 391 → (u, ((b, 0) : ai_X)) ∈ kw_A2 → gq_rn (pt_set r4 391 a) cc kw_p2 kw_X2 kw_A2 wbY.1 u = r4 b := fun u b hb h => (g _ h).2.trans ((Int.add_zero _).trans (if_neg hb))
  exact ⟨k _ _ (by omega) (by simp [kw_A2]), k _ _ (by omega) (by simp [kw_A2]), k _ _ (by omega) (by simp [kw_A2]), k _ _ (by omega) (by simp [kw_A2])⟩
end LWX
theorem kw_wv0 {sz so x v : Int} (h : wv_r sz so x v = 0) : 0 ≤ x ∧ x < sz := by
  unfold wv_r at h
  split at h
  · cases h
  · split at h
    · cases h
    · omega
theorem kw_bud : ct_bud 260 = (1, 6) ∧ ct_bud 180 = (0, 0) ∧ ct_bud 262 = (1, 6) ∧ ct_bud 183 = (0, 0) := by decide +kernel
theorem kw_rdl : gq_rd.all (fun q => Nat.blt q.2.1 393) = true := by decide +kernel
theorem kw_f4_s0 : gq_frow 4 gq_rd [(382, (-2147483648, -1))] [] [] kw_Pf = true := by decide +kernel
theorem kw_f4_s1 : gq_frow 4 gq_rd [(382, (0, 2147483647))] [((74, 0), (382, 0))] [] kw_Pf = true := by decide +kernel
theorem kw_f6_w0 : gq_frow 6 gq_rd [(382, (-2147483648, -1))] [] [] kw_Pf = true := by decide +kernel
theorem kw_f6_w1 : gq_frow 6 gq_rd [(382, (2, 2147483647))] [] [] kw_Pf = true := by decide +kernel
theorem kw_f6_s0 : gq_frow 6 gq_rd [(382, (0, 1)), (384, (-2147483648, -1))] [] [] kw_Pf = true := by decide +kernel
theorem kw_f6_s1 : gq_frow 6 gq_rd [(382, (0, 1)), (384, (0, 2147483647))] [((74, 0), (384, 0))] [] kw_Pf = true := by decide +kernel
theorem kw_f6_n0 : gq_frow 6 gq_rd [(382, (0, 0)), (383, (-2147483648, -1)), (384, (0, 11))] [((384, 1), (74, 0))] [] kw_Pf = true := by decide +kernel
theorem kw_f6_n1 : gq_frow 6 gq_rd [(382, (0, 0)), (383, (0, 2147483647)), (384, (0, 11))] [((384, 1), (74, 0)), ((71, 0), (383, 0))] [] kw_Pf = true := by decide +kernel
theorem kw_f6_m0 : gq_frow 6 gq_rd [(382, (1, 1)), (383, (-2147483648, -1)), (384, (0, 11))] [((384, 1), (74, 0))] [] kw_Pf = true := by decide +kernel
theorem kw_f6_m1 : gq_frow 6 gq_rd [(382, (1, 1)), (383, (0, 2147483647)), (384, (0, 11))] [((384, 1), (74, 0)), ((73, 0), (383, 0))] [] kw_Pf = true := by decide +kernel
noncomputable def kw_rd (p : Nat) : List (Int × ai_X) := [(1, (382, 0)), (2, (0, .ofNat p)), (3, (384, 0)), (4, (385, 0))]
theorem kw_f6_k : (List.range 4).all (fun p => gq_frow 6 (kw_rd p) [(382, (1, 1)), (384, (0, 11)), (73, (.ofNat (p + 1), 4)), (137 + p, (0, 2))] [((384, 1), (74, 0))] [] kw_Pf && ((kw_rd p).all (fun q => Nat.blt q.2.1 393) && (([(382, (1, 1)), (384, (0, 11)), (73, (.ofNat (p + 1), 4)), (137 + p, (0, 2))] : List (Nat × Int × Int)).all (fun q => Nat.blt q.1 393) && ([((384, 1), (74, 0))] : List (ai_X × ai_X)).all (fun q => Nat.blt q.1.1 393 && Nat.blt q.2.1 393)))) = true := by decide +kernel
