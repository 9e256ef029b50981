/-! GLUE (10): a system's state out of the world -/
noncomputable def gq_ik (E : ai_E) (h : ai_H) (P p : Nat → Bool) (X : List (Nat × Nat × Nat)) (AL : List (Nat × ai_X)) (Y : pt_Y) : Bool := (gq_nk E h P p X AL Y.1 && (gq_nx p X AL && AL.all (fun a => Nat.blt a.1 Y.1.1))) && (List.range 336).all (fun k => match ai_cell Y.2.1 k with
  | none => true
  | some d2 => match ai_cell h k with
    | some d => Nat.ble 16 k && (P k && gq_cc E p X Y.1.1 k d d2)
    | none => false)
theorem gq_sys {D : va_G} {tyc : Nat → ClassId} {A : Nat → Prop} {sa : ai_B} {ws : va_W} {r : Nat → Int} {ad : Nat → Nat} {E : ai_E} {h : ai_H} {H : Heap} {c : Nat → Nat → Int} {P p : Nat → Bool} {X : List (Nat × Nat × Nat)} {AL : List (Nat × ai_X)} {Y : pt_Y} {c1 s1 : Nat} (hs : pt_sys Y) (hpB : ∀ t, p t = true → t < Y.1.1) (hE : ai_gE r E) (W : gq_W D A sa ws ad H) (K : gq_K tyc ws r ad E.1 h c P) (hck : gq_ik E h P p X AL Y = true) : ai_gE (gq_rn r c p X AL Y.1) Y.1 ∧ ai_Wd D tyc A sa ws (gq_rn r c p X AL Y.1) ad (Y.1, Y.2.1, c1, s1) H := by
  unfold gq_ik at hck
  simp only [Bool.and_eq_true] at hck
  obtain ⟨⟨h1, h2, -⟩, h3⟩ := hck
  have hE1 := gq_rn_E hE K h1
  have h336 : Y.2.1.1 = 336 := by
    have hwf := hs.2
    unfold pt_wf at hwf
    simp only [Bool.and_eq_true] at hwf
    exact Nat.eq_of_beq_eq_true hwf.2.1
  refine ⟨hE1, gq_to h336 (pt_no16 hs.2) hE1 W (fun k k1 k2 d2 hd => ?_)⟩
  have g := List.all_eq_true.mp h3 k (List.mem_range.mpr k2)
  rw [hd] at g
  cases e : ai_cell h k with
  | none =>
    rw [e] at g
    cases g
  | some d =>
    rw [e] at g
    simp only [Bool.and_eq_true] at g
    obtain ⟨-, g2, g3⟩ := g
    obtain ⟨a1, a2⟩ := K k k1 k2 g2 d e
    exact gq_cc_ok hE hE1.1 hE1.2.1 (fun t ht => ⟨hpB t ht, gq_rn_p ht⟩) (gq_rn_X h2) a1 a2 g3
theorem gq_ik_A {r : Nat → Int} {c : Nat → Nat → Int} {E : ai_E} {h : ai_H} {P p : Nat → Bool} {X : List (Nat × Nat × Nat)} {AL : List (Nat × ai_X)} {Y : pt_Y} (hck : gq_ik E h P p X AL Y = true) : ∀ q ∈ AL, q.1 < Y.1.1 ∧ gq_rn r c p X AL Y.1 q.1 = ai_vx r q.2 := fun q hq => by
  unfold gq_ik at hck
  simp only [Bool.and_eq_true] at hck
  obtain ⟨⟨h1, h2, h4⟩, h3⟩ := hck
  exact ⟨Nat.le_of_ble_eq_true (List.all_eq_true.mp h4 q hq), gq_rn_A h2 q hq⟩
theorem gq_ik_P {E : ai_E} {h : ai_H} {P p : Nat → Bool} {X : List (Nat × Nat × Nat)} {AL : List (Nat × ai_X)} {Y : pt_Y} (hck : gq_ik E h P p X AL Y = true) {k : Nat} (hk : k < 336) {d : ai_C} (hd : ai_cell Y.2.1 k = some d) : P k = true := by
  unfold gq_ik at hck
  simp only [Bool.and_eq_true] at hck
  obtain ⟨⟨h1, h2, h4⟩, h3⟩ := hck
  have g := List.all_eq_true.mp h3 k (List.mem_range.mpr hk)
  rw [hd] at g
  cases e : ai_cell h k with
  | none =>
    rw [e] at g
    cases g
  | some d' =>
    rw [e] at g
    simp only [Bool.and_eq_true] at g
    exact g.2.1
