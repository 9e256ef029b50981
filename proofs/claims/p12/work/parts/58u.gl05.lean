/-! GLUE (7): the world itself, out of a state and back -/
section GLG
variable {D : va_G} {tyc : Nat → ClassId} {A : Nat → Prop} {sa : ai_B} {ws ws0 ws' : va_W} {r r2 : Nat → Int} {ad ad' : Nat → Nat} {E E2 : ai_E} {h h2 : ai_H} {c1 s1 N N2 : Nat} {H : Heap} {c : Nat → Nat → Int} {P P2 p : Nat → Bool}
noncomputable def gq_W (D : va_G) (A : Nat → Prop) (sa : ai_B) (ws : va_W) (ad : Nat → Nat) (H : Heap) : Prop := va_P D vwCl ws H ∧ va_D A ws ∧ ws.length + 16 = 336 ∧ (∀ k q, ws[k]? = some q → q.1 = ad (k + 16)) ∧ ∀ i, i < 10 → ad (i + 1) = sa.1 i
noncomputable def gq_at (tyc : Nat → ClassId) (ws : va_W) (r : Nat → Int) (ad : Nat → Nat) (N k : Nat) (d : ai_C) : Prop := ∃ e, ws[k - 16]? = some (ad k, e) ∧ ai_gC tyc r ad N 336 d e
noncomputable def gq_ar (tyc : Nat → ClassId) (ws : va_W) (r : Nat → Int) (ad : Nat → Nat) (N k : Nat) (c : Nat → Nat → Int) (d : ai_C) : Prop := ∀ (ty m : Nat) (lo hi : Int) (l : List (ai_X × ai_X)), d = .inr (.inl (ty, m, lo, hi, l)) → ai_lw N l ∧ (∀ j, j < m → ai_ov r lo hi l j (c k j)) ∧ ∃ x, (ws[k - 16]? = some (ad k, x) ∧ gl_is tyc ty m x (c k)) ∧ ∀ (r2 : Nat → Int) (N2 : Nat) (lo2 hi2 : Int) (l2 : List (ai_X × ai_X)), (∀ z ∈ l2, z.1.1 < N2 ∧ z.2.1 < N2) → (∀ j, j < m → ai_ov r2 lo2 hi2 l2 j (c k j)) → ai_gC tyc r2 ad N2 336 (.inr (.inl (ty, m, lo2, hi2, l2))) x
noncomputable def gq_K (tyc : Nat → ClassId) (ws : va_W) (r : Nat → Int) (ad : Nat → Nat) (N : Nat) (h : ai_H) (c : Nat → Nat → Int) (P : Nat → Bool) : Prop := ∀ k, 16 ≤ k → k < 336 → P k = true → ∀ d, ai_cell h k = some d → gq_at tyc ws r ad N k d ∧ gq_ar tyc ws r ad N k c d
theorem gq_of (h1 : h.1 = 336) (g : ai_Wd D tyc A sa ws0 r ad (E, h, c1, s1) H) : ∃ ws c, gq_W D A sa ws ad H ∧ ai_gE r E ∧ gq_K tyc ws r ad E.1 h c (fun _ => true) ∧ ∀ k, k + 16 < 336 → ai_cell h (k + 16) = none → ws[k]? = ws0[k]? := by
  obtain ⟨ws, hP, hD, hE, hH, hO, hsa⟩ := g
  obtain ⟨⟨a1, a2, a3⟩, b, cc, d⟩ := hH
  have a3 : ws.length + 16 = h.1 := a3
  have at' : ∀ k, 16 ≤ k → k < 336 → ∀ d, ai_cell h k = some d → gq_at tyc ws r ad E.1 k d := fun k k1 k2 d' hd => by
    obtain ⟨q, rfl⟩ : ∃ q, k = q + 16 := ⟨k - 16, by omega⟩
    obtain ⟨e, e1, e2⟩ := cc q (by show q + 16 < h.1; omega) d' hd
    refine ⟨e, by rw [Nat.add_sub_cancel]; exact e1, ?_⟩
    have e2 : ai_gC tyc r ad E.1 h.1 d' e := e2
    rw [h1] at e2
    exact e2
  have H' : ∀ k : Nat, ∃ g : Nat → Int, 16 ≤ k → k < 336 → ∀ d, ai_cell h k = some d → gq_ar tyc ws r ad E.1 k (fun _ => g) d := fun k => by
    by_cases hk : 16 ≤ k ∧ k < 336
    · cases ed : ai_cell h k with
      | none => exact ⟨fun _ => 0, fun _ _ d hd => by cases hd⟩
      | some d =>
        obtain ⟨e, e1, e2⟩ := at' k hk.1 hk.2 d ed
        rcases d with ⟨ci, fs⟩ | ⟨ty, m, lo, hi, l⟩ | q
        · refine ⟨fun _ => 0, fun _ _ d hd => ?_⟩
          cases hd
          exact fun _ _ _ _ _ q => by cases q
        · obtain ⟨g, ⟨g1, gi⟩, g2⟩ := gl_tel2 e2
          have lw : ai_lw E.1 l := by
            rcases e2 with ⟨_, f, _, w⟩ | ⟨_, f, _, w⟩
            · exact w.1
            · exact w.1
          refine ⟨g, fun _ _ d hd => ?_⟩
          cases hd
          intro ty' m' lo' hi' l' q
          cases q
          exact ⟨lw, g1, e, ⟨e1, gi⟩, g2⟩
        · refine ⟨fun _ => 0, fun _ _ d hd => ?_⟩
          cases hd
          exact fun _ _ _ _ _ q => by cases q
    · exact ⟨fun _ => 0, fun k1 k2 => absurd ⟨k1, k2⟩ hk⟩
  refine ⟨ws, fun k => Classical.choose (H' k), ⟨hP, hD, by omega, b, hsa⟩, hE, fun k k1 k2 _ d' hd => ⟨at' k k1 k2 d' hd, fun ty m lo hi l q => ?_⟩, fun k hk hn => d k (by show k + 16 < h.1; omega) hn⟩
  exact Classical.choose_spec (H' k) k1 k2 d' hd ty m lo hi l q
theorem gq_to (h1 : h.1 = 336) (h16 : ∀ q, q < 16 → ai_cell h q = none) (hE : ai_gE r E) (w : gq_W D A sa ws ad H) (hc : ∀ k, 16 ≤ k → k < 336 → ∀ d, ai_cell h k = some d → gq_at tyc ws r ad E.1 k d) : ai_Wd D tyc A sa ws r ad (E, h, c1, s1) H := by
  obtain ⟨hP, hD, hl, b, hsa⟩ := w
  refine ⟨ws, hP, hD, hE, ⟨⟨by show 16 ≤ h.1; omega, by show h.1 ≤ 512; omega, by show ws.length + 16 = h.1; omega⟩, b, fun k hk d hd => ?_, fun _ _ _ => rfl⟩, fun q hq c hcq => ?_, hsa⟩
  · have hk : k + 16 < h.1 := hk
    obtain ⟨e, e1, e2⟩ := hc (k + 16) (by omega) (by omega) d hd
    rw [Nat.add_sub_cancel] at e1
    refine ⟨e, e1, ?_⟩
    show ai_gC tyc r ad E.1 h.1 d e
    rw [h1]
    exact e2
  · have hcq : ai_cell h q = some c := hcq
    rw [h16 q hq] at hcq
    cases hcq
theorem gq_he (hE : ai_gE r E) (w : gq_W D A sa ws ad H) : ai_Wd D tyc A sa ws r ad (E, gl_he, c1, s1) H := gq_to rfl (fun q hq => gl_heN (by omega)) hE w (fun k _ k2 d hd => by
  rw [gl_heN k2] at hd
  cases hd)
theorem gq_K.mv (g : gq_K tyc ws r ad N h c P) (w : ∀ k, 16 ≤ k → k < 336 → P2 k = true → P k = true ∧ ws'[k - 16]? = ws[k - 16]?) : gq_K tyc ws' r ad N h c P2 := fun k k1 k2 hp d hd => by
  obtain ⟨p1, e⟩ := w k k1 k2 hp
  obtain ⟨⟨x, x1, x2⟩, g2⟩ := g k k1 k2 p1 d hd
  refine ⟨⟨x, e.trans x1, x2⟩, fun ty m lo hi l q => ?_⟩
  obtain ⟨lw, a, y, y1, y2⟩ := g2 ty m lo hi l q
  exact ⟨lw, a, y, ⟨e.trans y1.1, y1.2⟩, y2⟩
theorem gq_K.adx (g : gq_K tyc ws r ad N h c P) (w : ai_ext 336 ad ad') : gq_K tyc ws r ad' N h c P := fun k k1 k2 hp d hd => by
  obtain ⟨⟨x, x1, x2⟩, g2⟩ := g k k1 k2 hp d hd
  refine ⟨⟨x, by rw [w k k2]; exact x1, x2.mono ai_ext.rfl' w (Nat.le_refl _) (Nat.le_refl _)⟩, fun ty m lo hi l q => ?_⟩
  obtain ⟨lw, a, y, y1, y2⟩ := g2 ty m lo hi l q
  exact ⟨lw, a, y, ⟨by rw [w k k2]; exact y1.1, y1.2⟩, fun r2 N2 lo2 hi2 l2 b1 b2 => (y2 r2 N2 lo2 hi2 l2 b1 b2).mono ai_ext.rfl' w (Nat.le_refl _) (Nat.le_refl _)⟩
theorem gq_K.re (g : gq_K tyc ws r ad N h c P) (hck : (List.range 336).all (fun k => match ai_cell h k with
    | none => true
    | some d => gl_cC p d) = true) (hp : ∀ t, p t = true → t < N2 ∧ r2 t = r t) : gq_K tyc ws r2 ad N2 h c P := fun k k1 k2 hP d hd => by
  obtain ⟨⟨x, x1, x2⟩, g2⟩ := g k k1 k2 hP d hd
  have ck := List.all_eq_true.mp hck k (List.mem_range.mpr k2)
  rw [hd] at ck
  have ck : gl_cC p d = true := ck
  refine ⟨⟨x, x1, gl_cell ck hp x2⟩, fun ty m lo hi l q => ?_⟩
  obtain ⟨lw, a, y, y1, y2⟩ := g2 ty m lo hi l q
  subst q
  have k0 : ∀ q ∈ l, p q.1.1 = true ∧ p q.2.1 = true := fun q hq => by
    have w := List.all_eq_true.mp (show l.all (fun q => p q.1.1 && p q.2.1) = true from ck) q hq
    rw [Bool.and_eq_true] at w
    exact w
  refine ⟨fun q hq => ⟨(hp _ (k0 q hq).1).1, (hp _ (k0 q hq).2).1⟩, fun j hj => gl_ovr (fun q hq => ⟨?_, ?_⟩) (a j hj), y, y1, y2⟩
  · show r2 q.1.1 + q.1.2 = r q.1.1 + q.1.2
    rw [(hp _ (k0 q hq).1).2]
  · show r2 q.2.1 + q.2.2 = r q.2.1 + q.2.2
    rw [(hp _ (k0 q hq).2).2]
theorem gq_W.adx (w : gq_W D A sa ws ad H) (x : ai_ext 336 ad ad') : gq_W D A sa ws ad' H := by
  obtain ⟨hP, hD, hl, b, hsa⟩ := w
  refine ⟨hP, hD, hl, fun k q hq => ?_, fun i hi => (x (i + 1) (by omega)).trans (hsa i hi)⟩
  have hk : k < ws.length := by
    apply Nat.lt_of_not_le
    intro q2
    rw [List.getElem?_eq_none q2] at hq
    cases hq
  rw [b k q hq, x (k + 16) (by omega)]
end GLG
