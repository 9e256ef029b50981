/-! GLUE (2): cells put aside, numbers and their bounds changed, cells taken back -/
section GLB
variable {D : va_G} {tyc : Nat → ClassId} {A : Nat → Prop} {s : State} {sa : ai_B} {ws : va_W} {N N2 n nL : Nat} {r r2 : Nat → Int} {ad : Nat → Nat} {E E2 : ai_E}
noncomputable def gl_he : ai_H := (336, ce_9)
theorem gl_heok : (List.range 336).all (fun k => (ai_cell gl_he k).isNone) = true := by decide +kernel
theorem gl_heN {k : Nat} (hk : k < 336) : ai_cell gl_he k = none := Option.isNone_iff_eq_none.mp (List.all_eq_true.mp gl_heok k (List.mem_range.mpr hk))
noncomputable def gl_vok (r r2 : Nat → Int) (N2 : Nat) (b : ai_V) : Prop := ∀ x, b = .inl x ∨ b = .inr (.inl x) → x.1 < N2 ∧ ai_vx r2 x = ai_vx r x
theorem gl_gV {b : ai_V} {v : Value} (h : gl_vok r r2 N2 b) (g : ai_gV r ad N n b v) : ai_gV r2 ad N2 n b v := by
  rcases b with x | x | _ | _ | q
  · obtain ⟨h1, i, h2, h3⟩ := g
    obtain ⟨a, e⟩ := h x (Or.inl rfl)
    exact ⟨a, i, h2, h3.trans e.symm⟩
  · obtain ⟨h1, i, h2, h3⟩ := g
    obtain ⟨a, e⟩ := h x (Or.inr rfl)
    exact ⟨a, i, h2, h3.trans e.symm⟩
  · exact g
  · exact g
  · exact g
theorem gl_gF : ∀ {S : List ai_V} {st : List Value}, (∀ b ∈ S, gl_vok r r2 N2 b) → ai_gF r ad N n S st → ai_gF r2 ad N2 n S st
  | [], [], _, _ => trivial
  | _ :: _, _ :: _, h, g => ⟨gl_gV (h _ List.mem_cons_self) g.1, gl_gF (fun b hb => h b (List.mem_cons_of_mem _ hb)) g.2⟩
  | [], _ :: _, _, g => g.elim
  | _ :: _, [], _, g => g.elim
noncomputable def gl_K (tyc : Nat → ClassId) (ws : va_W) (r : Nat → Int) (ad : Nat → Nat) (N : Nat) (h : ai_H) (p : Nat → Bool) : Prop := ∀ k, 16 ≤ k → k < 336 → p k = true → ∀ d, ai_cell h k = some d → ∃ a x, ws[k - 16]? = some (a, x) ∧ ai_gC tyc r ad N 336 d x
noncomputable def gl_same (h : ai_H) (ws ws' : va_W) : Prop := ∀ k, k + 16 < 336 → ai_cell h (k + 16) = none → ws'[k]? = ws[k]?
theorem gl_K.wss {ws' : va_W} {h g : ai_H} {p : Nat → Bool} (q : gl_K tyc ws r ad N h p) (w : gl_same g ws ws') (hg : ∀ k, k < 336 → p k = true → ai_cell g k = none) : gl_K tyc ws' r ad N h p := fun k h1 h2 h3 d hd => by
  obtain ⟨a, x, e, y⟩ := q k h1 h2 h3 d hd
  refine ⟨a, x, ?_, y⟩
  have := w (k - 16) (by omega) (by rw [show k - 16 + 16 = k by omega]; exact hg k h2 h3)
  rw [this]
  exact e
theorem gl_drop {L S : List ai_V} {h h' : ai_H} {c1 s1 : Nat} {H : Heap} {locs : List Loc} {ls : Array Slot} {st : List Value} (hR : ai_Rel D tyc A s sa ws nL r ad L S (E, h, c1, s1) H locs ls st) (h1 : h.1 = 336) (hn : h'.1 = 336) (hc : ∀ k, k < 336 → ∀ d, ai_cell h' k = some d → ai_cell h k = some d) : ∃ ws', gl_same h ws ws' ∧ gl_K tyc ws' r ad E.1 h (fun _ => true) ∧ ai_Rel D tyc A s sa ws' nL r ad L S (E, h', c1, s1) H locs ls st := by
  obtain ⟨ws', a, b, c⟩ := gh_drop (h := h) (h' := h') hR (by rw [h1, hn]) (fun k hk d hd => hc k (by omega) d hd)
  refine ⟨ws', fun k hk hn => a k (by rw [h1]; exact hk) hn, fun k k1 k2 _ d hd => ?_, c⟩
  obtain ⟨x, e, g⟩ := b k k1 (by rw [h1]; exact k2) d hd
  rw [h1] at g
  exact ⟨ad k, x, e, g⟩
theorem gl_back {L S : List ai_V} {h h' : ai_H} {c1 s1 : Nat} {H : Heap} {locs : List Loc} {ls : Array Slot} {st : List Value} (hR : ai_Rel D tyc A s sa ws nL r ad L S (E, h', c1, s1) H locs ls st) (h1 : h.1 = 336) (hn : h'.1 = 336) (hc : ∀ k, k < 336 → ∀ d, ai_cell h k = some d → ai_cell h' k = some d ∨ (16 ≤ k ∧ ai_cell h' k = none ∧ ∃ a x, ws[k - 16]? = some (a, x) ∧ ai_gC tyc r ad E.1 336 d x)) (hz : ∀ k, k < 336 → ai_cell h k = none → ai_cell h' k = none) : ai_Rel D tyc A s sa ws nL r ad L S (E, h, c1, s1) H locs ls st :=
  gh_back (h := h) (h' := h') hR (by rw [h1, hn]) (fun k hk d hd => by
    rw [h1] at hk ⊢
    exact hc k hk d hd) (fun k hk hd => hz k (by rw [← h1]; exact hk) hd)
/-- with no cells the numbers may be any, within any bounds that they keep -/
theorem gl_swap {L S : List ai_V} {c1 s1 : Nat} {H : Heap} {locs : List Loc} {ls : Array Slot} {st : List Value} (hR : ai_Rel D tyc A s sa ws nL r ad L S (E, gl_he, c1, s1) H locs ls st) (hE' : ai_gE r2 E2) (hL : ∀ i, gl_vok r r2 E2.1 (ai_lget L i)) (hS : ∀ b ∈ S, gl_vok r r2 E2.1 b) : ai_Rel D tyc A s sa ws nL r2 ad L S (E2, gl_he, c1, s1) H locs ls st := by
  obtain ⟨ws', hP, hD, hS', hE, hH, hO, hsa, hLL, hSt⟩ := hR
  refine ⟨ws', hP, hD, hS', hE', ⟨hH.1, hH.2.1, fun k hk c hc => ?_, hH.2.2.2⟩, fun q hq c hc => ?_, hsa, ?_, gl_gF hS hSt⟩
  · have hc : ai_cell gl_he (k + 16) = some c := hc
    rw [gl_heN hk] at hc
    cases hc
  · have hc : ai_cell gl_he q = some c := hc
    rw [gl_heN (by omega)] at hc
    cases hc
  · obtain ⟨g1, g2, g3, g4⟩ := hLL
    refine ⟨g1, g2, g3, fun i hi => ?_⟩
    obtain ⟨v, v1, v2⟩ := g4 i hi
    exact ⟨v, v1, gl_gV (hL i) v2⟩
end GLB
