/-! GLUE (2): cells put aside, numbers and their bounds changed, cells taken back -/
section GLB
variable {D : va_G} {tyc : Nat → ClassId} {A : Nat → Prop} {s : State} {sa : ai_B} {ws : va_W} {N N2 n nL : Nat} {r r2 : Nat → Int} {ad : Nat → Nat} {E E2 : ai_E}
noncomputable def gl_he : ai_H := (336, ce_9)
theorem gl_heok : (List.range 336).all (fun k => (ai_cell gl_he k).isNone) = true := by decide +kernel
theorem gl_heN {k : Nat} (hk : k < 336) : ai_cell gl_he k = none := Option.isNone_iff_eq_none.mp (List.all_eq_true.mp gl_heok k (List.mem_range.mpr hk))
noncomputable def gl_vok (r r2 : Nat → Int) (N2 : Nat) (b : ai_V) : Prop := ∀ x, b = .inl x ∨ b = .inr (.inl x) → x.1 < N2 ∧ ai_vx r2 x = ai_vx r x
theorem gl_gV {b : ai_V} {v : Value} (h : gl_vok r r2 N2 b) (g : ai_gV r ad N n b v) : ai_gV r2 ad N2 n b v := by
  rcases b with x | x | _ | _ | q
  · obtain ⟨h1, i, h2, h3⟩ := g
    obtain ⟨a, e⟩ := h x (Or.inl rfl)
    exact ⟨a, i, h2, h3.trans e.symm⟩
  · obtain ⟨h1, i, h2, h3⟩ := g
    obtain ⟨a, e⟩ := h x (Or.inr rfl)
    exact ⟨a, i, h2, h3.trans e.symm⟩
  · exact g
  · exact g
  · exact g
theorem gl_gF : ∀ {S : List ai_V} {st : List Value}, (∀ b ∈ S, gl_vok r r2 N2 b) → ai_gF r ad N n S st → ai_gF r2 ad N2 n S st
  | [], [], _, _ => trivial
  | _ :: _, _ :: _, h, g => ⟨gl_gV (h _ List.mem_cons_self) g.1, gl_gF (fun b hb => h b (List.mem_cons_of_mem _ hb)) g.2⟩
  | [], _ :: _, _, g => g.elim
  | _ :: _, [], _, g => g.elim
end GLB
