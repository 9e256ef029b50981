/-! GLUE (4): objects and arrays of references under other numbers -/
section GLO
variable {tyc : Nat → ClassId} {N N2 n : Nat} {r r2 : Nat → Int} {ad : Nat → Nat}
theorem gl_obj {ci : Nat} {fs : List ai_V} {x : va_E} (h : ∀ b ∈ fs, gl_vok r r2 N2 b) (g : ai_gC tyc r ad N n (.inl (ci, fs)) x) : ai_gC tyc r2 ad N2 n (.inl (ci, fs)) x := by
  obtain ⟨vs, h1, h2⟩ := g
  exact ⟨vs, h1, gl_gF h h2⟩
theorem gl_ref {q : Nat × List (Option Nat)} {x : va_E} (g : ai_gC tyc r ad N n (.inr (.inr q)) x) : ai_gC tyc r2 ad N2 n (.inr (.inr q)) x := g
/-- a check that a cell's numbers are of a sort -/
noncomputable def gl_cV (p : Nat → Bool) (b : ai_V) : Bool := match b with
  | .inl x => p x.1
  | .inr (.inl x) => p x.1
  | .inr (.inr _) => true
theorem gl_cV_ok {p : Nat → Bool} {b : ai_V} (h : gl_cV p b = true) (e : ∀ t, p t = true → t < N2 ∧ r2 t = r t) : gl_vok r r2 N2 b := fun x hx => by
  rcases hx with rfl | rfl
  · obtain ⟨a, w⟩ := e x.1 h
    exact ⟨a, by show r2 x.1 + x.2 = r x.1 + x.2; rw [w]⟩
  · obtain ⟨a, w⟩ := e x.1 h
    exact ⟨a, by show r2 x.1 + x.2 = r x.1 + x.2; rw [w]⟩
noncomputable def gl_cC (p : Nat → Bool) (d : ai_C) : Bool := match d with
  | .inl (_, fs) => fs.all (gl_cV p)
  | .inr (.inl (_, _, _, _, l)) => l.all (fun q => p q.1.1 && p q.2.1)
  | .inr (.inr _) => true
theorem gl_ovr {lo hi v : Int} {j : Nat} : ∀ {l : List (ai_X × ai_X)}, (∀ q ∈ l, ai_vx r2 q.1 = ai_vx r q.1 ∧ ai_vx r2 q.2 = ai_vx r q.2) → ai_ov r lo hi l j v → ai_ov r2 lo hi l j v
  | [], _, g => g
  | (i, x) :: l, hl, g => by
    have h1 := hl _ List.mem_cons_self
    unfold ai_ov at g ⊢
    rw [h1.1, h1.2]
    exact ⟨g.1, fun q => gl_ovr (fun z hz => hl z (List.mem_cons_of_mem _ hz)) (g.2 q)⟩
theorem gl_cell {p : Nat → Bool} {d : ai_C} {x : va_E} (h : gl_cC p d = true) (e : ∀ t, p t = true → t < N2 ∧ r2 t = r t) (g : ai_gC tyc r ad N n d x) : ai_gC tyc r2 ad N2 n d x := by
  rcases d with ⟨ci, fs⟩ | ⟨ty, m, lo, hi, l⟩ | q
  · exact gl_obj (fun b hb => gl_cV_ok (List.all_eq_true.mp h b hb) e) g
  · obtain ⟨c, c1, c2⟩ := gl_tell g
    have k : ∀ q ∈ l, p q.1.1 = true ∧ p q.2.1 = true := fun q hq => by
      have w := List.all_eq_true.mp (show l.all (fun q => p q.1.1 && p q.2.1) = true from h) q hq
      rw [Bool.and_eq_true] at w
      exact w
    refine c2 r2 N2 lo hi l (fun q hq => ⟨(e _ (k q hq).1).1, (e _ (k q hq).2).1⟩) (fun j hj => gl_ovr (fun q hq => ⟨?_, ?_⟩) (c1 j hj))
    · show r2 q.1.1 + q.1.2 = r q.1.1 + q.1.2
      rw [(e _ (k q hq).1).2]
    · show r2 q.2.1 + q.2.2 = r q.2.1 + q.2.2
      rw [(e _ (k q hq).2).2]
  · exact g
end GLO
