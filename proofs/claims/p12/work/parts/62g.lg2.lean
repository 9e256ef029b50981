/-! LAW GLUE (2b): a call's end is a head, the invariant's numbers are as they were -/
noncomputable def lx_oJ (l : List (Nat × ai_X)) : List (Nat × ai_X) := (1, (1, 10)) :: (73, (73, 0)) :: l
section LZF
variable {D : va_G} {tyc : Nat → ClassId} {A : Nat → Prop} {s : State} {sa : ai_B} {ws : va_W} {v : Nat} {r : Nat → Int}
/-- all of the invariant's numbers are as they were -/
theorem lx_fullJ {f : ai_F} {C : List Nat} {P : List (Nat × Nat × Nat)} {r' : Nat → Int} {ad' : Nat → Nat} {H' : Heap} {locs' : List Loc} {ls' : Array Slot} {st' : List Value} (hE : ai_gE r (lx_El v 1)) (hJ : lx_J r) (hv : v ≤ 4) (hP : lx_pc P = true) (h : lx_fin C P [] 0 (lx_oJ lx_jo) f = true) (x1 : ai_ext 382 r r') (hR' : ai_Rel D tyc A s sa ws 7 r' ad' f.2.1 f.2.2.1 f.2.2.2 H' locs' ls' st') : f.1 = 23 ∧ f.2.2.2.2.2.1 ≤ 1 ∧ f.2.2.2.2.2.2 ≤ 6 ∧ ∃ r2, ai_Rel D tyc A s sa ws 7 r2 ad' lx_L [] (lx_G v 0) H' locs' ls' st' ∧ r2 1 = r' 1 + 10 ∧ r2 73 = r' 73 + 0 ∧ lx_J r2 ∧ lx_kp r r2 := by
  have y2 : ai_ext (lx_El v 1).1 r r' := by
    rw [lx_E5e v, lx_E5N]
    exact x1
  obtain ⟨e1, e2, e3, r2, hR2, u⟩ := lx_fin_ok hE y2 (cx_dd v (by omega)) (lx_fin_any hP (by omega) h) hR'
  refine ⟨e1, e2, e3, r2, hR2, u _ List.mem_cons_self, u _ (List.mem_cons_of_mem _ List.mem_cons_self), lx_J_k hJ x1 (by decide +kernel) lx_j2 u, fun t ht => ?_⟩
  have lt : lx_JN 382 = true := by decide +kernel
  have g := u (t, (t, 0)) (lx_j2 _ (List.mem_map.mpr ⟨t, (lx_Kj ht).1, rfl⟩))
  have g : r2 t = r' t + 0 := g
  rw [g, x1 t (Nat.le_of_ble_eq_true (List.all_eq_true.mp lt t (lx_Kj ht).1)), Int.add_zero]
end LZF
