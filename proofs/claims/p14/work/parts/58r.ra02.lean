/-! fillPull -/
theorem ra_f_0 : pt_row raY 39 [48, 100] true (0, 0, 0) [ra_17, .inl (326, 0), ra_u] [] [] [] [] [37, 38, 39] [((48, 0, 0), (ra_fL 0, []), [(301, ra_c 1), (301 + 1, ra_c 0), (301 + 2, ra_c 0), (301 + 3, ra_c 0), (301 + 4, ra_c 1), (301 + 5, ra_c 0), (301 + 6, ra_c 0), (301 + 7, ra_c 0), (301 + 8, ra_c 1)], [(0, ra_s 122, ra_c 1)]),
  ((48, 0, 0), (ra_fL 0, []), [(301, ra_c 0), (301 + 1, ra_c 0), (301 + 2, ra_c 0), (301 + 3, ra_c 0), (301 + 4, ra_c 1), (301 + 5, ra_c 0), (301 + 6, ra_c 0), (301 + 7, ra_c 0), (301 + 8, ra_c 1)], [(0, ra_c 2, ra_s 122), (0, ra_s 122, ra_c 2)]),
  ((48, 0, 0), (ra_fL 0, []), [(301, ra_c 0), (301 + 1, ra_c 0), (301 + 2, ra_c 0), (301 + 3, ra_c 0), (301 + 4, ra_c 0), (301 + 5, ra_c 0), (301 + 6, ra_c 0), (301 + 7, ra_c 0), (301 + 8, ra_c 1)], [(0, ra_c 3, ra_s 122), (0, ra_s 122, ra_c 3)]),
  ((48, 0, 0), (ra_fL 0, []), [(301, ra_c 0), (301 + 1, ra_c 0), (301 + 2, ra_c 0), (301 + 3, ra_c 0), (301 + 4, ra_c 0), (301 + 5, ra_c 0), (301 + 6, ra_c 0), (301 + 7, ra_c 0), (301 + 8, ra_c 0)], [(0, ra_c 4, ra_s 122)])] = true := by decide +kernel
noncomputable def ra_w9 (x y z : Nat) : List (Nat × pt_X) := [(301, ra_c x), (301 + 1, ra_c 0), (301 + 2, ra_c 0), (301 + 3, ra_c 0), (301 + 4, ra_c y), (301 + 5, ra_c 0), (301 + 6, ra_c 0), (301 + 7, ra_c 0), (301 + 8, ra_c z)]
theorem ra_w9_ok {r : Nat → Int} {x y z q : Nat} (hx : (x : Int) = if r 122 ≤ 1 then 1 else 0) (hy : (y : Int) = if r 122 ≤ 2 then 1 else 0) (hz : (z : Int) = if r 122 ≤ 3 then 1 else 0) (hq : q < 9) : pt_up r (ra_w9 x y z) (301 + q) = ra_b0 r q := by
  match q, hq with
  | 0, _ => exact hx
  | 1, _ => rfl
  | 2, _ => rfl
  | 3, _ => rfl
  | 4, _ => exact hy
  | 5, _ => rfl
  | 6, _ => rfl
  | 7, _ => rfl
  | 8, _ => exact hz
  | n + 9, h => exact absurd h (by omega)
theorem ra_w9_ne {r : Nat → Int} {x y z t : Nat} (h : ¬(301 ≤ t ∧ t < 310)) : pt_up r (ra_w9 x y z) t = r t := ra_up_ne (fun q hq => by
  have : q.1 = 301 ∨ q.1 = 301 + 1 ∨ q.1 = 301 + 2 ∨ q.1 = 301 + 3 ∨ q.1 = 301 + 4 ∨ q.1 = 301 + 5 ∨ q.1 = 301 + 6 ∨ q.1 = 301 + 7 ∨ q.1 = 301 + 8 := by
    unfold ra_w9 at hq
    simp only [List.mem_cons, List.not_mem_nil, or_false] at hq
    rcases hq with rfl | rfl | rfl | rfl | rfl | rfl | rfl | rfl | rfl <;> simp
  omega)
noncomputable def ra_fQ (r : Nat → Int) (M : Nat → Nat → Int) (r2 : Nat → Int) (M2 : Nat → Nat → Int) (v : Option Int) : Prop := v = none ∧ M2 = M ∧ (∀ q, q < 9 → r2 (301 + q) = ra_pl r (r 326) 5 q) ∧ ra_i9 r r2
theorem ra_fill {n : Nat} (hn : 4 ≤ n) : pt_Met (n + 1) 39 raY [ra_17, .inl (326, 0)] (fun r _ => ra_ok r) ra_fQ 0 := by
  refine pt_intro (L0 := [ra_17, .inl (326, 0), ra_u]) ra_fpl hn rasys (by
    have e : (ct_mt 39).2.2.1 = 3 := by decide +kernel
    rw [e]
    rfl) (fun P r M h hok => ?_)
  have loop := ra_floop h hok (fun r' a b => ⟨rfl, rfl, a, b⟩)
  have go : ∀ x y z : Nat, ((x : Int) = if r 122 ≤ 1 then 1 else 0) → ((y : Int) = if r 122 ≤ 2 then 1 else 0) → ((z : Int) = if r 122 ≤ 3 then 1 else 0) → P (48, 0, 0) (ra_fL 0) [] (pt_up r (ra_w9 x y z)) M := fun x y z hx hy hz =>
    loop 5 0 _ rfl (by omega) (fun q hq => ra_w9_ok hx hy hz hq) (fun t _ hn => ra_w9_ne hn) (ra_w9_ne (by omega))
  refine h.1 _ _ _ _ _ _ _ _ _ _ _ _ ra_f_0 ⟨pt_m0, pt_m0, pt_m0⟩ ⟨fun g => ?_, fun g => ?_, fun g => ?_, fun g => ?_, trivial⟩
  · have g1 : r 122 ≤ 1 := g.1
    exact go 1 1 1 (by rw [if_pos g1]; rfl) (by rw [if_pos (by omega)]; rfl) (by rw [if_pos (by omega)]; rfl)
  · have g1 : 2 ≤ r 122 := g.1
    have g2 : r 122 ≤ 2 := g.2.1
    exact go 0 1 1 (by rw [if_neg (by omega)]; rfl) (by rw [if_pos g2]; rfl) (by rw [if_pos (by omega)]; rfl)
  · have g1 : 3 ≤ r 122 := g.1
    have g2 : r 122 ≤ 3 := g.2.1
    exact go 0 0 1 (by rw [if_neg (by omega)]; rfl) (by rw [if_neg (by omega)]; rfl) (by rw [if_pos g2]; rfl)
  · have g1 : 4 ≤ r 122 := g.1
    exact go 0 0 0 (by rw [if_neg (by omega)]; rfl) (by rw [if_neg (by omega)]; rfl) (by rw [if_neg (by omega)]; rfl)
