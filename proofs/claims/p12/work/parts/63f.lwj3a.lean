/-! THE LAW: day; the sheet told, its place a number: four places of the row are told once more, by that number -/
noncomputable def lx_tk (a : Nat) (ks : List Nat) : List (ai_X × ai_X) := ks.map (fun k => ((0, .ofNat k), (225 + (a + k), 0)))
theorem lx_tk_of {r : Nat → Int} {lo hi v : Int} {a j : Nat} (h0 : r 0 = 0) : ∀ {ks : List Nat}, j ∈ ks → ai_ov r lo hi (lx_tk a ks) j v → v = r (225 + (a + j))
  | [], h, _ => by cases h
  | k :: ks, h, g => by
    have g : (ai_vx r (0, Int.ofNat k) = (j : Int) → v = ai_vx r (225 + (a + k), 0)) ∧ (ai_vx r (0, Int.ofNat k) ≠ (j : Int) → ai_ov r lo hi (lx_tk a ks) j v) := g
    have z : ai_vx r (0, Int.ofNat k) = (k : Int) := by
      show r 0 + (k : Int) = k
      rw [h0, Int.zero_add]
    rw [z] at g
    by_cases e : k = j
    · have := g.1 (by rw [e])
      rw [this, e]
      exact Int.add_zero _
    · refine lx_tk_of h0 ?_ (g.2 (fun q => e (by omega)))
      rcases List.mem_cons.mp h with h | h
      · exact absurd h.symm e
      · exact h
theorem lx_tk_to {r : Nat → Int} {lo hi v : Int} {a j : Nat} (h0 : r 0 = 0) (hb : lo ≤ v ∧ v ≤ hi) (hv : v = r (225 + (a + j))) : ∀ {ks : List Nat}, ai_ov r lo hi (lx_tk a ks) j v
  | [] => hb
  | k :: ks => by
    have z : ai_vx r (0, Int.ofNat k) = (k : Int) := by
      show r 0 + (k : Int) = k
      rw [h0, Int.zero_add]
    refine ⟨fun q => ?_, fun _ => lx_tk_to h0 hb hv⟩
    have q : ai_vx r (0, Int.ofNat k) = (j : Int) := q
    rw [z] at q
    have e : k = j := by omega
    rw [hv, e]
    exact (Int.add_zero _).symm
noncomputable def lx_x4 (off : Nat) : List (ai_X × ai_X) := [((382, .ofNat off), (383, 0)), ((382, .ofNat (off + 1)), (384, 0)), ((382, .ofNat (off + 2)), (385, 0)), ((382, .ofNat (off + 3)), (386, 0))]
noncomputable def lx_cl (a n : Nat) (x : List (ai_X × ai_X)) : ai_C := .inr (.inl (0, n, ai_lo32, ai_hi32, x ++ lx_tk a (List.range n)))
section LXU
variable {s : State} {D : va_G} {tyc : Nat → ClassId} {A : Nat → Prop} {sa : ai_B} {ws : va_W} {nL : Nat}
variable {r : Nat → Int} {ad : Nat → Nat} {L S : List ai_V} {G : ai_G} {H : Heap} {locs : List Loc} {ls : Array Slot} {st : List Value} {q a n off : Nat}
theorem lx_x4_to {lo hi v : Int} {j : Nat} {l : List (ai_X × ai_X)} (h : ∀ i, i < 4 → r 382 + ((off + i : Nat) : Int) = (j : Int) → v = r (383 + i)) (g : ai_ov r lo hi l j v) : ai_ov r lo hi (lx_x4 off ++ l) j v := by
  have one : ∀ i, i < 4 → ai_vx r (382, Int.ofNat (off + i)) = (j : Int) → v = ai_vx r (383 + i, 0) := fun i hi e => (h i hi e).trans (Int.add_zero _).symm
  exact ⟨one 0 (by omega), fun _ => ⟨one 1 (by omega), fun _ => ⟨one 2 (by omega), fun _ => ⟨one 3 (by omega), fun _ => g⟩⟩⟩⟩
theorem lx_x4_of {lo hi v : Int} {j : Nat} {l : List (ai_X × ai_X)} (h : ∀ i, i < 4 → r 382 + ((off + i : Nat) : Int) = (j : Int) → v = r (383 + i) → ai_ov r lo hi l j v) (g : ai_ov r lo hi (lx_x4 off ++ l) j v) : ai_ov r lo hi l j v := by
  have g : (ai_vx r (382, Int.ofNat (off + 0)) = (j : Int) → v = ai_vx r (383 + 0, 0)) ∧ (ai_vx r (382, Int.ofNat (off + 0)) ≠ (j : Int) → (ai_vx r (382, Int.ofNat (off + 1)) = (j : Int) → v = ai_vx r (383 + 1, 0)) ∧ (ai_vx r (382, Int.ofNat (off + 1)) ≠ (j : Int) → (ai_vx r (382, Int.ofNat (off + 2)) = (j : Int) → v = ai_vx r (383 + 2, 0)) ∧ (ai_vx r (382, Int.ofNat (off + 2)) ≠ (j : Int) → (ai_vx r (382, Int.ofNat (off + 3)) = (j : Int) → v = ai_vx r (383 + 3, 0)) ∧ (ai_vx r (382, Int.ofNat (off + 3)) ≠ (j : Int) → ai_ov r lo hi l j v)))) := g
  by_cases e0 : ai_vx r (382, Int.ofNat (off + 0)) = (j : Int)
  · exact h 0 (by omega) e0 ((g.1 e0).trans (Int.add_zero _))
  by_cases e1 : ai_vx r (382, Int.ofNat (off + 1)) = (j : Int)
  · exact h 1 (by omega) e1 (((g.2 e0).1 e1).trans (Int.add_zero _))
  by_cases e2 : ai_vx r (382, Int.ofNat (off + 2)) = (j : Int)
  · exact h 2 (by omega) e2 ((((g.2 e0).2 e1).1 e2).trans (Int.add_zero _))
  by_cases e3 : ai_vx r (382, Int.ofNat (off + 3)) = (j : Int)
  · exact h 3 (by omega) e3 (((((g.2 e0).2 e1).2 e2).1 e3).trans (Int.add_zero _))
  · exact (((g.2 e0).2 e1).2 e2).2 e3
noncomputable def lx_ptc (q : Nat) (c : ai_C) (G : ai_G) : ai_G := (G.1, (G.2.1.1, ai_tset 9 G.2.1.2 q (some c)), G.2.2)
/-- what is wanted of the four numbers: they are the row's -/
noncomputable def lx_u4 (r : Nat → Int) (a off : Nat) : Prop := ∀ i, i < 4 → ∀ j : Nat, r 382 + ((off + i : Nat) : Int) = (j : Int) → r (383 + i) = r (225 + (a + j))
theorem lx_ux_to (hq : 16 ≤ q) (hq2 : q < 512) (hc : ai_cell G.2.1 q = some (lx_cl a n [])) (hN : 386 < G.1.1) (hu : lx_u4 r a off) (hR : ai_Rel D tyc A s sa ws nL r ad L S G H locs ls st) : ai_Rel D tyc A s sa ws nL r ad L S (lx_ptc q (lx_cl a n (lx_x4 off)) G) H locs ls st := by
  have hE := hR.env
  refine lx_cell hR hq hq2 hc (fun e he => ?_)
  rcases he with ⟨h1, -⟩ | ⟨h1, f, h2, h3⟩
  · cases h1
  · refine Or.inr ⟨h1, f, h2, fun z hz => ?_, fun j hj => ?_⟩
    · rcases List.mem_append.mp hz with hz | hz
      · unfold lx_x4 at hz
        simp only [List.mem_cons, List.not_mem_nil, or_false] at hz
        rcases hz with rfl | rfl | rfl | rfl
        · exact ⟨by show 382 < G.1.1; omega, by show 383 < G.1.1; omega⟩
        · exact ⟨by show 382 < G.1.1; omega, by show 384 < G.1.1; omega⟩
        · exact ⟨by show 382 < G.1.1; omega, by show 385 < G.1.1; omega⟩
        · exact ⟨by show 382 < G.1.1; omega, by show 386 < G.1.1; omega⟩
      · exact h3.1 z hz
    · have g := h3.2 j hj
      exact lx_x4_to (fun i hi e => (lx_tk_of hE.1 (List.mem_range.mpr hj) g).trans (hu i hi j e).symm) g
theorem lx_ux_of (hq : 16 ≤ q) (hq2 : q < 512) (hc : ai_cell G.2.1 q = some (lx_cl a n (lx_x4 off))) (hu : lx_u4 r a off) (hR : ai_Rel D tyc A s sa ws nL r ad L S G H locs ls st) : ai_Rel D tyc A s sa ws nL r ad L S (lx_ptc q (lx_cl a n []) G) H locs ls st := by
  have hE := hR.env
  refine lx_cell hR hq hq2 hc (fun e he => ?_)
  rcases he with ⟨h1, -⟩ | ⟨h1, f, h2, h3⟩
  · cases h1
  · refine Or.inr ⟨h1, f, h2, fun z hz => h3.1 z (List.mem_append_right _ hz), fun j hj => ?_⟩
    exact lx_x4_of (fun i hi e ev => lx_tk_to hE.1 (ai_i32 _) (ev.trans (hu i hi j e))) (h3.2 j hj)
end LXU
theorem lx_r0c : (List.range 12).all (fun q => fn_heqO (ai_cell lx_h (70 + q)) (some (lx_cl (12 * q) 12 []))) = true ∧ fn_heqO (ai_cell lx_h 283) (some (lx_cl 0 144 [])) = true := by decide +kernel
theorem lx_szb : ∀ q, q < 12 → (213 + q, ((-1 : Int), (12 : Int))) ∈ lx_E5.2.1 := by decide +kernel
