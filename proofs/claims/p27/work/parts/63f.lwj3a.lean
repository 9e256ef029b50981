/-! THE LAW: day; the sheet told, its place a number: four places of the row are told once more, by that number -/
noncomputable def lx_tk (a : Nat) (ks : List Nat) : List (ai_X × ai_X) := ks.map (fun k => ((0, .ofNat k), (226 + (a + k), 0)))
theorem lx_tk_of {r : Nat → Int} {lo hi v : Int} {a j : Nat} (h0 : r 0 = 0) : ∀ {ks : List Nat}, j ∈ ks → ai_ov r lo hi (lx_tk a ks) j v → v = r (226 + (a + j))
  | [], h, _ => by cases h
  | k :: ks, h, g => by
    have g : (ai_vx r (0, Int.ofNat k) = (j : Int) → v = ai_vx r (226 + (a + k), 0)) ∧ (ai_vx r (0, Int.ofNat k) ≠ (j : Int) → ai_ov r lo hi (lx_tk a ks) j v) := g
    have z : ai_vx r (0, Int.ofNat k) = (k : Int) := by
      show r 0 + (k : Int) = k
      rw [h0, Int.zero_add]
    rw [z] at g
    by_cases e : k = j
    · have := g.1 (by rw [e])
      rw [this, e]
      exact Int.add_zero _
    · refine lx_tk_of h0 ?_ (g.2 (fun q => e (by omega)))
      rcases List.mem_cons.mp h with h | h
      · exact absurd h.symm e
      · exact h
theorem lx_tk_to {r : Nat → Int} {lo hi v : Int} {a j : Nat} (h0 : r 0 = 0) (hb : lo ≤ v ∧ v ≤ hi) (hv : v = r (226 + (a + j))) : ∀ {ks : List Nat}, ai_ov r lo hi (lx_tk a ks) j v
  | [] => hb
  | k :: ks => by
    have z : ai_vx r (0, Int.ofNat k) = (k : Int) := by
      show r 0 + (k : Int) = k
      rw [h0, Int.zero_add]
    refine ⟨fun q => ?_, fun _ => lx_tk_to h0 hb hv⟩
    have q : ai_vx r (0, Int.ofNat k) = (j : Int) := q
    rw [z] at q
    have e : k = j := by omega
    rw [hv, e]
    exact (Int.add_zero _).symm
noncomputable def lx_x4 (off : Nat) : List (ai_X × ai_X) := [((399, .ofNat off), (400, 0)), ((399, .ofNat (off + 1)), (401, 0)), ((399, .ofNat (off + 2)), (402, 0)), ((399, .ofNat (off + 3)), (403, 0))]
noncomputable def lx_cl (a n : Nat) (x : List (ai_X × ai_X)) : ai_C := .inr (.inl (0, n, ai_lo32, ai_hi32, x ++ lx_tk a (List.range n)))
section LXU
variable {s : State} {D : va_G} {tyc : Nat → ClassId} {A : Nat → Prop} {sa : ai_B} {ws : va_W} {nL : Nat}
variable {r : Nat → Int} {ad : Nat → Nat} {L S : List ai_V} {G : ai_G} {H : Heap} {locs : List Loc} {ls : Array Slot} {st : List Value} {q a n off : Nat}
theorem lx_x4_to {lo hi v : Int} {j : Nat} {l : List (ai_X × ai_X)} (h : ∀ i, i < 4 → r 399 + ((off + i : Nat) : Int) = (j : Int) → v = r (400 + i)) (g : ai_ov r lo hi l j v) : ai_ov r lo hi (lx_x4 off ++ l) j v := by
  have one : ∀ i, i < 4 → ai_vx r (399, Int.ofNat (off + i)) = (j : Int) → v = ai_vx r (400 + i, 0) := fun i hi e => (h i hi e).trans (Int.add_zero _).symm
  exact ⟨one 0 (by omega), fun _ => ⟨one 1 (by omega), fun _ => ⟨one 2 (by omega), fun _ => ⟨one 3 (by omega), fun _ => g⟩⟩⟩⟩
theorem lx_x4_of {lo hi v : Int} {j : Nat} {l : List (ai_X × ai_X)} (h : ∀ i, i < 4 → r 399 + ((off + i : Nat) : Int) = (j : Int) → v = r (400 + i) → ai_ov r lo hi l j v) (g : ai_ov r lo hi (lx_x4 off ++ l) j v) : ai_ov r lo hi l j v := by
  have g : (ai_vx r (399, Int.ofNat (off + 0)) = (j : Int) → v = ai_vx r (400 + 0, 0)) ∧ (ai_vx r (399, Int.ofNat (off + 0)) ≠ (j : Int) → (ai_vx r (399, Int.ofNat (off + 1)) = (j : Int) → v = ai_vx r (400 + 1, 0)) ∧ (ai_vx r (399, Int.ofNat (off + 1)) ≠ (j : Int) → (ai_vx r (399, Int.ofNat (off + 2)) = (j : Int) → v = ai_vx r (400 + 2, 0)) ∧ (ai_vx r (399, Int.ofNat (off + 2)) ≠ (j : Int) → (ai_vx r (399, Int.ofNat (off + 3)) = (j : Int) → v = ai_vx r (400 + 3, 0)) ∧ (ai_vx r (399, Int.ofNat (off + 3)) ≠ (j : Int) → ai_ov r lo hi l j v)))) := g
  by_cases e0 : ai_vx r (399, Int.ofNat (off + 0)) = (j : Int)
  · exact h 0 (by omega) e0 ((g.1 e0).trans (Int.add_zero _))
  by_cases e1 : ai_vx r (399, Int.ofNat (off + 1)) = (j : Int)
  · exact h 1 (by omega) e1 (((g.2 e0).1 e1).trans (Int.add_zero _))
  by_cases e2 : ai_vx r (399, Int.ofNat (off + 2)) = (j : Int)
  · exact h 2 (by omega) e2 ((((g.2 e0).2 e1).1 e2).trans (Int.add_zero _))
  by_cases e3 : ai_vx r (399, Int.ofNat (off + 3)) = (j : Int)
  · exact h 3 (by omega) e3 (((((g.2 e0).2 e1).2 e2).1 e3).trans (Int.add_zero _))
  · exact (((g.2 e0).2 e1).2 e2).2 e3
noncomputable def lx_ptc (q : Nat) (c : ai_C) (G : ai_G) : ai_G := (G.1, (G.2.1.1, ai_tset 9 G.2.1.2 q (some c)), G.2.2)
/-- what is wanted of the four numbers: they are the row's -/
noncomputable def lx_u4 (r : Nat → Int) (a off : Nat) : Prop := ∀ i, i < 4 → ∀ j : Nat, r 399 + ((off + i : Nat) : Int) = (j : Int) → r (400 + i) = r (226 + (a + j))
theorem lx_ux_to (hq : 16 ≤ q) (hq2 : q < 512) (hc : ai_cell G.2.1 q = some (lx_cl a n [])) (hN : 403 < G.1.1) (hu : lx_u4 r a off) (hR : ai_Rel D tyc A s sa ws nL r ad L S G H locs ls st) : ai_Rel D tyc A s sa ws nL r ad L S (lx_ptc q (lx_cl a n (lx_x4 off)) G) H locs ls st := by
  have hE := hR.env
  refine lx_cell hR hq hq2 hc (fun e he => ?_)
  rcases he with ⟨h1, -⟩ | ⟨h1, f, h2, h3⟩
  · cases h1
  · refine Or.inr ⟨h1, f, h2, fun z hz => ?_, fun j hj => ?_⟩
    · rcases List.mem_append.mp hz with hz | hz
      · unfold lx_x4 at hz
        simp only [List.mem_cons, List.not_mem_nil, or_false] at hz
        rcases hz with rfl | rfl | rfl | rfl
        · exact ⟨by show 399 < G.1.1; omega, by show 400 < G.1.1; omega⟩
        · exact ⟨by show 399 < G.1.1; omega, by show 401 < G.1.1; omega⟩
        · exact ⟨by show 399 < G.1.1; omega, by show 402 < G.1.1; omega⟩
        · exact ⟨by show 399 < G.1.1; omega, by show 403 < G.1.1; omega⟩
      · exact h3.1 z hz
    · have g := h3.2 j hj
      exact lx_x4_to (fun i hi e => (lx_tk_of hE.1 (List.mem_range.mpr hj) g).trans (hu i hi j e).symm) g
theorem lx_ux_of (hq : 16 ≤ q) (hq2 : q < 512) (hc : ai_cell G.2.1 q = some (lx_cl a n (lx_x4 off))) (hu : lx_u4 r a off) (hR : ai_Rel D tyc A s sa ws nL r ad L S G H locs ls st) : ai_Rel D tyc A s sa ws nL r ad L S (lx_ptc q (lx_cl a n []) G) H locs ls st := by
  have hE := hR.env
  refine lx_cell hR hq hq2 hc (fun e he => ?_)
  rcases he with ⟨h1, -⟩ | ⟨h1, f, h2, h3⟩
  · cases h1
  · refine Or.inr ⟨h1, f, h2, fun z hz => h3.1 z (List.mem_append_right _ hz), fun j hj => ?_⟩
    exact lx_x4_of (fun i hi e ev => lx_tk_to hE.1 (ai_i32 _) (ev.trans (hu i hi j e))) (h3.2 j hj)
end LXU
theorem lx_r0c : (List.range 12).all (fun q => fn_heqO (ai_cell lx_h (70 + q)) (some (lx_cl (12 * q) 12 []))) = true ∧ fn_heqO (ai_cell lx_h 283) (some (lx_cl 0 144 [])) = true := by decide +kernel
theorem lx_szb : ∀ q, q < 12 → (214 + q, ((-1 : Int), (12 : Int))) ∈ lx_E5.2.1 := by decide +kernel
theorem lx_rtb : ∀ j, j < 144 → (226 + j, (ai_lo32, ai_hi32)) ∈ lx_E5.2.1 := by decide +kernel
noncomputable def lx_n6 (d : Int × Int) : ai_G := hg_new (hg_new (hg_new (hg_new (hg_new (hg_new lx_z0 (0, 8)) (ai_lo32, ai_hi32)) (ai_lo32, ai_hi32)) (ai_lo32, ai_hi32)) (ai_lo32, ai_hi32)) d
noncomputable def lx_w6 (q : Nat) (G : ai_G) : ai_G := lx_ptc 283 (lx_cl 0 144 (lx_x4 (12 * q))) (lx_ptc (70 + q) (lx_cl (12 * q) 12 (lx_x4 0)) G)
noncomputable def lx_z61 (q : Nat) : ai_G := lx_w6 q (hg_cap (lx_n6 (ai_lo32, ai_hi32)) (214 + q) (-1, -1))
noncomputable def lx_z62 (q : Nat) : ai_G := lx_w6 q (hk_df (hk_df (hk_df (hg_cap (lx_n6 (-8, 3)) (214 + q) (0, 12)) (1, 404, (214 + q, 0), (399, 0))) (32, 0, (214 + q, -3), (399, 0))) (32, 0, (404, 0), (0, 3)))
noncomputable def lx_z63 (q : Nat) : ai_G := lx_w6 q (hk_df (hk_df (hk_df (hg_cap (lx_n6 (4, 12)) (214 + q) (4, 12)) (1, 404, (214 + q, 0), (399, 0))) (32, 0, (399, 0), (214 + q, -4))) (32, 0, (0, 4), (404, 0)))
noncomputable def lx_rd6 (q : Nat) : List (Int × ai_X) := [(3, (0, .ofNat q)), (4, (399, 0))]
noncomputable def lx_zP6 : List (Nat × Nat × Nat) := [(1, 0, 4), (71, 264, 1), (170, 19, 0), (171, 19, 1), (172, 19, 2), (173, 19, 3), (174, 20, 0), (175, 20, 1), (176, 20, 2), (177, 20, 3), (178, 21, 0), (179, 21, 1), (180, 21, 2), (181, 21, 3), (182, 22, 0), (183, 22, 1), (184, 22, 2), (185, 22, 3), (186, 45, 0), (187, 45, 1), (188, 45, 2), (189, 45, 3), (190, 51, 0), (191, 51, 1), (192, 51, 2), (193, 51, 3), (194, 57, 0), (195, 57, 1), (196, 57, 2), (197, 57, 3), (198, 63, 0), (199, 63, 1), (200, 63, 2), (201, 63, 3)]
theorem lx_zp6 : lx_pc lx_zP6 = true := by decide +kernel
noncomputable def lx_zT6 : List (Nat × us_C) := []
theorem lx_zT6_ok : lt_all 60 lx_zT6 := trivial
noncomputable def lx_B6 : Int → List (Int × Int) := fun k => if k = 2 then [(.negSucc 2147483647, .negSucc 0), (.ofNat 0, .ofNat 0), (.ofNat 1, .ofNat 1), (.ofNat 2, .ofNat 2), (.ofNat 3, .ofNat 3), (.ofNat 4, .ofNat 2147483647)] else [(ai_lo32, ai_hi32)]
theorem lx_B6_kc : (List.range 10).all (fun k => bx_cov ai_lo32 (lx_B6 (.ofNat k))) = true := by decide +kernel
theorem lx_B6_kl : lx_B6 (lx_kap 6) = [(.negSucc 2147483647, .negSucc 0), (.ofNat 0, .ofNat 0), (.ofNat 1, .ofNat 1), (.ofNat 2, .ofNat 2), (.ofNat 3, .ofNat 3), (.ofNat 4, .ofNat 2147483647)] := by decide +kernel
noncomputable def lx_k6 (q : Nat) (f : ai_F) : Bool := fn_heqO (ai_cell f.2.2.2.2.1 (70 + q)) (some (lx_cl (12 * q) 12 (lx_x4 0))) && (fn_heqO (ai_cell f.2.2.2.2.1 283) (some (lx_cl 0 144 (lx_x4 (12 * q)))) && lx_kJ [19, 20, 21, 22, 45, 51, 57, 63, 279, 280] lx_zP6 (74, 0) (f.1, f.2.1, f.2.2.1, lx_ptc 283 (lx_cl 0 144 []) (lx_ptc (70 + q) (lx_cl (12 * q) 12 []) f.2.2.2)))
noncomputable def lx_k6n (f : ai_F) : Bool := lx_kJ [19, 20, 21, 22, 45, 51, 57, 63, 279, 280] lx_zP6 (74, 0) f
theorem lx_zd_lo_x0 : lx_zckA 6 lx_zT6 lx_B6 [(3, (399, 0))] lx_k6n (hg_new lx_z0 (ai_lo32, -1)) (.negSucc 2147483647, .negSucc 0) = true := by decide +kernel
theorem lx_zd_lo_x1 : lx_zckA 6 lx_zT6 lx_B6 [(3, (399, 0))] lx_k6n (hg_new lx_z0 (ai_lo32, -1)) (.ofNat 0, .ofNat 0) = true := by decide +kernel
theorem lx_zd_lo_x2 : lx_zckA 6 lx_zT6 lx_B6 [(3, (399, 0))] lx_k6n (hg_new lx_z0 (ai_lo32, -1)) (.ofNat 1, .ofNat 1) = true := by decide +kernel
theorem lx_zd_lo_x3 : lx_zckA 6 lx_zT6 lx_B6 [(3, (399, 0))] lx_k6n (hg_new lx_z0 (ai_lo32, -1)) (.ofNat 2, .ofNat 2) = true := by decide +kernel
theorem lx_zd_lo_x4 : lx_zckA 6 lx_zT6 lx_B6 [(3, (399, 0))] lx_k6n (hg_new lx_z0 (ai_lo32, -1)) (.ofNat 3, .ofNat 3) = true := by decide +kernel
theorem lx_zd_lo_x5 : lx_zckA 6 lx_zT6 lx_B6 [(3, (399, 0))] lx_k6n (hg_new lx_z0 (ai_lo32, -1)) (.ofNat 4, .ofNat 2147483647) = true := by decide +kernel
theorem lx_zd_lo : lx_zck 6 lx_zT6 lx_B6 [(3, (399, 0))] lx_k6n (hg_new lx_z0 (ai_lo32, -1)) = true := lx_zck_of lx_B6_kc lx_B6_kl (lx_ac lx_zd_lo_x0 (lx_ac lx_zd_lo_x1 (lx_ac lx_zd_lo_x2 (lx_ac lx_zd_lo_x3 (lx_ac lx_zd_lo_x4 (lx_ac lx_zd_lo_x5 lx_an))))))
theorem lx_zd_hi_x0 : lx_zckA 6 lx_zT6 lx_B6 [(3, (399, 0))] lx_k6n (hg_new lx_z0 (12, ai_hi32)) (.negSucc 2147483647, .negSucc 0) = true := by decide +kernel
theorem lx_zd_hi_x1 : lx_zckA 6 lx_zT6 lx_B6 [(3, (399, 0))] lx_k6n (hg_new lx_z0 (12, ai_hi32)) (.ofNat 0, .ofNat 0) = true := by decide +kernel
theorem lx_zd_hi_x2 : lx_zckA 6 lx_zT6 lx_B6 [(3, (399, 0))] lx_k6n (hg_new lx_z0 (12, ai_hi32)) (.ofNat 1, .ofNat 1) = true := by decide +kernel
theorem lx_zd_hi_x3 : lx_zckA 6 lx_zT6 lx_B6 [(3, (399, 0))] lx_k6n (hg_new lx_z0 (12, ai_hi32)) (.ofNat 2, .ofNat 2) = true := by decide +kernel
theorem lx_zd_hi_x4 : lx_zckA 6 lx_zT6 lx_B6 [(3, (399, 0))] lx_k6n (hg_new lx_z0 (12, ai_hi32)) (.ofNat 3, .ofNat 3) = true := by decide +kernel
theorem lx_zd_hi_x5 : lx_zckA 6 lx_zT6 lx_B6 [(3, (399, 0))] lx_k6n (hg_new lx_z0 (12, ai_hi32)) (.ofNat 4, .ofNat 2147483647) = true := by decide +kernel
theorem lx_zd_hi : lx_zck 6 lx_zT6 lx_B6 [(3, (399, 0))] lx_k6n (hg_new lx_z0 (12, ai_hi32)) = true := lx_zck_of lx_B6_kc lx_B6_kl (lx_ac lx_zd_hi_x0 (lx_ac lx_zd_hi_x1 (lx_ac lx_zd_hi_x2 (lx_ac lx_zd_hi_x3 (lx_ac lx_zd_hi_x4 (lx_ac lx_zd_hi_x5 lx_an))))))
