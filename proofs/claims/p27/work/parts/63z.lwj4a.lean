/-! THE LAW: night; places and mills told -/
noncomputable def lx_zP22 : List (Nat × Nat × Nat) := [(1, 0, 4), (60, 194, 0), (61, 194, 1), (62, 194, 2), (63, 194, 3), (64, 195, 0), (65, 195, 1), (66, 195, 2), (67, 195, 3), (71, 264, 1), (72, 17, 0), (74, 17, 2), (101, 193, 0), (102, 193, 1), (104, 193, 8), (105, 193, 3), (106, 193, 2), (107, 193, 4), (108, 193, 9), (109, 193, 6), (110, 193, 7), (170, 19, 0), (171, 19, 1), (172, 19, 2), (173, 19, 3), (174, 20, 0), (175, 20, 1), (176, 20, 2), (177, 20, 3), (178, 21, 0), (179, 21, 1), (180, 21, 2), (181, 21, 3), (182, 22, 0), (183, 22, 1), (184, 22, 2), (185, 22, 3), (370, 196, 0), (371, 196, 1), (372, 196, 2), (373, 196, 3), (374, 197, 0), (375, 197, 1), (376, 197, 2), (377, 197, 3), (378, 324, 0), (379, 324, 1), (380, 324, 2), (381, 324, 3), (382, 325, 0), (383, 325, 1), (384, 325, 2), (385, 325, 3), (386, 326, 0), (387, 326, 1), (388, 326, 2), (389, 326, 3)]
theorem lx_zp22 : lx_pc lx_zP22 = true := by decide +kernel
noncomputable def lx_zT22 : List (Nat × us_C) := []
theorem lx_zT22_ok : lt_all 60 lx_zT22 := trivial
noncomputable def lx_B22 : Int → List (Int × Int) := fun k => if k = 1 then [(.negSucc 2147483647, .negSucc 0), (.ofNat 0, .ofNat 0), (.ofNat 1, .ofNat 1), (.ofNat 2, .ofNat 2), (.ofNat 3, .ofNat 3), (.ofNat 4, .ofNat 2147483647)] else [(ai_lo32, ai_hi32)]
theorem lx_B22_kc : (List.range 10).all (fun k => bx_cov ai_lo32 (lx_B22 (.ofNat k))) = true := by decide +kernel
theorem lx_B22_kl : lx_B22 (lx_kap 22) = [(.negSucc 2147483647, .negSucc 0), (.ofNat 0, .ofNat 0), (.ofNat 1, .ofNat 1), (.ofNat 2, .ofNat 2), (.ofNat 3, .ofNat 3), (.ofNat 4, .ofNat 2147483647)] := by decide +kernel
noncomputable def lx_sps2 : List Nat → ai_G → ai_G
  | [], G => G
  | t :: l, G => lx_sps2 l (lx_sp t 0 G)
theorem lx_sps2E : ∀ {l : List Nat} {G : ai_G}, (lx_sps2 l G).1 = G.1 ∧ (lx_sps2 l G).2.1.1 = G.2.1.1 ∧ (lx_sps2 l G).2.2 = G.2.2
  | [], _ => ⟨rfl, rfl, rfl⟩
  | t :: l, G => by
    obtain ⟨a, b, c⟩ := lx_sps2E (l := l) (G := lx_sp t 0 G)
    exact ⟨a, b.trans lx_spn, c⟩
theorem lx_sps2_ok {s : State} {D : va_G} {tyc : Nat → ClassId} {A : Nat → Prop} {sa : ai_B} {ws : va_W} {nL : Nat} {r : Nat → Int} {ad : Nat → Nat} {L S : List ai_V} {H : Heap} {locs : List Loc} {ls : Array Slot} {st : List Value} : ∀ {q : List Nat} {G : ai_G}, ai_Rel D tyc A s sa ws nL r ad L S G H locs ls st → (∀ t ∈ q, r t = 0) → (∀ z, z < 16 → ai_cell G.2.1 z = none) → ai_Rel D tyc A s sa ws nL r ad L S (lx_sps2 q G) H locs ls st
  | [], G, hR, _, _ => hR
  | t :: q, G, hR, h, h16 => lx_sps2_ok (q := q) (G := lx_sp t 0 G) (lx_sp_ok hR (h t List.mem_cons_self) h16) (fun z hz => h z (List.mem_cons_of_mem _ hz)) (lx_sp16' h16)
noncomputable def lx_ld0 (q : Nat) : List Nat := ((List.range 16).filter (fun j => Nat.ble q (j / 4))).map lx_ldn
noncomputable def lx_z22 (q m : Nat) : ai_G := hg_cap (lx_sps2 (lx_ld0 q) (lx_sp 74 (.ofNat m) (lx_sp 72 (.ofNat q) lx_z0))) 110 (0, (m : Int))
noncomputable def lx_k22 (m : Nat) (f : ai_F) : Bool := lx_kJ [194, 195, 196, 197, 322, 323, 324, 325, 326] lx_zP22 (0, .ofNat m) f
theorem lx_zpb : (72, ((0 : Int), (4 : Int))) ∈ lx_E5.2.1 ∧ (110, ((0 : Int), (4 : Int))) ∈ lx_E5.2.1 := by decide +kernel
