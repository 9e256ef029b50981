/-! THE LAW: line; the lines told -/
noncomputable def lx_zP1 : List (Nat × Nat × Nat) := [(1, 0, 4), (72, 264, 1), (74, 17, 1), (115, 24, 0), (116, 24, 1), (117, 24, 2), (118, 24, 3), (119, 24, 4), (120, 25, 0), (121, 25, 1), (122, 25, 2), (123, 25, 3), (124, 25, 4), (125, 26, 0), (126, 26, 1), (127, 26, 2), (128, 26, 3), (129, 26, 4), (130, 27, 0), (131, 27, 1), (132, 27, 2), (133, 27, 3), (134, 27, 4)]
theorem lx_zp1 : lx_pc lx_zP1 = true := by decide +kernel
noncomputable def lx_zT1 : List (Nat × us_C) := [(38, cn_rework), (38, cn_rework_o1), (38, cn_rework_o2), (38, cn_rework_o3), (38, cn_rework_o4)]
theorem lx_zT1_ok : lt_all 60 lx_zT1 := ⟨cp_rework.mono (by decide), cp_rework_o1.mono (by decide), cp_rework_o2.mono (by decide), cp_rework_o3.mono (by decide), cp_rework_o4.mono (by decide), trivial⟩
noncomputable def lx_z1 (q : Nat) : ai_G := hg_cap (lx_sp 74 (.ofNat q) lx_z0) 73 (if q = 0 then 0 else 1, 4)
noncomputable def lx_k1 (f : ai_F) : Bool := lx_kJ [24, 25, 26, 27, 266, 267, 268, 269] lx_zP1 (75, 0) f
theorem lx_zlb : (74, ((0 : Int), (5 : Int))) ∈ lx_E5.2.1 ∧ (73, ((0 : Int), (4 : Int))) ∈ lx_E5.2.1 := by decide +kernel

theorem lx_z1_0 : lx_zck 1 lx_zT1 bx_0 [] lx_k1 (lx_z1 0) = true := by decide +kernel
theorem lx_z1_1 : lx_zck 1 lx_zT1 bx_0 [] lx_k1 (lx_z1 1) = true := by decide +kernel
theorem lx_z1_2 : lx_zck 1 lx_zT1 bx_0 [] lx_k1 (lx_z1 2) = true := by decide +kernel
theorem lx_z1_3 : lx_zck 1 lx_zT1 bx_0 [] lx_k1 (lx_z1 3) = true := by decide +kernel
theorem lx_z1_4 : lx_zck 1 lx_zT1 bx_0 [] lx_k1 (lx_z1 4) = true := by decide +kernel
theorem lx_z1_5 : lx_zck 1 lx_zT1 bx_0 [] lx_k1 (lx_z1 5) = true := by decide +kernel
theorem lx_z1r : ∀ q, q < 6 → lx_zck 1 lx_zT1 bx_0 [] lx_k1 (lx_z1 q) = true := fun q h => match q, h with
  | 0, _ => lx_z1_0
  | 1, _ => lx_z1_1
  | 2, _ => lx_z1_2
  | 3, _ => lx_z1_3
  | 4, _ => lx_z1_4
  | 5, _ => lx_z1_5
  | n + 6, h => absurd h (by omega)
section LZ1
variable {p : Program} {l : Launch} {e : Env} {R : Room} {s : State} {m : MethodId} {args : Array Value} {below : List Frame} {meth : Method} {c : Code} {Q : State → Prop}
variable {D : va_G} {tyc : Nat → ClassId} {A : Nat → Prop} {sa : ai_B} {ws : va_W} {b Ln z0 v k : Nat} {xs : Nat → Int32}
variable {r : Nat → Int} {ad : Nat → Nat} {H : Heap} {locs : List Loc} {ls : Array Slot} {st : List Value}
set_option maxHeartbeats 4000000 in
theorem lx_lineJ (F : lx_Fr p R s m args meth c D tyc A sa) (hl : l.stackTraces = false) (hRf : 111 ≤ R.frames) (hRl : 8000 ≤ R.locals) (hsa : (z0, b, Ln, xs) ∈ sa.2) (hV : lx_V tyc ws r) (hvk : v ≤ k) (hk4 : k ≤ 4) (hR : ai_Rel D tyc A s sa ws 7 r ad lx_L [.inl (0, .ofNat 1)] (lx_G v 1) H locs ls st) (hi : 0 ≤ r 1 ∧ r 1 + 10 ≤ (Ln : Int)) (h5 : r 1 ≤ 5110) (h110 : r 75 = (k : Int)) (had : ad 0 = b)
    (kn : lx_Kn p l e R s m args below meth c Q D tyc A sa b (r 1)) : W p l e R s m args below meth c H locs 0 0 Q (F0 m 40 ls st) := by
  have hE : ai_gE r (lx_El v 1) := hR.env
  have hE5 : ai_gE r lx_E5 := lx_E5_ok hE
  have eN := lx_E5e v
  have hR5 := lx_wide (E := lx_El v 1) (E' := lx_E5) (h := lx_h) (c := 0) (sl := 0) eN hE5 hR
  have hN : lx_E5.1 = 393 := lx_E5N
  have hRc := hg_cap_ok hR5 (t := 1) (b := (0, 5110)) (by show 1 < lx_E5.1; rw [hN]; omega) ⟨hi.1, h5⟩
  have hRc : ai_Rel D tyc A s sa ws 7 r ad lx_L [.inl (0, .ofNat 1)] lx_z0 H locs ls st := hRc
  have bL : 0 ≤ r 74 ∧ r 74 ≤ 5 := (hE5.2.2.2.1 _ lx_zlb.1).2
  have bP : 0 ≤ r 73 ∧ r 73 ≤ 4 := (hE5.2.2.2.1 _ lx_zlb.2).2
  obtain ⟨q, hq⟩ : ∃ q : Nat, r 74 = (q : Int) := ⟨(r 74).toNat, by omega⟩
  have hR6' := lx_sp_ok (t := 74) (k := .ofNat q) hRc hq lx_no16
  have hR6 := hg_cap_ok hR6' (t := 73) (b := (if q = 0 then 0 else 1, 4)) (by show 73 < lx_E5.1; rw [hN]; omega) ⟨by
    show (if q = 0 then (0 : Int) else 1) ≤ r 73
    by_cases z : q = 0
    · rw [if_pos z]
      exact bP.1
    · rw [if_neg z]
      rcases Int.lt_or_le (r 73) 1 with w | w
      · have := (lx_Jz hV.2 hE.1 (by omega)).2
        omega
      · exact w, bP.2⟩
  have gN : (lx_z1 q).1.1 = 393 := hN
  have gh : (lx_z1 q).2.1.1 = 336 := by
    show (lx_sp 74 (.ofNat q) lx_z0).2.1.1 = _
    rw [lx_spn]
    rfl
  have gc : (lx_z1 q).2.2 = (0, 0) := rfl
  have res := lx_goJ (r := r) (r0 := r) (G := lx_z1 q) (w := 1) F hl lx_zT1_ok hRf hRl hsa hV.1 hvk hk4 hi h110 had (lx_z1r q (by omega)) hR6 ai_ext.rfl' (by rw [gN]; exact Nat.le_refl _) (by rw [gh]; omega) (fun z hz => by cases hz) (fun z hz => by cases hz) (fun f r' ad' H' locs' ls' st' hck x1 hR' => ?_) kn
  · rw [gc] at res
    exact res
  rw [gN] at x1
  exact lx_fullK hE hV.2 (by omega) lx_zp1 hck x1 hR'
end LZ1
