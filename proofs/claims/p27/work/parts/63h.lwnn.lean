noncomputable def lx_zP24 : List (Nat × Nat × Nat) := [(1, 0, 4), (71, 264, 1), (101, 193, 0)]
theorem lx_zp24 : lx_pc lx_zP24 = true := by decide +kernel
noncomputable def lx_zT24 : List (Nat × us_C) := []
theorem lx_zT24_ok : lt_all 60 lx_zT24 := trivial
/-! THE LAW: minutes -/
noncomputable def nl_xb (b : Int) (q : Int × Int) : ai_G := hg_new (lx_sp 101 b lx_z0) q
noncomputable def nl_x4 : ai_G := hk_df (hk_df (hk_df (hg_new (hg_new (nl_xb (.ofNat 1) (0, 1000)) (1001, 2000)) (0, 1000)) (0, 400, (105, 0), (399, 0))) (1, 401, (0, 1000), (105, 0))) (32, 0, (401, 1), (399, 0))
noncomputable def nl_kx (f : ai_F) : Bool := lx_kJ [] lx_zP24 (74, 0) f
theorem nl_r0 : lx_zck 24 lx_zT24 bx_0 [(1, (399, 0))] nl_kx (nl_xb (.ofNat 0) (ai_lo32, ai_hi32)) = true := by decide +kernel
theorem nl_r1 : lx_zck 24 lx_zT24 bx_0 [(1, (399, 0))] nl_kx (nl_xb (.ofNat 1) (ai_lo32, -1)) = true := by decide +kernel
theorem nl_r2 : lx_zck 24 lx_zT24 bx_0 [(1, (399, 0))] nl_kx (nl_xb (.ofNat 1) (1001, ai_hi32)) = true := by decide +kernel
theorem nl_r4 : lx_zck 24 lx_zT24 bx_0 [(1, (399, 0))] nl_kx nl_x4 = true := by decide +kernel
theorem nl_bb : (101, ((0 : Int), (1 : Int))) ∈ lx_E5.2.1 ∧ (105, ((0 : Int), (1000 : Int))) ∈ lx_E5.2.1 := by decide +kernel
section NLN
variable {p : Program} {l : Launch} {e : Env} {R : Room} {s : State} {m : MethodId} {args : Array Value} {below : List Frame} {meth : Method} {c : Code} {Q : State → Prop}
variable {D : va_G} {tyc : Nat → ClassId} {A : Nat → Prop} {sa : ai_B} {ws : va_W} {b Ln z0 v k : Nat} {xs : Nat → Int32}
variable {r : Nat → Int} {ad : Nat → Nat} {H : Heap} {locs : List Loc} {ls : Array Slot} {st : List Value}
set_option maxHeartbeats 8000000 in
theorem lx_minutesJ (F : lx_Fr p R s m args meth c D tyc A sa) (hl : l.stackTraces = false) (hRf : 111 ≤ R.frames) (hRl : 8000 ≤ R.locals) (hsa : (z0, b, Ln, xs) ∈ sa.2) (hV : lx_V tyc ws r) (hvk : v ≤ k) (hk4 : k ≤ 4) (hR : ai_Rel D tyc A s sa ws 7 r ad lx_L [.inl (0, .ofNat 24)] (lx_G v 1) H locs ls st) (hi : 0 ≤ r 1 ∧ r 1 + 10 ≤ (Ln : Int)) (h5 : r 1 ≤ 5110) (h110 : r 74 = (k : Int)) (had : ad 0 = b)
    (kn : lx_Kn p l e R s m args below meth c Q D tyc A sa b (r 1)) : W p l e R s m args below meth c H locs 0 0 Q (F0 m 40 ls st) := by
  have hE : ai_gE r (lx_El v 1) := hR.env
  have hE5 : ai_gE r lx_E5 := lx_E5_ok hE
  have eN := lx_E5e v
  have hR5 := lx_wide (E := lx_El v 1) (E' := lx_E5) (h := lx_h) (c := 0) (sl := 0) eN hE5 hR
  have hN : lx_E5.1 = 399 := lx_E5N
  have hRc := hg_cap_ok hR5 (t := 1) (b := (0, 5110)) (by show 1 < lx_E5.1; rw [hN]; omega) ⟨hi.1, h5⟩
  have hRc : ai_Rel D tyc A s sa ws 7 r ad lx_L [.inl (0, .ofNat 24)] lx_z0 H locs ls st := hRc
  have hN0 : lx_z0.1.1 = 399 := hN
  obtain ⟨mB, mG⟩ := nl_bb
  have bB : 0 ≤ r 101 ∧ r 101 ≤ 1 := (hE5.2.2.2.1 _ mB).2
  have bG : 0 ≤ r 105 ∧ r 105 ≤ 1000 := (hE5.2.2.2.1 _ mG).2
  have r00 : r 0 = 0 := hE.1
  obtain ⟨x, hx⟩ : ∃ x : Int, x = (xs (r 1 + 1).toNat).toInt := ⟨_, rfl⟩
  have x32 : ai_lo32 ≤ x ∧ x ≤ ai_hi32 := by rw [hx]; exact ai_i32 _
  have go : ∀ (G : ai_G) (r1 : Nat → Int), lx_zck 24 lx_zT24 bx_0 [(1, (399, 0))] nl_kx G = true → ai_Rel D tyc A s sa ws 7 r1 ad lx_L [.inl (0, .ofNat 24)] G H locs ls st → ai_ext 399 r r1 → 400 ≤ G.1.1 → 0 < G.2.1.1 → G.2.2 = (0, 0) → r1 399 = x → W p l e R s m args below meth c H locs 0 0 Q (F0 m 40 ls st) := fun G r1 hck hR1 a1 gN g0 gc a2 => by
    have res := lx_goJ (r := r) (r0 := r1) (G := G) (w := 24) F hl lx_zT24_ok hRf hRl hsa hV.1 hvk hk4 hi h110 had hck hR1 a1 (by omega) g0 (fun q hq => ?_) (fun q hq => ?_) (fun f r' ad' H' locs' ls' st' hck2 x1 hR' => ?_) kn
    · rw [gc] at res
      exact res
    · rcases List.mem_cons.mp hq with rfl | hq
      · show r1 399 + 0 = _
        rw [a2, Int.add_zero]
        exact hx
      · cases hq
    · rcases List.mem_cons.mp hq with rfl | hq
      · show 399 < G.1.1
        omega
      · cases hq
    · exact lx_fullK hE hV.2 (by omega) lx_zp24 hck2 (fun u hu => (x1 u (by omega)).trans (a1 u hu)) hR'
  have one : ∀ (B : Int) (q : Int × Int), r 101 = B → (q.1 ≤ x ∧ x ≤ q.2) → ∃ r1, ai_ext 399 r r1 ∧ r1 399 = x ∧ ai_Rel D tyc A s sa ws 7 r1 ad lx_L [.inl (0, .ofNat 24)] (nl_xb B q) H locs ls st := fun B q hB hq => by
    have hR1 := lx_sp_ok (t := 101) (k := B) hRc hB lx_no16
    obtain ⟨r1, a1, a2, hR2⟩ := hk_add hR1 (q := q) (x := x) hq (ai_small32 x32)
    have a1 : ai_ext lx_z0.1.1 r r1 := a1
    have a2 : r1 lx_z0.1.1 = x := a2
    rw [hN0] at a1 a2
    exact ⟨r1, a1, a2, hR2⟩
  have hNx : ∀ B q, (nl_xb B q).1.1 = 400 := fun B q => by
    have h : (nl_xb B q).1.1 = (lx_sp 101 B lx_z0).1.1 + 1 := cy_newN _ _
    have h2 : (lx_sp 101 B lx_z0).1.1 = lx_z0.1.1 := rfl
    rw [h, h2, hN0]
  have h336 : ∀ B q, (nl_xb B q).2 = ((lx_sp 101 B lx_z0).2.1, 0, 0) ∧ (lx_sp 101 B lx_z0).2.1.1 = 336 := fun B q => ⟨nf_n2, lx_spn⟩
  have h0 : ∀ B q, 0 < (nl_xb B q).2.1.1 := fun B q => by
    rw [(h336 B q).1]
    show 0 < (lx_sp 101 B lx_z0).2.1.1
    rw [(h336 B q).2]
    omega
  have hc : ∀ B q, (nl_xb B q).2.2 = (0, 0) := fun B q => by rw [(h336 B q).1]
  rcases (by omega : r 101 = 0 ∨ r 101 = 1) with b0 | b1
  · obtain ⟨r1, a1, a2, hR2⟩ := one (.ofNat 0) (ai_lo32, ai_hi32) b0 x32
    exact go _ r1 nl_r0 hR2 a1 (by rw [hNx]; exact Nat.le_refl _) (h0 _ _) (hc _ _) a2
  by_cases p1 : x ≤ -1
  · obtain ⟨r1, a1, a2, hR2⟩ := one (.ofNat 1) (ai_lo32, -1) b1 ⟨x32.1, p1⟩
    exact go _ r1 nl_r1 hR2 a1 (by rw [hNx]; exact Nat.le_refl _) (h0 _ _) (hc _ _) a2
  by_cases p2 : 1001 ≤ x
  · obtain ⟨r1, a1, a2, hR2⟩ := one (.ofNat 1) (1001, ai_hi32) b1 ⟨p2, x32.2⟩
    exact go _ r1 nl_r2 hR2 a1 (by rw [hNx]; exact Nat.le_refl _) (h0 _ _) (hc _ _) a2
  have sm : ∀ z : Int, -5000 ≤ z → z ≤ 5000 → ai_small z := fun z h1 h2 => by
    unfold ai_small ai_lo64 ai_hi64
    omega
  by_cases p3 : r 105 + x ≤ 1000
  · obtain ⟨r1, a1, a2, hR2⟩ := hk_add hRc (q := (0, 1000)) (x := x) ⟨by show (0 : Int) ≤ x; omega, by show x ≤ (1000 : Int); omega⟩ (sm _ (by omega) (by omega))
    rw [hN0] at a1 a2
    obtain ⟨r3, c1, c2, hR3⟩ := hk_add hR2 (q := (0, 1000)) (x := 0) ⟨Int.le_refl _, by show (0 : Int) ≤ (1000 : Int); omega⟩ (sm _ (by omega) (by omega))
    have n1 : (hg_new lx_z0 (0, 1000)).1.1 = 400 := by rw [cy_newN, hN0]
    rw [n1] at c1 c2
    have eG : hg_new (hg_new lx_z0 (0, 1000)) (0, 1000) = nf_G0 := Prod.ext rfl (by rw [nf_n2, nf_n2]; rfl)
    rw [eG] at hR3
    have xx : ai_ext 399 r r3 := fun u hu => (c1 u (by omega)).trans (a1 u hu)
    have e3 : r3 399 = x := (c1 _ (by omega)).trans a2
    have eG3 : r3 105 = r 105 := xx _ (by omega)
    exact nl_main F hl hRf hRl hsa hV hvk hk4 hE xx hR3 hi h110 had (e3.trans hx) b1 (by rw [e3, eG3]; omega) kn
  · obtain ⟨r1, a1, a2, hR2⟩ := one (.ofNat 1) (0, 1000) b1 ⟨by show (0 : Int) ≤ x; omega, by show x ≤ (1000 : Int); omega⟩
    obtain ⟨r2, c1, c2, hR3⟩ := hk_add hR2 (q := (1001, 2000)) (x := r 105 + x) ⟨by show (1001 : Int) ≤ _; omega, by show _ ≤ (2000 : Int); omega⟩ (sm _ (by omega) (by omega))
    rw [hNx] at c1 c2
    obtain ⟨r3, d1, d2, hR4⟩ := hk_add hR3 (q := (0, 1000)) (x := 1000 - r 105) ⟨by show (0 : Int) ≤ _; omega, by show _ ≤ (1000 : Int); omega⟩ (sm _ (by omega) (by omega))
    have h2 : (hg_new (nl_xb (.ofNat 1) (0, 1000)) (1001, 2000)).1.1 = 401 := by rw [cy_newN, hNx]
    rw [h2] at d1 d2
    have h3 : (hg_new (hg_new (nl_xb (.ofNat 1) (0, 1000)) (1001, 2000)) (0, 1000)).1.1 = 402 := by rw [cy_newN, h2]
    have k0 : r3 0 = 0 := hR4.env.1
    have kG : r3 105 = r 105 := (d1 _ (by omega)).trans ((c1 _ (by omega)).trans (a1 _ (by omega)))
    have kx : r3 399 = x := (d1 _ (by omega)).trans ((c1 _ (by omega)).trans a2)
    have ks : r3 400 = r 105 + x := (d1 _ (by omega)).trans c2
    have lt : ∀ t, t < 402 → t < (hg_new (hg_new (nl_xb (.ofNat 1) (0, 1000)) (1001, 2000)) (0, 1000)).1.1 := fun t ht => by
      rw [h3]
      exact ht
    have hR5 := hk_adf hR4 (d := (0, 400, (105, 0), (399, 0))) ⟨lt _ (by show 400 < 402; omega), lt _ (by show 105 < 402; omega), lt _ (by show 399 < 402; omega), by
      show r3 400 = (r3 105 + 0 + (r3 399 + 0)).bmod 4294967296
      rw [ks, kG, kx, Int.add_zero, Int.add_zero]
      exact (Int.bmod_eq_of_le_mul_two (by omega) (by omega)).symm⟩
    have hR6 := hk_adf hR5 (d := (1, 401, (0, 1000), (105, 0))) ⟨lt _ (by show 401 < 402; omega), lt _ (by show 0 < 402; omega), lt _ (by show 105 < 402; omega), by
      show r3 401 = (r3 0 + 1000 - (r3 105 + 0)).bmod 4294967296
      rw [d2, kG, k0, Int.add_zero, Int.zero_add]
      exact (Int.bmod_eq_of_le_mul_two (by omega) (by omega)).symm⟩
    have hR7 := hk_le hR6 (x := (401, 1)) (y := (399, 0)) ⟨lt _ (by show 401 < 402; omega), lt _ (by show 399 < 402; omega)⟩ (by
      show r3 401 + 1 ≤ r3 399 + 0
      rw [d2, kx]
      omega)
    have hR7 : ai_Rel D tyc A s sa ws 7 r3 ad lx_L [.inl (0, .ofNat 24)] nl_x4 H locs ls st := hR7
    have e2 : nl_x4.2 = (nl_xb (.ofNat 1) (0, 1000)).2 := by
      show (hg_new (hg_new (nl_xb (.ofNat 1) (0, 1000)) (1001, 2000)) (0, 1000)).2 = _
      rw [nf_n2, nf_n2]
    exact go nl_x4 r3 nl_r4 hR7 (fun u hu => (d1 u (by omega)).trans ((c1 u (by omega)).trans (a1 u hu))) (by show 400 ≤ (hg_new (hg_new (nl_xb (.ofNat 1) (0, 1000)) (1001, 2000)) (0, 1000)).1.1; rw [h3]; omega) (by rw [e2]; exact h0 _ _) (by rw [e2]; exact hc _ _) kx
end NLN
