/-! THE LAW: night -/
theorem lx_zn : ∀ q, q < 5 → ∀ m, m < 5 → lx_zck 22 lx_zT22 lx_B22 [] (lx_k22 m) (lx_z22 q m) = true := fun q h => match q, h with
  | 0, _ => lx_zn0
  | 1, _ => lx_zn1
  | 2, _ => lx_zn2
  | 3, _ => lx_zn3
  | 4, _ => lx_zn4
  | n + 5, h => absurd h (by omega)
section LZN
variable {p : Program} {l : Launch} {e : Env} {R : Room} {s : State} {m : MethodId} {args : Array Value} {below : List Frame} {meth : Method} {c : Code} {Q : State → Prop}
variable {D : va_G} {tyc : Nat → ClassId} {A : Nat → Prop} {sa : ai_B} {ws : va_W} {b Ln z0 v k : Nat} {xs : Nat → Int32}
variable {r : Nat → Int} {ad : Nat → Nat} {H : Heap} {locs : List Loc} {ls : Array Slot} {st : List Value}
set_option maxHeartbeats 4000000 in
theorem lx_nightJ (F : lx_Fr p R s m args meth c D tyc A sa) (hl : l.stackTraces = false) (hRf : 111 ≤ R.frames) (hRl : 8000 ≤ R.locals) (hsa : (z0, b, Ln, xs) ∈ sa.2) (hV : lx_V tyc ws r) (hvk : v ≤ k) (hk4 : k ≤ 4) (hR : ai_Rel D tyc A s sa ws 7 r ad lx_L [.inl (0, .ofNat 22)] (lx_G v 1) H locs ls st) (hi : 0 ≤ r 1 ∧ r 1 + 10 ≤ (Ln : Int)) (h5 : r 1 ≤ 5110) (h110 : r 74 = (k : Int)) (had : ad 0 = b)
    (kn : lx_Kn p l e R s m args below meth c Q D tyc A sa b (r 1)) : W p l e R s m args below meth c H locs 0 0 Q (F0 m 40 ls st) := by
  have hE : ai_gE r (lx_El v 1) := hR.env
  have hE5 : ai_gE r lx_E5 := lx_E5_ok hE
  have eN := lx_E5e v
  have hR5 := lx_wide (E := lx_El v 1) (E' := lx_E5) (h := lx_h) (c := 0) (sl := 0) eN hE5 hR
  have hN : lx_E5.1 = 399 := lx_E5N
  have hRc := hg_cap_ok hR5 (t := 1) (b := (0, 5110)) (by show 1 < lx_E5.1; rw [hN]; omega) ⟨hi.1, h5⟩
  have hRc : ai_Rel D tyc A s sa ws 7 r ad lx_L [.inl (0, .ofNat 22)] lx_z0 H locs ls st := hRc
  have bM : 0 ≤ r 72 ∧ r 72 ≤ 4 := (hE5.2.2.2.1 _ lx_zpb.1).2
  have bN : 0 ≤ r 110 := (hE5.2.2.2.1 _ lx_zpb.2).2.1
  obtain ⟨q, hq⟩ : ∃ q : Nat, r 72 = (q : Int) := ⟨(r 72).toNat, by omega⟩
  have hR6 := lx_sp_ok (t := 72) (k := .ofNat q) hRc hq lx_no16
  have hR6' := lx_sp_ok (t := 74) (k := .ofNat k) hR6 h110 (lx_sp16' lx_no16)
  have hR7 := lx_sps2_ok (q := lx_ld0 q) hR6' (fun t ht => by
    unfold lx_ld0 at ht
    obtain ⟨j, hj, rfl⟩ := List.mem_map.mp ht
    obtain ⟨h1, h2⟩ := List.mem_filter.mp hj
    have h2 := Nat.le_of_ble_eq_true h2
    exact lx_Jld hV.2 hE.1 j (List.mem_range.mp h1) (by rw [hq]; omega)) (lx_sp16' (lx_sp16' lx_no16))
  obtain ⟨g1, g2, g3⟩ := lx_sps2E (l := lx_ld0 q) (G := lx_sp 74 (.ofNat k) (lx_sp 72 (.ofNat q) lx_z0))
  have hR8 := hg_cap_ok hR7 (t := 110) (b := (0, (k : Int))) (by rw [g1]; show 110 < lx_E5.1; rw [hN]; omega) ⟨bN, by show r 110 ≤ (k : Int); rw [← h110]; exact lx_Jnm hV.2 hE.1⟩
  have gN : (lx_z22 q k).1.1 = 399 := by
    show (lx_sps2 (lx_ld0 q) (lx_sp 74 (.ofNat k) (lx_sp 72 (.ofNat q) lx_z0))).1.1 = _
    rw [g1]
    exact hN
  have gh : (lx_z22 q k).2.1.1 = 336 := by
    show (lx_sps2 (lx_ld0 q) (lx_sp 74 (.ofNat k) (lx_sp 72 (.ofNat q) lx_z0))).2.1.1 = _
    rw [g2]
    rfl
  have gc : (lx_z22 q k).2.2 = (0, 0) := by
    show (lx_sps2 (lx_ld0 q) (lx_sp 74 (.ofNat k) (lx_sp 72 (.ofNat q) lx_z0))).2.2 = _
    rw [g3]
    rfl
  have res := lx_goJ (r := r) (r0 := r) (G := lx_z22 q k) (w := 22) F hl lx_zT22_ok hRf hRl hsa hV.1 hvk hk4 hi h110 had (lx_zn q (by omega) k (by omega)) hR8 ai_ext.rfl' (by rw [gN]; exact Nat.le_refl _) (by rw [gh]; omega) (fun z hz => by cases hz) (fun z hz => by cases hz) (fun f r' ad' H' locs' ls' st' hck x1 hR' => ?_) kn
  · rw [gc] at res
    exact res
  rw [gN] at x1
  obtain ⟨e1, e2, e3, r2, hR2, s1, s2, J2⟩ := lx_fullK hE hV.2 (by omega) lx_zp22 hck x1 hR'
  refine ⟨e1, e2, e3, r2, hR2, s1, ?_, J2⟩
  rw [s2, x1 74 (by omega), h110]
  show r' 0 + (k : Int) = (k : Int) + 0
  rw [hR'.env.1]
  omega
end LZN
