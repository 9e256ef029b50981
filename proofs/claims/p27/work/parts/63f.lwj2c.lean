/-! THE LAW: write -/
theorem lx_zw : ∀ q, q < 12 → lx_zck 4 lx_zT4 lx_zB4 [(1, (0, .ofNat q))] (lx_k4 q) lx_z0 = true := fun q h => match q, h with
  | 0, _ => lx_zw_0
  | 1, _ => lx_zw_1
  | 2, _ => lx_zw_2
  | 3, _ => lx_zw_3
  | 4, _ => lx_zw_4
  | 5, _ => lx_zw_5
  | 6, _ => lx_zw_6
  | 7, _ => lx_zw_7
  | 8, _ => lx_zw_8
  | 9, _ => lx_zw_9
  | 10, _ => lx_zw_10
  | 11, _ => lx_zw_11
  | n + 12, h => absurd h (by omega)
section LZ4
variable {p : Program} {l : Launch} {e : Env} {R : Room} {s : State} {m : MethodId} {args : Array Value} {below : List Frame} {meth : Method} {c : Code} {Q : State → Prop}
variable {D : va_G} {tyc : Nat → ClassId} {A : Nat → Prop} {sa : ai_B} {ws : va_W} {b Ln z0 v k : Nat} {xs : Nat → Int32}
variable {r : Nat → Int} {ad : Nat → Nat} {H : Heap} {locs : List Loc} {ls : Array Slot} {st : List Value}
set_option maxHeartbeats 4000000 in
theorem lx_writeJ (F : lx_Fr p R s m args meth c D tyc A sa) (hl : l.stackTraces = false) (hRf : 111 ≤ R.frames) (hRl : 8000 ≤ R.locals) (hsa : (z0, b, Ln, xs) ∈ sa.2) (hV : lx_V tyc ws r) (hvk : v ≤ k) (hk4 : k ≤ 4) (hR : ai_Rel D tyc A s sa ws 7 r ad lx_L [.inl (0, .ofNat 4)] (lx_G v 1) H locs ls st) (hi : 0 ≤ r 1 ∧ r 1 + 10 ≤ (Ln : Int)) (h5 : r 1 ≤ 5110) (h110 : r 74 = (k : Int)) (had : ad 0 = b)
    (kn : lx_Kn p l e R s m args below meth c Q D tyc A sa b (r 1)) : W p l e R s m args below meth c H locs 0 0 Q (F0 m 40 ls st) := by
  have hE : ai_gE r (lx_El v 1) := hR.env
  have hE5 : ai_gE r lx_E5 := lx_E5_ok hE
  have eN := lx_E5e v
  have hR5 := lx_wide (E := lx_El v 1) (E' := lx_E5) (h := lx_h) (c := 0) (sl := 0) eN hE5 hR
  have hN : lx_E5.1 = 399 := lx_E5N
  have hRc := hg_cap_ok hR5 (t := 1) (b := (0, 5110)) (by show 1 < lx_E5.1; rw [hN]; omega) ⟨hi.1, h5⟩
  have hRc : ai_Rel D tyc A s sa ws 7 r ad lx_L [.inl (0, .ofNat 4)] lx_z0 H locs ls st := hRc
  have hN0 : lx_z0.1.1 = 399 := hN
  obtain ⟨x, hx⟩ : ∃ x : Int, x = (xs (r 1 + 1).toNat).toInt := ⟨_, rfl⟩
  have x32 : ai_lo32 ≤ x ∧ x ≤ ai_hi32 := by rw [hx]; exact ai_i32 _
  have out : ∀ z : Int × Int, (z.1 ≤ x ∧ x ≤ z.2) → lx_zck 4 lx_zT4 bx_0 [(1, (399, 0))] lx_k4n (hg_new lx_z0 z) = true → W p l e R s m args below meth c H locs 0 0 Q (F0 m 40 ls st) := fun z hz hck => by
    obtain ⟨r1, a1, a2, hR1⟩ := hk_add hRc (q := z) (x := x) hz (ai_small32 x32)
    rw [hN0] at a1 a2
    have gN : (hg_new lx_z0 z).1.1 = 400 := by rw [cy_newN, hN0]
    refine lx_goJ (r := r) (r0 := r1) (G := hg_new lx_z0 z) (w := 4) F hl lx_zT4_ok hRf hRl hsa hV.1 hvk hk4 hi h110 had hck hR1 a1 (by rw [gN]; omega) (by show 0 < 336; omega) (fun q hq => ?_) (fun q hq => ?_) (fun f r' ad' H' locs' ls' st' hck2 x1 hR' => ?_) kn
    · rcases List.mem_cons.mp hq with rfl | hq
      · show r1 399 + 0 = _
        rw [a2, Int.add_zero]
        exact hx
      · cases hq
    · rcases List.mem_cons.mp hq with rfl | hq
      · rw [gN]
        show 399 < 400
        omega
      · cases hq
    · rw [gN] at x1
      exact lx_fullK hE hV.2 (by omega) (lx_zp4 0) hck2 (fun u hu => (x1 u (by omega)).trans (a1 u hu)) hR'
  by_cases p1 : x ≤ -1
  · exact out (ai_lo32, -1) ⟨x32.1, p1⟩ lx_zw_lo
  by_cases p2 : 12 ≤ x
  · exact out (12, ai_hi32) ⟨p2, x32.2⟩ lx_zw_hi
  obtain ⟨q, hq⟩ : ∃ q : Nat, x = (q : Int) := ⟨x.toNat, by omega⟩
  refine lx_goJ (r := r) (r0 := r) (G := lx_z0) (w := 4) F hl lx_zT4_ok hRf hRl hsa hV.1 hvk hk4 hi h110 had (lx_zw q (by omega)) hRc ai_ext.rfl' (by rw [hN0]; exact Nat.le_refl _) (by show 0 < 336; omega) (fun z hz => ?_) (fun z hz => ?_) (fun f r' ad' H' locs' ls' st' hck x1 hR' => ?_) kn
  · rcases List.mem_cons.mp hz with rfl | hz
    · show r 0 + (q : Int) = _
      rw [hE.1, Int.zero_add, ← hq]
      exact hx
    · cases hz
  · rcases List.mem_cons.mp hz with rfl | hz
    · show 0 < lx_z0.1.1
      rw [hN0]
      omega
    · cases hz
  rw [hN0] at x1
  exact lx_fullK hE hV.2 (by omega) (lx_zp4 q) hck x1 hR'
end LZ4
