/-! THE LAW: place -/
noncomputable def lx_zP0 : List (Nat × Nat × Nat) := [(1, 0, 4), (70, 264, 1), (71, 17, 0)]
theorem lx_zp0 : lx_pc lx_zP0 = true := by decide +kernel
noncomputable def lx_zT0 : List (Nat × us_C) := [(38, cn_rework)]
theorem lx_zT0_ok : lt_all 60 lx_zT0 := ⟨cp_rework.mono (by decide), trivial⟩
theorem lx_z00 : lx_zck 0 lx_zT0 bx_0 [] (lx_kJ [] lx_zP0 (73, 0)) lx_z0 = true := by decide +kernel
section LZ0
variable {p : Program} {l : Launch} {e : Env} {R : Room} {s : State} {m : MethodId} {args : Array Value} {below : List Frame} {meth : Method} {c : Code} {Q : State → Prop}
variable {D : va_G} {tyc : Nat → ClassId} {A : Nat → Prop} {sa : ai_B} {ws : va_W} {b Ln z0 v k : Nat} {xs : Nat → Int32}
variable {r : Nat → Int} {ad : Nat → Nat} {H : Heap} {locs : List Loc} {ls : Array Slot} {st : List Value}
set_option maxHeartbeats 2000000 in
theorem lx_placeJ (F : lx_Fr p R s m args meth c D tyc A sa) (hl : l.stackTraces = false) (hRf : 111 ≤ R.frames) (hRl : 8000 ≤ R.locals) (hsa : (z0, b, Ln, xs) ∈ sa.2) (hV : lx_V tyc ws r) (hvk : v ≤ k) (hk4 : k ≤ 4) (hR : ai_Rel D tyc A s sa ws 7 r ad lx_L [.inl (0, .ofNat 0)] (lx_G v 1) H locs ls st) (hi : 0 ≤ r 1 ∧ r 1 + 10 ≤ (Ln : Int)) (h5 : r 1 ≤ 5110) (h110 : r 73 = (k : Int)) (had : ad 0 = b)
    (kn : lx_Kn p l e R s m args below meth c Q D tyc A sa b (r 1)) : W p l e R s m args below meth c H locs 0 0 Q (F0 m 40 ls st) := by
  have hE : ai_gE r (lx_El v 1) := hR.env
  have hR5 := lx_wide (E := lx_El v 1) (E' := lx_E5) (h := lx_h) (c := 0) (sl := 0) (lx_E5e v) (lx_E5_ok hE) hR
  have hN : lx_E5.1 = 382 := lx_E5N
  have hRc := hg_cap_ok hR5 (t := 1) (b := (0, 5110)) (by show 1 < lx_E5.1; rw [hN]; omega) ⟨hi.1, h5⟩
  have hRc : ai_Rel D tyc A s sa ws 7 r ad lx_L [.inl (0, .ofNat 0)] lx_z0 H locs ls st := hRc
  have hN0 : lx_z0.1.1 = 382 := hN
  refine lx_goJ (r := r) (r0 := r) (G := lx_z0) (w := 0) F hl lx_zT0_ok hRf hRl hsa hV.1 hvk hk4 hi h110 had lx_z00 hRc ai_ext.rfl' (by rw [hN0]; exact Nat.le_refl _) (by show 0 < 336; omega) (fun z hz => by cases hz) (fun z hz => by cases hz) (fun f r' ad' H' locs' ls' st' hck x1 hR' => ?_) kn
  rw [hN0] at x1
  exact lx_fullK hE hV.2 (by omega) lx_zp0 hck x1 hR'
end LZ0
