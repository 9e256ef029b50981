/-! line by its contracts -/
noncomputable def lk_rdab : List (Int × ai_X) := [(1, (188, 0)), (2, (188, 0)), (3, (190, 0)), (4, (191, 0))]
theorem lk_f1_a0 : gq_frow 1 gq_rd [(188, (-2147483648, -1))] [] [] lk_Pf = true := by decide +kernel
theorem lk_f1_a1 : gq_frow 1 gq_rd [(188, (0, 2147483647))] [((122, 0), (188, 0))] [] lk_Pf = true := by decide +kernel
theorem lk_f1_b0 : gq_frow 1 gq_rd [(188, (0, 3)), (189, (-2147483648, -1))] [((188, 1), (122, 0))] [] lk_Pf = true := by decide +kernel
theorem lk_f1_b1 : gq_frow 1 gq_rd [(188, (0, 3)), (189, (0, 2147483647))] [((188, 1), (122, 0)), ((122, 0), (189, 0))] [] lk_Pf = true := by decide +kernel
theorem lk_f1_ab : gq_frow 1 lk_rdab [(188, (0, 3))] [((188, 1), (122, 0))] [] lk_Pf = true := by decide +kernel
theorem lk_f1_s0l : gq_frow 1 gq_rd [(188, (0, 3)), (189, (0, 3)), (190, (-2147483648, 0))] [((188, 1), (122, 0)), ((189, 1), (122, 0)), ((188, 1), (189, 0))] [] lk_Pf = true := by decide +kernel
theorem lk_f1_s1l : gq_frow 1 gq_rd [(188, (0, 3)), (189, (0, 3)), (190, (10, 2147483647))] [((188, 1), (122, 0)), ((189, 1), (122, 0)), ((188, 1), (189, 0))] [] lk_Pf = true := by decide +kernel
theorem lk_f1_m0l : gq_frow 1 gq_rd [(188, (0, 3)), (189, (0, 3)), (190, (1, 9)), (191, (-2147483648, -1))] [((188, 1), (122, 0)), ((189, 1), (122, 0)), ((188, 1), (189, 0))] [] lk_Pf = true := by decide +kernel
theorem lk_f1_m1l : gq_frow 1 gq_rd [(188, (0, 3)), (189, (0, 3)), (190, (1, 9)), (191, (100, 2147483647))] [((188, 1), (122, 0)), ((189, 1), (122, 0)), ((188, 1), (189, 0))] [] lk_Pf = true := by decide +kernel
theorem lk_f1_lnl : gq_frow 1 gq_rd [(123, (5, 5)), (188, (0, 3)), (189, (0, 3)), (190, (1, 9)), (191, (0, 99))] [((188, 1), (122, 0)), ((189, 1), (122, 0)), ((188, 1), (189, 0))] [] lk_Pf = true := by decide +kernel
theorem lk_f1_s0g : gq_frow 1 gq_rd [(188, (0, 3)), (189, (0, 3)), (190, (-2147483648, 0))] [((188, 1), (122, 0)), ((189, 1), (122, 0)), ((189, 1), (188, 0))] [] lk_Pf = true := by decide +kernel
theorem lk_f1_s1g : gq_frow 1 gq_rd [(188, (0, 3)), (189, (0, 3)), (190, (10, 2147483647))] [((188, 1), (122, 0)), ((189, 1), (122, 0)), ((189, 1), (188, 0))] [] lk_Pf = true := by decide +kernel
theorem lk_f1_m0g : gq_frow 1 gq_rd [(188, (0, 3)), (189, (0, 3)), (190, (1, 9)), (191, (-2147483648, -1))] [((188, 1), (122, 0)), ((189, 1), (122, 0)), ((189, 1), (188, 0))] [] lk_Pf = true := by decide +kernel
theorem lk_f1_m1g : gq_frow 1 gq_rd [(188, (0, 3)), (189, (0, 3)), (190, (1, 9)), (191, (100, 2147483647))] [((188, 1), (122, 0)), ((189, 1), (122, 0)), ((189, 1), (188, 0))] [] lk_Pf = true := by decide +kernel
theorem lk_f1_lng : gq_frow 1 gq_rd [(123, (5, 5)), (188, (0, 3)), (189, (0, 3)), (190, (1, 9)), (191, (0, 99))] [((188, 1), (122, 0)), ((189, 1), (122, 0)), ((189, 1), (188, 0))] [] lk_Pf = true := by decide +kernel
theorem lk_f12_l0 : gq_frow 12 gq_rd [(188, (-2147483648, -1))] [] [] lk_Pf = true := by decide +kernel
theorem lk_f12_l1 : gq_frow 12 gq_rd [(188, (0, 2147483647))] [((123, 0), (188, 0))] [] lk_Pf = true := by decide +kernel
theorem lk_f12_a0 : gq_frow 12 gq_rd [(188, (0, 4)), (189, (-2147483648, -1))] [((188, 1), (123, 0))] [] lk_Pf = true := by decide +kernel
theorem lk_f12_a1 : gq_frow 12 gq_rd [(188, (0, 4)), (189, (0, 2147483647))] [((188, 1), (123, 0)), ((122, 0), (189, 0))] [] lk_Pf = true := by decide +kernel
theorem lk_f12_b0 : gq_frow 12 gq_rd [(188, (0, 4)), (189, (0, 3)), (190, (-2147483648, -1))] [((188, 1), (123, 0)), ((189, 1), (122, 0))] [] lk_Pf = true := by decide +kernel
theorem lk_f12_b1 : gq_frow 12 gq_rd [(188, (0, 4)), (189, (0, 3)), (190, (0, 2147483647))] [((188, 1), (123, 0)), ((189, 1), (122, 0)), ((122, 0), (190, 0))] [] lk_Pf = true := by decide +kernel
theorem lk_f12_w0 : gq_frow 12 gq_rd [(188, (0, 4)), (189, (0, 3)), (190, (0, 3)), (191, (-2147483648, -1))] [((188, 1), (123, 0)), ((189, 1), (122, 0)), ((190, 1), (122, 0))] [] lk_Pf = true := by decide +kernel
theorem lk_f12_w1 : gq_frow 12 gq_rd [(188, (0, 4)), (189, (0, 3)), (190, (0, 3)), (191, (2, 2147483647))] [((188, 1), (123, 0)), ((189, 1), (122, 0)), ((190, 1), (122, 0))] [] lk_Pf = true := by decide +kernel
theorem lk_ik1 : gq_ik gq_E lx_h (fun _ => true) lk_p1 lk_X1 lk_A1 raY = true := by decide +kernel
theorem lk_ik2 : gq_ik gq_E lx_h (gq_ot raY) lk_p2 lk_X2 lk_A2 rbY = true := by decide +kernel
theorem lk_gn : ((gq_gn raY && gq_gn rbY) && (raY.2.2.1.all (gq_g1 lx_h (fun _ => true)) && rbY.2.2.1.all (gq_g1 lx_h (gq_ot raY)))) = true := by decide +kernel
theorem lk_lc1 : gq_ck1 raY rbY lk_p1 lk_p2 lk_X1 lk_X2 lk_A1 lk_A2 = true := by
  unfold gq_ck1
  rw [lk_ik1, lk_ik2, lk_gn]
  rfl
theorem lk_lrow : gq_row 1 227 258 true raY [ra_335, ra_i 329, ra_i 328, ra_i 327, ra_i 326, ra_16] (ra_nL ++ [ra_335]) lk_A1 (0, 0) (1, 6) 257 175 false rbY [ra_i 342, ra_i 341, ra_i 340, ra_i 339, rb_264] rb_eL lk_A2 (0, 0) (198, 0) [] lx_h [] lk_Pf = true := by decide +kernel
theorem lk_i32 {r : Nat → Int} (hE : ai_gE r gq_E) {t : Nat} (h : 188 ≤ t ∧ t < 199) : -2147483648 ≤ r t ∧ r t ≤ 2147483647 := by
  have w : ∀ j ∈ List.range 11, (188 + j, ((-2147483648 : Int), (2147483647 : Int))) ∈ gq_E.2.1 := by decide +kernel
  have g := (hE.2.2.2.1 _ (w (t - 188) (List.mem_range.mpr (by omega)))).2
  rw [show 188 + (t - 188) = t by omega] at g
  exact g
theorem lk_m5 {α : Type} {p : α → Prop} {a b c d e : α} (h1 : p a) (h2 : p b) (h3 : p c) (h4 : p d) (h5 : p e) : ∀ x ∈ [a, b, c, d, e], p x := fun x hx => by
  rcases List.mem_cons.mp hx with rfl | hx
  · exact h1
  · exact pt_m4 h2 h3 h4 h5 x hx
section LKL
variable {r4 : Nat → Int} {cc : Nat → Nat → Int}
theorem lk_a1 : gq_rn r4 cc lk_p1 lk_X1 lk_A1 raY.1 326 = r4 188 ∧ gq_rn r4 cc lk_p1 lk_X1 lk_A1 raY.1 327 = r4 189 ∧ gq_rn r4 cc lk_p1 lk_X1 lk_A1 raY.1 328 = r4 190 ∧ gq_rn r4 cc lk_p1 lk_X1 lk_A1 raY.1 329 = r4 191 := by
  have g := gq_ik_A (r := r4) (c := cc) lk_ik1
  have k : ∀ a b, (a, ((b, 0) : ai_X)) ∈ lk_A1 → gq_rn r4 cc lk_p1 lk_X1 lk_A1 raY.1 a = r4 b := fun a b h => (g _ h).2.trans (Int.add_zero _)
  exact ⟨k _ _ (by simp [lk_A1]), k _ _ (by simp [lk_A1]), k _ _ (by simp [lk_A1]), k _ _ (by simp [lk_A1])⟩
theorem lk_a2 {a : Int} : gq_rn (pt_set r4 197 a) cc lk_p2 lk_X2 lk_A2 rbY.1 339 = r4 188 ∧ gq_rn (pt_set r4 197 a) cc lk_p2 lk_X2 lk_A2 rbY.1 340 = r4 189 ∧ gq_rn (pt_set r4 197 a) cc lk_p2 lk_X2 lk_A2 rbY.1 341 = r4 190 ∧ gq_rn (pt_set r4 197 a) cc lk_p2 lk_X2 lk_A2 rbY.1 342 = r4 191 := by
  have g := gq_ik_A (r := pt_set r4 197 a) (c := cc) lk_ik2
  have k : ∀ u b, b ≠ 197 → (u, ((b, 0) : ai_X)) ∈ lk_A2 → gq_rn (pt_set r4 197 a) cc lk_p2 lk_X2 lk_A2 rbY.1 u = r4 b := fun u b hb h => (g _ h).2.trans ((Int.add_zero _).trans (if_neg hb))
  exact ⟨k _ _ (by omega) (by simp [lk_A2]), k _ _ (by omega) (by simp [lk_A2]), k _ _ (by omega) (by simp [lk_A2]), k _ _ (by omega) (by simp [lk_A2])⟩
theorem lk_up1 {r : Nat → Int} {ln t : Nat} : pt_up r (ra_l2 ln) t = if t = 123 then ((ln + 1 : Nat) : Int) else if t = 164 + ln then r 326 else if t = 169 + ln then r 327 else if t = 174 + ln then r 328 else if t = 320 + ln then r 329 else r t := rfl
theorem lk_up2 {r : Nat → Int} {ln t : Nat} : pt_up r (rb_eW ln) t = if t = 121 then 0 else if t = 123 then ((ln + 1 : Nat) : Int) else if t = 164 + ln then r 339 else if t = 169 + ln then r 340 else if t = 174 + ln then r 341 else if t = 333 + ln then r 342 else r t := rfl
end LKL
section LKM
variable {p : Program} {l : Launch} {e : Env} {R : Room} {s : State} {m : MethodId} {args : Array Value} {below : List Frame} {meth : Method} {c : Code} {Q : State → Prop}
variable {D : va_G} {tyc : Nat → ClassId} {A : Nat → Prop} {sa : ai_B} {ws : va_W} {b Ln z0 v k : Nat} {xs : Nat → Int32}
variable {r : Nat → Int} {ad : Nat → Nat} {H : Heap} {locs : List Loc} {ls : Array Slot} {st : List Value}
set_option maxHeartbeats 8000000 in
theorem lx_lineL (F : lx_Fr p R s m args meth c D tyc A sa) (hl : l.stackTraces = false) (hRf : 111 ≤ R.frames) (hRl : 8000 ≤ R.locals) (hsa : (z0, b, Ln, xs) ∈ sa.2) (hV : lx_V tyc ws r) (hvk : v ≤ k) (hk4 : k ≤ 4) (hR : ai_Rel D tyc A s sa ws 7 r ad lx_L [.inl (0, .ofNat 1)] (lx_G v 1) H locs ls st) (hi : 0 ≤ r 1 ∧ r 1 + 10 ≤ (Ln : Int)) (h5 : r 1 ≤ 5110) (h110 : r 124 = (k : Int)) (had : ad 0 = b)
    (kn : lx_Kn p l e R s m args below meth c Q D tyc A sa b (r 1)) : W p l e R s m args below meth c H locs 0 0 Q (F0 m 40 ls st) := by
  have hE : ai_gE r (lx_El v 1) := hR.env
  obtain ⟨x4, hrd, hR4⟩ := gq_start (xs := xs) hE ⟨hi.1, h5⟩ hR
  generalize gq_r4 r xs = r4 at x4 hrd hR4
  have hE4 : ai_gE r4 gq_E := hR4.env
  obtain ⟨bp, bl, b3⟩ := lk_bd hE4
  have i1 := lk_i32 hE4 (t := 188) (by omega)
  have i2 := lk_i32 hE4 (t := 189) (by omega)
  have i3 := lk_i32 hE4 (t := 190) (by omega)
  have i4 := lk_i32 hE4 (t := 191) (by omega)
  have J4 : lx_J r4 := lx_J_keep hV.2 (fun t ht => x4 t (by
    have w : lx_Jt.all (fun t => Nat.blt t 188) = true := by decide +kernel
    exact Nat.le_of_ble_eq_true (List.all_eq_true.mp w t ht)))
  have fail : ∀ {rd : List (Int × ai_X)} {cp : List (Nat × Int × Int)} {le : List (ai_X × ai_X)}, (∀ q ∈ rd, ai_vx r4 q.2 = (xs (r 1 + q.1).toNat).toInt) → (rd.all (fun q => Nat.blt q.2.1 199) && (cp.all (fun q => Nat.blt q.1 199) && le.all (fun q => Nat.blt q.1.1 199 && Nat.blt q.2.1 199))) = true → gq_frow 1 rd cp le [] lk_Pf = true → pt_asm r4 [] cp le → W p l e R s m args below meth c H locs 0 0 Q (F0 m 40 ls st) := fun h1 h2 h3 h4 => gq_fail F hl hRf hRl hsa hV hvk hk4 hE x4 hR4 hi h110 had kn lk_Pfok h1 h2 h3 h4
  have le1 : ∀ {a b : Nat}, r4 a + 1 ≤ r4 b → ai_vx r4 (a, 1) ≤ ai_vx r4 (b, 0) := fun {a b} h => by
    show r4 a + 1 ≤ r4 b + 0
    omega
  have le0 : ∀ {a b : Nat}, r4 a ≤ r4 b → ai_vx r4 (a, 0) ≤ ai_vx r4 (b, 0) := fun {a b} h => by
    show r4 a + 0 ≤ r4 b + 0
    omega
  by_cases a0 : r4 188 ≤ -1
  · exact fail hrd (by decide +kernel) lk_f1_a0 ⟨pt_m0, pt_m1 ⟨i1.1, a0⟩, pt_m0⟩
  have a0 : 0 ≤ r4 188 := by omega
  by_cases a1 : r4 122 ≤ r4 188
  · exact fail hrd (by decide +kernel) lk_f1_a1 ⟨pt_m0, pt_m1 ⟨a0, i1.2⟩, pt_m1 (le0 a1)⟩
  have a1 : r4 188 + 1 ≤ r4 122 := by omega
  have a3 : r4 188 ≤ 3 := by omega
  by_cases b0 : r4 189 ≤ -1
  · exact fail hrd (by decide +kernel) lk_f1_b0 ⟨pt_m0, pt_m2 ⟨a0, a3⟩ ⟨i2.1, b0⟩, pt_m1 (le1 a1)⟩
  have b0 : 0 ≤ r4 189 := by omega
  by_cases b1 : r4 122 ≤ r4 189
  · exact fail hrd (by decide +kernel) lk_f1_b1 ⟨pt_m0, pt_m2 ⟨a0, a3⟩ ⟨b0, i2.2⟩, pt_m2 (le1 a1) (le0 b1)⟩
  have b1 : r4 189 + 1 ≤ r4 122 := by omega
  have b3' : r4 189 ≤ 3 := by omega
  by_cases ab : r4 188 = r4 189
  · refine fail (rd := lk_rdab) (fun q hq => ?_) (by decide +kernel) lk_f1_ab ⟨pt_m0, pt_m1 ⟨a0, a3⟩, pt_m1 (le1 a1)⟩
    have g : ∀ q ∈ gq_rd, ai_vx r4 q.2 = (xs (r 1 + q.1).toNat).toInt := hrd
    unfold lk_rdab at hq
    simp only [List.mem_cons, List.not_mem_nil, or_false] at hq
    rcases hq with rfl | rfl | rfl | rfl
    · exact g (1, (188, 0)) (by simp [gq_rd])
    · have := g (2, (189, 0)) (by simp [gq_rd])
      rw [← this]
      show r4 188 + 0 = r4 189 + 0
      rw [ab]
    · exact g (3, (190, 0)) (by simp [gq_rd])
    · exact g (4, (191, 0)) (by simp [gq_rd])
  have lt : r4 188 + 1 ≤ r4 189 ∨ r4 189 + 1 ≤ r4 188 := by omega
  by_cases s0 : r4 190 ≤ 0
  · rcases lt with lt | lt
    · exact fail hrd (by decide +kernel) lk_f1_s0l ⟨pt_m0, pt_m3 ⟨a0, a3⟩ ⟨b0, b3'⟩ ⟨i3.1, s0⟩, pt_m3 (le1 a1) (le1 b1) (le1 lt)⟩
    · exact fail hrd (by decide +kernel) lk_f1_s0g ⟨pt_m0, pt_m3 ⟨a0, a3⟩ ⟨b0, b3'⟩ ⟨i3.1, s0⟩, pt_m3 (le1 a1) (le1 b1) (le1 lt)⟩
  have s0 : 1 ≤ r4 190 := by omega
  by_cases s1 : 10 ≤ r4 190
  · rcases lt with lt | lt
    · exact fail hrd (by decide +kernel) lk_f1_s1l ⟨pt_m0, pt_m3 ⟨a0, a3⟩ ⟨b0, b3'⟩ ⟨s1, i3.2⟩, pt_m3 (le1 a1) (le1 b1) (le1 lt)⟩
    · exact fail hrd (by decide +kernel) lk_f1_s1g ⟨pt_m0, pt_m3 ⟨a0, a3⟩ ⟨b0, b3'⟩ ⟨s1, i3.2⟩, pt_m3 (le1 a1) (le1 b1) (le1 lt)⟩
  have s1 : r4 190 ≤ 9 := by omega
  by_cases m0 : r4 191 ≤ -1
  · rcases lt with lt | lt
    · exact fail hrd (by decide +kernel) lk_f1_m0l ⟨pt_m0, pt_m4 ⟨a0, a3⟩ ⟨b0, b3'⟩ ⟨s0, s1⟩ ⟨i4.1, m0⟩, pt_m3 (le1 a1) (le1 b1) (le1 lt)⟩
    · exact fail hrd (by decide +kernel) lk_f1_m0g ⟨pt_m0, pt_m4 ⟨a0, a3⟩ ⟨b0, b3'⟩ ⟨s0, s1⟩ ⟨i4.1, m0⟩, pt_m3 (le1 a1) (le1 b1) (le1 lt)⟩
  have m0 : 0 ≤ r4 191 := by omega
  by_cases m1 : 100 ≤ r4 191
  · rcases lt with lt | lt
    · exact fail hrd (by decide +kernel) lk_f1_m1l ⟨pt_m0, pt_m4 ⟨a0, a3⟩ ⟨b0, b3'⟩ ⟨s0, s1⟩ ⟨m1, i4.2⟩, pt_m3 (le1 a1) (le1 b1) (le1 lt)⟩
    · exact fail hrd (by decide +kernel) lk_f1_m1g ⟨pt_m0, pt_m4 ⟨a0, a3⟩ ⟨b0, b3'⟩ ⟨s0, s1⟩ ⟨m1, i4.2⟩, pt_m3 (le1 a1) (le1 b1) (le1 lt)⟩
  have m1 : r4 191 ≤ 99 := by omega
  by_cases n5 : 5 ≤ r4 123
  · have n5' : r4 123 ≤ 5 := bl.2
    rcases lt with lt | lt
    · exact fail hrd (by decide +kernel) lk_f1_lnl ⟨pt_m0, lk_m5 ⟨n5, n5'⟩ ⟨a0, a3⟩ ⟨b0, b3'⟩ ⟨s0, s1⟩ ⟨m0, m1⟩, pt_m3 (le1 a1) (le1 b1) (le1 lt)⟩
    · exact fail hrd (by decide +kernel) lk_f1_lng ⟨pt_m0, lk_m5 ⟨n5, n5'⟩ ⟨a0, a3⟩ ⟨b0, b3'⟩ ⟨s0, s1⟩ ⟨m0, m1⟩, pt_m3 (le1 a1) (le1 b1) (le1 lt)⟩
  have n5 : r4 123 ≤ 4 := by omega
  refine gq_two (p1 := lk_p1) (p2 := lk_p2) (X1 := lk_X1) (X2 := lk_X2) (AL1 := lk_A1) (AL2 := lk_A2) (P0 := lk_P0) (P1 := lk_p1) (P2 := lk_p2) (x1 := (0, 0)) (x2 := (198, 0)) (b1 := (1, 6)) (b2 := (0, 0)) (XF := []) (XG1 := []) (XG2 := []) (hF := lx_h) (sp3 := []) (C := []) (Pf := lk_Pf) F hl hRf hRl hsa hV hvk hk4 hE x4 hrd hR4 hi h110 had rasys (ra_helpLine (n := 8) (by omega)) ⟨by show 9 + 0 + 8 + 1 ≤ 111; omega, by show 64 * (9 + 0) + 400 + 64 ≤ 8000; omega⟩ lk_hp1 rbsys (rb_line (n := 7) (by omega)) ⟨by show 8 + 0 + 8 + 1 ≤ 111; omega, by show 64 * (8 + 0) + 400 + 64 ≤ 8000; omega⟩ lk_hp2 lk_bud.2.2.1 lk_bud.2.2.2.1 rfl rfl rfl lk_hB lk_Pfok lk_lc1 lk_pc2 lk_pcv (gq_row_of lk_lrow) (fun cc _ => ?_) (fun cc _ r2 M2 v1 po1 hE2 hv1 => ?_) kn
  · obtain ⟨e1, e2, e3, e4⟩ := lk_a1 (r4 := r4) (cc := cc)
    refine ⟨fun l hl hn => ?_, ?_, ?_, ?_, ?_, ?_, ?_, ?_, ?_⟩
    · rw [lk_r1 (lk_in1 (by omega))] at hn
      rw [lk_r1 (lk_in1 (by omega)), lk_r1 (lk_in1 (by omega))]
      exact (J4.1 l hl hn).1
    · rw [lk_r1 (lk_in1 (by omega))]
      exact n5
    · rw [e1]
      exact ⟨a0, a3⟩
    · rw [e2]
      exact ⟨b0, b3'⟩
    · rw [e3]
      exact ⟨s0, s1⟩
    · rw [e4]
      exact ⟨m0, m1⟩
    · rw [e1, e2]
      exact ab
    · rw [e1, lk_r1 (lk_in1 (by omega))]
      exact a1
    · rw [e2, lk_r1 (lk_in1 (by omega))]
      exact b1
  obtain ⟨rn, hrn⟩ : ∃ rn, rn = gq_rn r4 cc lk_p1 lk_X1 lk_A1 raY.1 := ⟨_, rfl⟩
  obtain ⟨e1, e2, e3, e4⟩ := lk_a1 (r4 := r4) (cc := cc)
  rw [← hrn] at po1 e1 e2 e3 e4
  have n1 : ∀ t, lk_p1 t = true → rn t = r4 t := fun t ht => by
    rw [hrn]
    exact lk_r1 ht
  obtain ⟨hv, r1, w, ⟨ln, l5, e123, -, -, -, view, keep⟩, -, hk⟩ := po1
  have e123 : r4 123 = (ln : Int) := by
    rw [← n1 123 (lk_in1 (by omega))]
    exact e123
  obtain ⟨B, hB⟩ : ∃ B, B = pt_up rn (ra_l2 ln) := ⟨_, rfl⟩
  have Bv : ∀ t, B t = if t = 123 then ((ln + 1 : Nat) : Int) else if t = 164 + ln then r4 188 else if t = 169 + ln then r4 189 else if t = 174 + ln then r4 190 else if t = 320 + ln then rn 329 else rn t := fun t => by
    rw [hB, lk_up1, e1, e2, e3]
  rw [← hB] at view keep
  have k2 : ∀ t, lk_p1 t = true → ¬ (8 ≤ t ∧ t < 29) → r2 t = B t := fun t ht h2 => by
    have := lk_bt_lt ht
    rw [hk t (by omega) (by omega)]
    exact keep t (lk_keep this h2)
  refine ⟨0, ?_, by decide, ?_, fun r3 M3 v2 po2 hE3 hv2 => ?_⟩
  · rw [hv]
    refine congrArg some ?_
    show (0 : Int) = pt_set r4 197 0 0 + 0
    have : pt_set r4 197 0 0 = r4 0 := if_neg (by omega)
    rw [this, hE4.1]
    rfl
  · obtain ⟨g1, g2, g3, g4⟩ := lk_a2 (r4 := r4) (cc := cc) (a := 0)
    refine ⟨?_, ?_, ?_, ?_, ?_, ?_, ?_, ?_⟩
    · rw [lk_r2 (lk_in2 (by omega))]
      exact n5
    · rw [g1]
      exact ⟨a0, a3⟩
    · rw [g2]
      exact ⟨b0, b3'⟩
    · rw [g3]
      exact ⟨s0, s1⟩
    · rw [g4]
      exact ⟨m0, m1⟩
    · rw [g1, g2]
      exact ab
    · rw [g1, lk_r2 (lk_in2 (by omega))]
      exact a1
    · rw [g2, lk_r2 (lk_in2 (by omega))]
      exact b1
  obtain ⟨g1, g2, g3, g4⟩ := lk_a2 (r4 := r4) (cc := cc) (a := 0)
  obtain ⟨ln2, -, f123, u1, -, u2⟩ := po2
  have f123 : r4 123 = (ln2 : Int) := by
    rw [← lk_r2 (r4 := r4) (cc := cc) (X := lk_X2) (AL := lk_A2) (E' := rbY.1) (t := 123) (lk_in2 (by omega)) (a := 0)]
    exact f123
  have el : ln2 = ln := by omega
  subst el
  have B2v : ∀ t, lk_p2 t = true → r3 t = if t = 121 then 0 else if t = 123 then ((ln2 + 1 : Nat) : Int) else if t = 164 + ln2 then r4 188 else if t = 169 + ln2 then r4 189 else if t = 174 + ln2 then r4 190 else r4 t := fun t ht => by
    have h187 := lk_bt_lt ht
    rw [u2 t (by omega), lk_up2, g1, g2, g3, if_neg (show ¬ t = 333 + ln2 by omega), lk_r2 ht]
  obtain ⟨rF, hrF⟩ : ∃ rF : Nat → Int, rF = fun t => if t = 197 then 0 else if t = 198 then r4 123 else if t = 121 then 0 else if lk_p1 t = true then r2 t else r4 t := ⟨_, rfl⟩
  have f1 : ∀ t, lk_p1 t = true → rF t = r2 t := fun t ht => by
    have h187 := lk_bt_lt ht
    have h121 : t ≠ 121 := fun q => by
      rw [q, lk_p1n] at ht
      cases ht
    rw [hrF]
    show (if t = 197 then 0 else if t = 198 then r4 123 else if t = 121 then 0 else if lk_p1 t = true then r2 t else r4 t) = _
    rw [if_neg (by omega), if_neg (by omega), if_neg h121, if_pos ht]
  have f0 : ∀ t, t < 197 → t ≠ 121 → ¬ (8 ≤ t ∧ t < 29) → t ≠ 123 → t ≠ 164 + ln2 → t ≠ 169 + ln2 → t ≠ 174 + ln2 → rF t = r4 t := fun t h1 h2 h3 h4 h5 h6 h7 => by
    by_cases ht : lk_p1 t = true
    · have h187 := lk_bt_lt ht
      rw [f1 t ht, k2 t ht h3, Bv, if_neg h4, if_neg h5, if_neg h6, if_neg h7, if_neg (by omega), n1 t ht]
    · rw [hrF]
      show (if t = 197 then 0 else if t = 198 then r4 123 else if t = 121 then 0 else if lk_p1 t = true then r2 t else r4 t) = _
      rw [if_neg (by omega), if_neg (by omega), if_neg h2, if_neg ht]
  have fl : ∀ t, lk_ld t → rF t = B t := fun t ht => by
    rw [f1 t (lk_l1 ht)]
    exact k2 t (lk_l1 ht) (by unfold lk_ld at ht; omega)
  have f121 : rF 121 = 0 := by
    rw [hrF]
    rfl
  have f197 : rF 197 = 0 := by
    rw [hrF]
    rfl
  have f198 : rF 198 = r4 123 := by
    rw [hrF]
    rfl
  have F123 : rF 123 = ((ln2 + 1 : Nat) : Int) := by
    rw [fl 123 (Or.inr (Or.inl rfl)), Bv, if_pos rfl]
  have Ffr : rF (164 + ln2) = r4 188 := by
    rw [fl _ (Or.inr (Or.inr (by omega))), Bv, if_neg (by omega), if_pos rfl]
  have Fto : rF (169 + ln2) = r4 189 := by
    rw [fl _ (Or.inr (Or.inr (by omega))), Bv, if_neg (by omega), if_neg (by omega), if_pos rfl]
  have Fst : rF (174 + ln2) = r4 190 := by
    rw [fl _ (Or.inr (Or.inr (by omega))), Bv, if_neg (by omega), if_neg (by omega), if_neg (by omega), if_pos rfl]
  have hv2' : v2 = some (r4 123) := by
    rw [u1, lk_r2 (lk_in2 (by omega))]
  refine ⟨rF, f1, fun t ht => ?_, fun t ht => ?_, f197, ?_, pt_m0, pt_m0, pt_m0, by rw [f198]; exact hv2 _ hv2', pt_m0, ?_⟩
  · rw [B2v t ht]
    by_cases h1 : t = 121
    · rw [if_pos h1, h1, f121]
    rw [if_neg h1]
    by_cases h2 : t = 123
    · rw [if_pos h2, h2, F123]
    rw [if_neg h2]
    by_cases h3 : t = 164 + ln2
    · rw [if_pos h3, h3, Ffr]
    rw [if_neg h3]
    by_cases h4 : t = 169 + ln2
    · rw [if_pos h4, h4, Fto]
    rw [if_neg h4]
    by_cases h5 : t = 174 + ln2
    · rw [if_pos h5, h5, Fst]
    rw [if_neg h5]
    exact f0 t (by have := lk_bt_lt ht; omega) h1 (lk_out2 ht) h2 h3 h4 h5
  · obtain ⟨h1, h2, h3, h4, h5, h6⟩ := lk_P0_ok ht
    exact f0 t h1 h2 h5 h4 (by omega) (by omega) (by omega)
  · rw [hv2']
    refine congrArg some ?_
    show r4 123 = rF 198 + 0
    rw [Int.add_zero, f198]
  · refine lk_Jof ?_ (view 0 (by omega) (by rw [Bv, if_pos rfl]; omega)) fl (fun t ht => ?_)
    · intro l hl hn
      rw [F123] at hn
      have F122 : rF 122 = r4 122 := f0 122 (by omega) (by omega) (by omega) (by omega) (by omega) (by omega) (by omega)
      by_cases el : l = ln2
      · subst el
        rw [Ffr, Fto, F122]
        exact ⟨ab, a1, b1⟩
      · rw [f0 (164 + l) (by omega) (by omega) (by omega) (by omega) (by omega) (by omega) (by omega), f0 (169 + l) (by omega) (by omega) (by omega) (by omega) (by omega) (by omega) (by omega), F122]
        exact J4.1 l hl (by rw [e123]; omega)
    · rw [f1 t (lk_in1 (by omega))]
      exact hk t (by omega) (by omega)
end LKM
