/-! THE LAW: day -/
theorem lx_zdl : ∀ q, q < 12 → lx_zck 6 lx_zT6 lx_B6 (lx_rd6 q) lx_k6n (hg_new lx_z0 (ai_lo32, -1)) = true := fun q h => match q, h with
  | 0, _ => lx_zdl_0
  | 1, _ => lx_zdl_1
  | 2, _ => lx_zdl_2
  | 3, _ => lx_zdl_3
  | 4, _ => lx_zdl_4
  | 5, _ => lx_zdl_5
  | 6, _ => lx_zdl_6
  | 7, _ => lx_zdl_7
  | 8, _ => lx_zdl_8
  | 9, _ => lx_zdl_9
  | 10, _ => lx_zdl_10
  | 11, _ => lx_zdl_11
  | n + 12, h => absurd h (by omega)
theorem lx_zdh : ∀ q, q < 12 → lx_zck 6 lx_zT6 lx_B6 (lx_rd6 q) lx_k6n (hg_new lx_z0 (9, ai_hi32)) = true := fun q h => match q, h with
  | 0, _ => lx_zdh_0
  | 1, _ => lx_zdh_1
  | 2, _ => lx_zdh_2
  | 3, _ => lx_zdh_3
  | 4, _ => lx_zdh_4
  | 5, _ => lx_zdh_5
  | 6, _ => lx_zdh_6
  | 7, _ => lx_zdh_7
  | 8, _ => lx_zdh_8
  | 9, _ => lx_zdh_9
  | 10, _ => lx_zdh_10
  | 11, _ => lx_zdh_11
  | n + 12, h => absurd h (by omega)
theorem lx_zd1 : ∀ q, q < 12 → lx_zck 6 lx_zT6 lx_B6 (lx_rd6 q) (lx_k6 q) (lx_z61 q) = true := fun q h => match q, h with
  | 0, _ => lx_zd1_0
  | 1, _ => lx_zd1_1
  | 2, _ => lx_zd1_2
  | 3, _ => lx_zd1_3
  | 4, _ => lx_zd1_4
  | 5, _ => lx_zd1_5
  | 6, _ => lx_zd1_6
  | 7, _ => lx_zd1_7
  | 8, _ => lx_zd1_8
  | 9, _ => lx_zd1_9
  | 10, _ => lx_zd1_10
  | 11, _ => lx_zd1_11
  | n + 12, h => absurd h (by omega)
theorem lx_zd2 : ∀ q, q < 12 → lx_zck 6 lx_zT6 lx_B6 (lx_rd6 q) (lx_k6 q) (lx_z62 q) = true := fun q h => match q, h with
  | 0, _ => lx_zd2_0
  | 1, _ => lx_zd2_1
  | 2, _ => lx_zd2_2
  | 3, _ => lx_zd2_3
  | 4, _ => lx_zd2_4
  | 5, _ => lx_zd2_5
  | 6, _ => lx_zd2_6
  | 7, _ => lx_zd2_7
  | 8, _ => lx_zd2_8
  | 9, _ => lx_zd2_9
  | 10, _ => lx_zd2_10
  | 11, _ => lx_zd2_11
  | n + 12, h => absurd h (by omega)
theorem lx_zd3 : ∀ q, q < 12 → lx_zck 6 lx_zT6 lx_B6 (lx_rd6 q) (lx_k6 q) (lx_z63 q) = true := fun q h => match q, h with
  | 0, _ => lx_zd3_0
  | 1, _ => lx_zd3_1
  | 2, _ => lx_zd3_2
  | 3, _ => lx_zd3_3
  | 4, _ => lx_zd3_4
  | 5, _ => lx_zd3_5
  | 6, _ => lx_zd3_6
  | 7, _ => lx_zd3_7
  | 8, _ => lx_zd3_8
  | 9, _ => lx_zd3_9
  | 10, _ => lx_zd3_10
  | 11, _ => lx_zd3_11
  | n + 12, h => absurd h (by omega)
/-! THE LAW: day -/
section LZ6
variable {p : Program} {l : Launch} {e : Env} {R : Room} {s : State} {m : MethodId} {args : Array Value} {below : List Frame} {meth : Method} {c : Code} {Q : State → Prop}
variable {D : va_G} {tyc : Nat → ClassId} {A : Nat → Prop} {sa : ai_B} {ws : va_W} {b Ln z0 v k : Nat} {xs : Nat → Int32}
variable {r : Nat → Int} {ad : Nat → Nat} {H : Heap} {locs : List Loc} {ls : Array Slot} {st : List Value}
set_option maxHeartbeats 8000000 in
theorem lx_dayJ (F : lx_Fr p R s m args meth c D tyc A sa) (hl : l.stackTraces = false) (hRf : 111 ≤ R.frames) (hRl : 8000 ≤ R.locals) (hsa : (z0, b, Ln, xs) ∈ sa.2) (hV : lx_V tyc ws r) (hvk : v ≤ k) (hk4 : k ≤ 4) (hR : ai_Rel D tyc A s sa ws 7 r ad lx_L [.inl (0, .ofNat 6)] (lx_G v 1) H locs ls st) (hi : 0 ≤ r 1 ∧ r 1 + 10 ≤ (Ln : Int)) (h5 : r 1 ≤ 5110) (h110 : r 74 = (k : Int)) (had : ad 0 = b)
    (kn : lx_Kn p l e R s m args below meth c Q D tyc A sa b (r 1)) : W p l e R s m args below meth c H locs 0 0 Q (F0 m 40 ls st) := by
  have hE : ai_gE r (lx_El v 1) := hR.env
  have hE5 : ai_gE r lx_E5 := lx_E5_ok hE
  have eN := lx_E5e v
  have hR5 := lx_wide (E := lx_El v 1) (E' := lx_E5) (h := lx_h) (c := 0) (sl := 0) eN hE5 hR
  have hN : lx_E5.1 = 399 := lx_E5N
  have hRc := hg_cap_ok hR5 (t := 1) (b := (0, 5110)) (by show 1 < lx_E5.1; rw [hN]; omega) ⟨hi.1, h5⟩
  have hRc : ai_Rel D tyc A s sa ws 7 r ad lx_L [.inl (0, .ofNat 6)] lx_z0 H locs ls st := hRc
  have hN0 : lx_z0.1.1 = 399 := hN
  have hN1 : ∀ z, (hg_new lx_z0 z).1.1 = 400 := fun z => by rw [cy_newN, hN0]
  obtain ⟨x, hx⟩ : ∃ x : Int, x = (xs (r 1 + 3).toNat).toInt := ⟨_, rfl⟩
  obtain ⟨y, hy⟩ : ∃ y : Int, y = (xs (r 1 + 4).toNat).toInt := ⟨_, rfl⟩
  have x32 : ai_lo32 ≤ x ∧ x ≤ ai_hi32 := by rw [hx]; exact ai_i32 _
  have y32 : ai_lo32 ≤ y ∧ y ≤ ai_hi32 := by rw [hy]; exact ai_i32 _
  have out : ∀ z : Int × Int, (z.1 ≤ x ∧ x ≤ z.2) → lx_zck 6 lx_zT6 lx_B6 [(3, (399, 0))] lx_k6n (hg_new lx_z0 z) = true → W p l e R s m args below meth c H locs 0 0 Q (F0 m 40 ls st) := fun z hz hck => by
    obtain ⟨r1, a1, a2, hR1⟩ := hk_add hRc (q := z) (x := x) hz (ai_small32 x32)
    rw [hN0] at a1 a2
    refine lx_goJ (r := r) (r0 := r1) (G := hg_new lx_z0 z) (w := 6) F hl lx_zT6_ok hRf hRl hsa hV.1 hvk hk4 hi h110 had hck hR1 a1 (by rw [hN1]; omega) (by show 0 < 336; omega) (fun q hq => ?_) (fun q hq => ?_) (fun f r' ad' H' locs' ls' st' hck2 x1 hR' => ?_) kn
    · rcases List.mem_cons.mp hq with rfl | hq
      · show r1 399 + 0 = _
        rw [a2, Int.add_zero]
        exact hx
      · cases hq
    · rcases List.mem_cons.mp hq with rfl | hq
      · rw [hN1]
        show 399 < 400
        omega
      · cases hq
    · rw [hN1] at x1
      exact lx_fullK hE hV.2 (by omega) lx_zp6 hck2 (fun u hu => (x1 u (by omega)).trans (a1 u hu)) hR'
  by_cases p1 : x ≤ -1
  · exact out (ai_lo32, -1) ⟨x32.1, p1⟩ lx_zd_lo
  by_cases p2 : 12 ≤ x
  · exact out (12, ai_hi32) ⟨p2, x32.2⟩ lx_zd_hi
  obtain ⟨q, hq⟩ : ∃ q : Nat, x = (q : Int) := ⟨x.toNat, by omega⟩
  have hq12 : q < 12 := by omega
  have rdv : ∀ r1 : Nat → Int, r1 0 = 0 → r1 399 = y → ∀ z ∈ lx_rd6 q, ai_vx r1 z.2 = (xs (r 1 + z.1).toNat).toInt := fun r1 h0 h z hz => by
    unfold lx_rd6 at hz
    simp only [List.mem_cons, List.not_mem_nil, or_false] at hz
    rcases hz with rfl | rfl
    · show r1 0 + (q : Int) = _
      rw [h0, Int.zero_add, ← hq]
      exact hx
    · show r1 399 + 0 = _
      rw [h, Int.add_zero]
      exact hy
  have rdl : ∀ M : Nat, 400 ≤ M → ∀ z ∈ lx_rd6 q, z.2.1 < M := fun M hM z hz => by
    unfold lx_rd6 at hz
    simp only [List.mem_cons, List.not_mem_nil, or_false] at hz
    rcases hz with rfl | rfl
    · show 0 < M
      omega
    · show 399 < M
      omega
  have out2 : ∀ z : Int × Int, (z.1 ≤ y ∧ y ≤ z.2) → lx_zck 6 lx_zT6 lx_B6 (lx_rd6 q) lx_k6n (hg_new lx_z0 z) = true → W p l e R s m args below meth c H locs 0 0 Q (F0 m 40 ls st) := fun z hz hck => by
    obtain ⟨r1, a1, a2, hR1⟩ := hk_add hRc (q := z) (x := y) hz (ai_small32 y32)
    rw [hN0] at a1 a2
    refine lx_goJ (r := r) (r0 := r1) (G := hg_new lx_z0 z) (w := 6) F hl lx_zT6_ok hRf hRl hsa hV.1 hvk hk4 hi h110 had hck hR1 a1 (by rw [hN1]; omega) (by show 0 < 336; omega) (rdv r1 hR1.env.1 a2) (rdl _ (by rw [hN1]; omega)) (fun f r' ad' H' locs' ls' st' hck2 x1 hR' => ?_) kn
    rw [hN1] at x1
    exact lx_fullK hE hV.2 (by omega) lx_zp6 hck2 (fun u hu => (x1 u (by omega)).trans (a1 u hu)) hR'
  by_cases p3 : y ≤ -1
  · exact out2 (ai_lo32, -1) ⟨y32.1, p3⟩ (lx_zdl q hq12)
  by_cases p4 : 9 ≤ y
  · exact out2 (9, ai_hi32) ⟨p4, y32.2⟩ (lx_zdh q hq12)
  obtain ⟨w, hw⟩ : ∃ w : Nat, y = (w : Int) := ⟨y.toNat, by omega⟩
  have hw8 : w ≤ 8 := by omega
  have bS : -1 ≤ r (214 + q) ∧ r (214 + q) ≤ 12 := (hE5.2.2.2.1 _ (lx_szb q hq12)).2
  have bT : ∀ j, j < 144 → ai_lo32 ≤ r (226 + j) ∧ r (226 + j) ≤ ai_hi32 := fun j hj => (hE5.2.2.2.1 _ (lx_rtb j hj)).2
  have main : ∀ (d : Int × Int) (z : Int × Int) (fs : List ai_D), (d.1 ≤ r (214 + q) - y ∧ r (214 + q) - y ≤ d.2) → (z.1 ≤ r (214 + q) ∧ r (214 + q) ≤ z.2) → (∀ r6 : Nat → Int, r6 0 = 0 → ai_ext 399 r r6 → r6 399 = y → r6 404 = r (214 + q) - y → ∀ g ∈ fs, g.2.1 < 405 ∧ g.2.2.1.1 < 405 ∧ g.2.2.2.1 < 405 ∧ r6 g.2.1 = ai_op g.1 (ai_vx r6 g.2.2.1) (ai_vx r6 g.2.2.2)) → lx_zck 6 lx_zT6 lx_B6 (lx_rd6 q) (lx_k6 q) (lx_w6 q (fs.foldl hk_df (hg_cap (lx_n6 d) (214 + q) z))) = true → W p l e R s m args below meth c H locs 0 0 Q (F0 m 40 ls st) := by
    intro d z fs hd hz hfs hck
    obtain ⟨r1, a1, a2, hR1⟩ := hk_add hRc (q := (0, 8)) (x := y) ⟨by show (0 : Int) ≤ y; omega, by show y ≤ (8 : Int); omega⟩ (ai_small32 y32)
    rw [hN0] at a1 a2
    obtain ⟨r2, b1, b2, hR2⟩ := hk_add hR1 (q := (ai_lo32, ai_hi32)) (x := r (226 + (12 * q + (w + 0)))) (bT _ (by omega)) (ai_small32 (bT _ (by omega)))
    rw [cy_newN, hN0] at b1 b2
    obtain ⟨r3, c1, c2, hR3⟩ := hk_add hR2 (q := (ai_lo32, ai_hi32)) (x := r (226 + (12 * q + (w + 1)))) (bT _ (by omega)) (ai_small32 (bT _ (by omega)))
    rw [cy_newN, cy_newN, hN0] at c1 c2
    obtain ⟨r4, d1, d2, hR4⟩ := hk_add hR3 (q := (ai_lo32, ai_hi32)) (x := r (226 + (12 * q + (w + 2)))) (bT _ (by omega)) (ai_small32 (bT _ (by omega)))
    rw [cy_newN, cy_newN, cy_newN, hN0] at d1 d2
    obtain ⟨r5, e1, e2, hR5'⟩ := hk_add hR4 (q := (ai_lo32, ai_hi32)) (x := r (226 + (12 * q + (w + 3)))) (bT _ (by omega)) (ai_small32 (bT _ (by omega)))
    rw [cy_newN, cy_newN, cy_newN, cy_newN, hN0] at e1 e2
    obtain ⟨r6, f1, f2, hR6⟩ := hk_add hR5' (q := d) (x := r (214 + q) - y) hd (by unfold ai_small ai_lo64 ai_hi64; omega)
    rw [cy_newN, cy_newN, cy_newN, cy_newN, cy_newN, hN0] at f1 f2
    have xx : ai_ext 399 r r6 := fun u hu => (f1 u (by omega)).trans ((e1 u (by omega)).trans ((d1 u (by omega)).trans ((c1 u (by omega)).trans ((b1 u (by omega)).trans (a1 u hu)))))
    have vN : r6 399 = y := (f1 _ (by omega)).trans ((e1 _ (by omega)).trans ((d1 _ (by omega)).trans ((c1 _ (by omega)).trans ((b1 _ (by omega)).trans a2))))
    have v1 : r6 400 = r (226 + (12 * q + (w + 0))) := (f1 _ (by omega)).trans ((e1 _ (by omega)).trans ((d1 _ (by omega)).trans ((c1 _ (by omega)).trans b2)))
    have v2 : r6 401 = r (226 + (12 * q + (w + 1))) := (f1 _ (by omega)).trans ((e1 _ (by omega)).trans ((d1 _ (by omega)).trans c2))
    have v3 : r6 402 = r (226 + (12 * q + (w + 2))) := (f1 _ (by omega)).trans ((e1 _ (by omega)).trans d2)
    have v4 : r6 403 = r (226 + (12 * q + (w + 3))) := (f1 _ (by omega)).trans e2
    have vv : ∀ i, i < 4 → r6 (400 + i) = r (226 + (12 * q + (w + i))) := fun i hi => match i, hi with
      | 0, _ => v1
      | 1, _ => v2
      | 2, _ => v3
      | 3, _ => v4
      | n + 4, h => absurd h (by omega)
    have n6 : (lx_n6 d).1.1 = 405 := by
      unfold lx_n6
      rw [cy_newN, cy_newN, cy_newN, cy_newN, cy_newN, cy_newN, hN0]
    have hR7 := hg_cap_ok hR6 (t := 214 + q) (b := z) (by show 214 + q < (lx_n6 d).1.1; rw [n6]; omega) (by rw [xx _ (by omega)]; exact hz)
    have hR7 : ai_Rel D tyc A s sa ws 7 r6 ad lx_L [.inl (0, .ofNat 6)] (hg_cap (lx_n6 d) (214 + q) z) H locs ls st := hR7
    have all : ∀ (fs : List ai_D) (G : ai_G), ai_Rel D tyc A s sa ws 7 r6 ad lx_L [.inl (0, .ofNat 6)] G H locs ls st → G.1.1 = 405 → (∀ g ∈ fs, g.2.1 < 405 ∧ g.2.2.1.1 < 405 ∧ g.2.2.2.1 < 405 ∧ r6 g.2.1 = ai_op g.1 (ai_vx r6 g.2.2.1) (ai_vx r6 g.2.2.2)) → ai_Rel D tyc A s sa ws 7 r6 ad lx_L [.inl (0, .ofNat 6)] (fs.foldl hk_df G) H locs ls st ∧ (fs.foldl hk_df G).1.1 = 405 ∧ (fs.foldl hk_df G).2 = G.2 := by
      intro fs
      induction fs with
      | nil => exact fun G hG hn _ => ⟨hG, hn, rfl⟩
      | cons g fs ih =>
        intro G hG hn hg
        have hg1 := hg g List.mem_cons_self
        rw [← hn] at hg1
        exact ih (hk_df G g) (hk_adf hG hg1) hn (fun g' hg' => hg g' (List.mem_cons_of_mem _ hg'))
    obtain ⟨hR8, n8, g8⟩ := all fs _ hR7 n6 (hfs r6 hR6.env.1 xx vN f2)
    generalize hG8 : fs.foldl hk_df (hg_cap (lx_n6 d) (214 + q) z) = G8 at hR8 n8 g8 hck
    have cell8 : ∀ j, ai_cell G8.2.1 j = ai_cell lx_h j := fun j => by rw [g8]; rfl
    have n336 : G8.2.1.1 = 336 := by rw [g8]; rfl
    have c70 : ai_cell G8.2.1 (70 + q) = some (lx_cl (12 * q) 12 []) := by
      rw [cell8]
      exact fn_heqO_ok (List.all_eq_true.mp lx_r0c.1 q (List.mem_range.mpr hq12))
    have u4 : ∀ r9 : Nat → Int, ai_ext 405 r6 r9 → lx_u4 r9 (12 * q) 0 ∧ lx_u4 r9 0 (12 * q) := fun r9 hx9 => by
      refine ⟨fun i hi j hj => ?_, fun i hi j hj => ?_⟩
      · rw [hx9 _ (by omega), vN, hw] at hj
        have ej : j = w + i := by omega
        rw [hx9 _ (by omega), vv i hi, hx9 _ (by omega), xx _ (by omega), ej]
      · rw [hx9 _ (by omega), vN, hw] at hj
        have ej : 0 + j = 12 * q + (w + i) := by omega
        rw [hx9 _ (by omega), vv i hi, hx9 _ (by omega), xx _ (by omega), ej]
    obtain ⟨ua, ub⟩ := u4 r6 ai_ext.rfl'
    have hR9 := lx_ux_to (q := 70 + q) (a := 12 * q) (n := 12) (off := 0) (by omega) (by omega) c70 (by rw [n8]; omega) ua hR8
    have c283 : ai_cell (lx_ptc (70 + q) (lx_cl (12 * q) 12 (lx_x4 0)) G8).2.1 283 = some (lx_cl 0 144 []) := by
      have g : ai_cell (G8.2.1.1, ai_tset 9 G8.2.1.2 (70 + q) (some (lx_cl (12 * q) 12 (lx_x4 0)))) 283 = if 283 = 70 + q then some (lx_cl (12 * q) 12 (lx_x4 0)) else ai_cell G8.2.1 283 := hg_cell (by omega) (by omega)
      rw [if_neg (by omega), cell8] at g
      exact g.trans (fn_heqO_ok lx_r0c.2)
    have hR10 := lx_ux_to (q := 283) (a := 0) (n := 144) (off := 12 * q) (by omega) (by omega) c283 (by show 403 < G8.1.1; rw [n8]; omega) ub hR9
    have nw : (lx_w6 q G8).1.1 = 405 := n8
    have res := lx_goJ (r := r) (r0 := r6) (G := lx_w6 q G8) (w := 6) F hl lx_zT6_ok hRf hRl hsa hV.1 hvk hk4 hi h110 had hck hR10 xx (by rw [nw]; omega) (by show 0 < G8.2.1.1; rw [n336]; omega) (rdv r6 hR6.env.1 vN) (rdl _ (by rw [nw]; omega)) (fun f r' ad' H' locs' ls' st' hck2 x1 hR' => ?_) kn
    · have gc : (lx_w6 q G8).2.2 = (0, 0) := by
        show G8.2.2 = _
        rw [g8]
        rfl
      rw [gc] at res
      exact res
    rw [nw] at x1
    unfold lx_k6 at hck2
    simp only [Bool.and_eq_true] at hck2
    obtain ⟨k1, k2, k3⟩ := hck2
    have k1 := fn_heqO_ok k1
    have k2 := fn_heqO_ok k2
    obtain ⟨ua', ub'⟩ := u4 r' x1
    have hRa := lx_ux_of (q := 70 + q) (a := 12 * q) (n := 12) (off := 0) (by omega) (by omega) k1 ua' hR'
    have k2' : ai_cell (lx_ptc (70 + q) (lx_cl (12 * q) 12 []) f.2.2.2).2.1 283 = some (lx_cl 0 144 (lx_x4 (12 * q))) := by
      have g : ai_cell (f.2.2.2.2.1.1, ai_tset 9 f.2.2.2.2.1.2 (70 + q) (some (lx_cl (12 * q) 12 []))) 283 = if 283 = 70 + q then some (lx_cl (12 * q) 12 []) else ai_cell f.2.2.2.2.1 283 := hg_cell (by omega) (by omega)
      rw [if_neg (by omega)] at g
      exact g.trans k2
    have hRb := lx_ux_of (q := 283) (a := 0) (n := 144) (off := 12 * q) (by omega) (by omega) k2' ub' hRa
    exact lx_fullK (f := (f.1, f.2.1, f.2.2.1, lx_ptc 283 (lx_cl 0 144 []) (lx_ptc (70 + q) (lx_cl (12 * q) 12 []) f.2.2.2))) hE hV.2 (by omega) lx_zp6 k3 (fun u hu => (x1 u (by omega)).trans (xx u hu)) hRb
  have fD : ∀ r6 : Nat → Int, ai_ext 399 r r6 → r6 399 = y → r6 404 = r (214 + q) - y → r6 404 = ai_op 1 (ai_vx r6 (214 + q, 0)) (ai_vx r6 (399, 0)) := fun r6 hx6 h1 h2 => by
    show r6 404 = (r6 (214 + q) + 0 - (r6 399 + 0)).bmod 4294967296
    rw [h1, h2, hx6 _ (by omega), Int.add_zero, Int.add_zero]
    exact (Int.bmod_eq_of_le_mul_two (by omega) (by omega)).symm
  have fL : ∀ (r6 : Nat → Int) (a c : ai_X), r6 0 = 0 → ai_vx r6 a ≤ ai_vx r6 c → r6 0 = ai_op 32 (ai_vx r6 a) (ai_vx r6 c) := fun r6 a c h0 h => by
    have q : ai_le (ai_vx r6 a) (ai_vx r6 c) = true := ai_le_iff.mpr h
    show r6 0 = (match ai_le (ai_vx r6 a) (ai_vx r6 c) with | true => 0 | false => 1)
    rw [q, h0]
  by_cases p5 : r (214 + q) = -1
  · exact main (ai_lo32, ai_hi32) (-1, -1) [] ⟨by unfold ai_lo32; omega, by unfold ai_hi32; omega⟩ ⟨by rw [p5]; exact Int.le_refl _, by rw [p5]; exact Int.le_refl _⟩ (fun _ _ _ _ _ g hg => by cases hg) (lx_zd1 q hq12)
  by_cases p6 : y ≤ r (214 + q) - 4
  · refine main (4, 12) (4, 12) [(1, 404, (214 + q, 0), (399, 0)), (32, 0, (399, 0), (214 + q, -4)), (32, 0, (0, 4), (404, 0))] ⟨by show (4 : Int) ≤ _; omega, by show _ ≤ (12 : Int); omega⟩ ⟨by show (4 : Int) ≤ _; omega, bS.2⟩ (fun r6 h0 hx6 h1 h2 g hg => ?_) (lx_zd3 q hq12)
    simp only [List.mem_cons, List.not_mem_nil, or_false] at hg
    rcases hg with rfl | rfl | rfl
    · exact ⟨by show 404 < 405; omega, by show 214 + q < 405; omega, by show 399 < 405; omega, fD r6 hx6 h1 h2⟩
    · exact ⟨by show 0 < 405; omega, by show 399 < 405; omega, by show 214 + q < 405; omega, fL r6 _ _ h0 (by show r6 399 + 0 ≤ r6 (214 + q) + -4; rw [h1, hx6 _ (by omega)]; omega)⟩
    · exact ⟨by show 0 < 405; omega, by show 0 < 405; omega, by show 404 < 405; omega, fL r6 _ _ h0 (by show r6 0 + 4 ≤ r6 404 + 0; rw [h0, h2]; omega)⟩
  · refine main (-8, 3) (0, 12) [(1, 404, (214 + q, 0), (399, 0)), (32, 0, (214 + q, -3), (399, 0)), (32, 0, (404, 0), (0, 3))] ⟨by show (-8 : Int) ≤ _; omega, by show _ ≤ (3 : Int); omega⟩ ⟨by show (0 : Int) ≤ _; omega, bS.2⟩ (fun r6 h0 hx6 h1 h2 g hg => ?_) (lx_zd2 q hq12)
    simp only [List.mem_cons, List.not_mem_nil, or_false] at hg
    rcases hg with rfl | rfl | rfl
    · exact ⟨by show 404 < 405; omega, by show 214 + q < 405; omega, by show 399 < 405; omega, fD r6 hx6 h1 h2⟩
    · exact ⟨by show 0 < 405; omega, by show 214 + q < 405; omega, by show 399 < 405; omega, fL r6 _ _ h0 (by show r6 (214 + q) + -3 ≤ r6 399 + 0; rw [h1, hx6 _ (by omega)]; omega)⟩
    · exact ⟨by show 0 < 405; omega, by show 404 < 405; omega, by show 0 < 405; omega, fL r6 _ _ h0 (by show r6 404 + 0 ≤ r6 0 + 3; rw [h0, h2]; omega)⟩
end LZ6
