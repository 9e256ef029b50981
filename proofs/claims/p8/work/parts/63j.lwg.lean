/-! LAW GLUE (3c): with arrays left alone told at the end -/
noncomputable def gq_bkB (Y1 Y2 : pt_Y) (P0 P1 P2 : Nat → Bool) (XG : List (Nat × Nat × Nat)) (t : Nat) : Bool := P0 t || (((P1 t && cx_bd Y1.1 (t, 0) (fz_look gq_E.2.1 t)) || (P2 t && cx_bd Y2.1 (t, 0) (fz_look gq_E.2.1 t))) || (XG.any (fun x => Nat.beq x.1 t) && (match fz_look gq_E.2.1 t with
  | (a, b) => ai_le a ai_lo32 && ai_le ai_hi32 b)))
noncomputable def gq_xg (Y : pt_Y) (x : Nat × Nat × Nat) : Bool := Y.2.2.1.any (fun g => Nat.beq g.1 x.2.1 && (Nat.blt x.2.2 g.2.1 && Nat.beq g.2.2 0))
theorem gq_xg_ok {tyc : Nat → ClassId} {ws : va_W} {Y : pt_Y} {M : Nat → Nat → Int} {x : Nat × Nat × Nat} (hM : pt_M tyc Y.2.2.1 ws M) (h : gq_xg Y x = true) : ai_lo32 ≤ M x.2.1 x.2.2 ∧ M x.2.1 x.2.2 ≤ ai_hi32 := by
  obtain ⟨g, hg, w⟩ := List.any_eq_true.mp h
  simp only [Bool.and_eq_true] at w
  obtain ⟨w1, w2, w3⟩ := w
  have b := pt_M_b hM g hg x.2.2 (Nat.le_of_ble_eq_true w2)
  rw [Nat.eq_of_beq_eq_true w1] at b
  exact b.1 (by rw [Nat.eq_of_beq_eq_true w3]; decide)
noncomputable def gq_ck2B (Y1 Y2 : pt_Y) (P0 P1 P2 : Nat → Bool) (XF : List (Nat × Nat × Nat × Nat)) (XG1 XG2 : List (Nat × Nat × Nat)) (hF : ai_H) : Bool := ((List.range 336).all (gq_fk Y1 Y2 P0 P1 P2 (XF.map (fun z => (z.1, z.2.1, z.2.2.1))) XG1 XG2 hF) && (XF.all (gq_xf Y1) && (Nat.beq hF.1 336 && (List.range 16).all (fun q => (ai_cell hF q).isNone)))) && ((gq_no lx_h && (gq_nq Y1 && gq_nq Y2)) && ((List.range 329).all (gq_bkB Y1 Y2 P0 P1 P2 (XG1 ++ XG2)) && ((XG1.all (gq_xg Y1) && XG2.all (gq_xg Y2)) && (P0 0 && (P0 1 && (P0 103 && (List.range 9).all (fun j => P0 (320 + j))))))))
theorem gq_gEB {r0 rF r2 r3 : Nat → Int} {Y1 Y2 : pt_Y} {P0 P1 P2 : Nat → Bool} {XG : List (Nat × Nat × Nat)} (hX : ∀ x ∈ XG, ai_lo32 ≤ rF x.1 ∧ rF x.1 ≤ ai_hi32) (hE : ai_gE r0 gq_E) (hE2 : ai_gE r2 Y1.1) (hE3 : ai_gE r3 Y2.1) (u0 : ∀ t, P0 t = true → rF t = r0 t) (u1 : ∀ t, P1 t = true → rF t = r2 t) (u2 : ∀ t, P2 t = true → rF t = r3 t) (z0 : P0 0 = true) (hck : (List.range 329).all (gq_bkB Y1 Y2 P0 P1 P2 XG) = true) (s1 : ai_lo32 ≤ rF 329 ∧ rF 329 ≤ ai_hi32) (s2 : ai_lo32 ≤ rF 330 ∧ rF 330 ≤ ai_hi32) : ai_gE rF gq_E := by
  have key : ∀ t, t < 329 → rF t = r0 t ∨ ((fz_look gq_E.2.1 t).1 ≤ rF t ∧ rF t ≤ (fz_look gq_E.2.1 t).2 ∧ ai_lo64 ≤ rF t ∧ rF t ≤ ai_hi64) := fun t ht => by
    have g := List.all_eq_true.mp hck t (List.mem_range.mpr ht)
    unfold gq_bkB at g
    simp only [Bool.or_eq_true, Bool.and_eq_true] at g
    rcases g with g | (⟨g1, g2⟩ | ⟨g1, g2⟩) | ⟨g1, g2⟩
    · exact Or.inl (u0 t g)
    · right
      have w := (cx_bd_ok hE2 g2).2
      have z : ai_vx r2 (t, 0) = rF t := (Int.add_zero _).trans (u1 t g1).symm
      rw [z] at w
      exact w
    · right
      have w := (cx_bd_ok hE3 g2).2
      have z : ai_vx r3 (t, 0) = rF t := (Int.add_zero _).trans (u2 t g1).symm
      rw [z] at w
      exact w
    · right
      obtain ⟨x, hx, e⟩ := List.any_eq_true.mp g1
      have b := hX x hx
      rw [Nat.eq_of_beq_eq_true e] at b
      cases el : fz_look gq_E.2.1 t with
      | mk lo hi =>
        rw [el] at g2
        have g2 : (ai_le lo ai_lo32 && ai_le ai_hi32 hi) = true := by
          rw [Bool.and_eq_true]
          exact g2
        rw [Bool.and_eq_true] at g2
        exact ⟨Int.le_trans (ai_le_iff.mp g2.1) b.1, Int.le_trans b.2 (ai_le_iff.mp g2.2), gq_vb hE.1 b⟩
  have big : ∀ t, 329 ≤ t → t < 331 → ai_lo32 ≤ rF t ∧ rF t ≤ ai_hi32 := fun t h1 h2 => by
    rcases (by omega : t = 329 ∨ t = 330) with e | e
    · rw [e]
      exact s1
    · rw [e]
      exact s2
  refine ⟨(u0 0 z0).trans hE.1, by show 0 < 331; omega, fun t ht => ?_, fun q hq => ?_, fun q hq => by cases hq⟩
  · have ht : t < 331 := ht
    by_cases e : t < 329
    · rcases key t e with w | w
      · rw [w]
        exact hE.2.2.1 t ht
      · exact w.2.2
    · exact gq_vb hE.1 (big t (by omega) ht)
  · obtain ⟨l1, l2⟩ := gq_look hq
    refine ⟨l2, ?_⟩
    by_cases e : q.1 < 329
    · rcases key q.1 e with w | w
      · rw [w]
        exact (hE.2.2.2.1 q hq).2
      · rw [l1] at w
        exact ⟨w.1, w.2.1⟩
    · rw [gq_32 hq (by omega)]
      exact big q.1 (by omega) l2
section GQTB
variable {p : Program} {l : Launch} {e : Env} {R : Room} {s : State} {m : MethodId} {args : Array Value} {below : List Frame} {meth : Method} {c : Code} {Q : State → Prop}
variable {D : va_G} {tyc : Nat → ClassId} {A : Nat → Prop} {sa : ai_B} {ws : va_W} {b Ln z0 v k w : Nat} {xs : Nat → Int32}
variable {r r4 : Nat → Int} {ad : Nat → Nat} {H : Heap} {locs : List Loc} {ls : Array Slot} {st : List Value}
variable {Y1 Y2 : pt_Y} {pc1 pc2 m1 m2 n1 n2 : Nat} {kd1 kd2 : Bool} {S1 S2 bb1 bb2 : List ai_V} {AL1 AL2 : List (Nat × ai_X)} {X1 X2 : List (Nat × Nat × Nat)} {p1 p2 P0 P1 P2 : Nat → Bool} {x1 x2 : ai_X} {b1 b2 : Nat × Nat} {XF : List (Nat × Nat × Nat × Nat)} {XG1 XG2 : List (Nat × Nat × Nat)} {hF : ai_H} {sp3 : List (Nat × Int)} {C : List Nat} {Pf : List (Nat × Nat × Nat)}
variable {Pre1 Pre2 : (Nat → Int) → (Nat → Nat → Int) → Prop} {Post1 Post2 : (Nat → Int) → (Nat → Nat → Int) → (Nat → Int) → (Nat → Nat → Int) → Option Int → Prop}
set_option maxHeartbeats 16000000 in
/-- a kind that calls the class and then the reference, each by its contract -/
theorem gq_twoB (F : lx_Fr p R s m args meth c D tyc A sa) (hl : l.stackTraces = false) (hRf : 111 ≤ R.frames) (hRl : 8000 ≤ R.locals) (hsa : (z0, b, Ln, xs) ∈ sa.2) (hV : lx_V tyc ws r) (hvk : v ≤ k) (hk4 : k ≤ 4) (hE : ai_gE r (lx_El v 1)) (x4 : ai_ext 320 r r4) (hrd : ∀ q ∈ gq_rd, ai_vx r4 q.2 = (xs (r 1 + q.1).toNat).toInt) (hR : ai_Rel D tyc A s sa ws 7 r4 ad lx_L [.inl (0, .ofNat w)] (gq_E, lx_h, 0, 0) H locs ls st) (hi : 0 ≤ r 1 ∧ r 1 + 10 ≤ (Ln : Int)) (h110 : r 103 = (k : Int)) (had : ad 0 = b)
    (sy1 : pt_sys Y1) (met1 : pt_Met n1 m1 Y1 bb1 Pre1 Post1 1) (fr1 : (lt_rm n1 m1).frames + 1 ≤ 111 ∧ (lt_rm n1 m1).locals + 64 ≤ 8000) (hp1 : ∀ t, p1 t = true → t < Y1.1.1)
    (sy2 : pt_sys Y2) (met2 : pt_Met n2 m2 Y2 bb2 Pre2 Post2 1) (fr2 : (lt_rm n2 m2).frames + 1 ≤ 111 ∧ (lt_rm n2 m2).locals + 64 ≤ 8000) (hp2 : ∀ t, p2 t = true → t < Y2.1.1)
    (hb1 : ct_bud m1 = b1) (hb2 : ct_bud m2 = b2) (hbd : (Nat.ble (b1.1 + b2.1) 1 && Nat.ble (b1.2 + b2.2) 6) = true) (hx1 : Nat.blt x1.1 331 = true) (hx2 : Nat.blt x2.1 331 = true)
    (hB : ∀ t, (P0 t = true ∨ P1 t = true ∨ P2 t = true) → t < 331) (hPf : lx_pc Pf = true)
    (ck1 : gq_ck1 Y1 Y2 p1 p2 X1 X2 AL1 AL2 = true) (ck2 : gq_ck2B Y1 Y2 P0 P1 P2 XF XG1 XG2 hF = true) (ckv : gq_cv P0 = true)
    (hrow : (match lx_run [] [pc1] 16 gq_rd false 40 lx_L [.inl (0, .ofNat w)] (gq_E, lx_h, 0, 0) with
      | some fs => fs.all (gq_c1 pc1 m1 kd1 Y1 S1 bb1 AL1 x1 b1 pc2 (gq_c2 pc2 m2 kd2 Y2 S2 bb2 AL2 b1 x2 (gq_sps sp3 (gq_E, hF, b1.1 + b2.1, b1.2 + b2.2)) C Pf))
      | none => false) = true)
    (hpre1 : ∀ cc, gq_ct r4 cc → Pre1 (gq_rn r4 cc p1 X1 AL1 Y1.1) cc)
    (hmid : ∀ cc, gq_ct r4 cc → ∀ r2 M2 v1, Post1 (gq_rn r4 cc p1 X1 AL1 Y1.1) cc r2 M2 v1 → ai_gE r2 Y1.1 → (∀ a, v1 = some a → ai_lo32 ≤ a ∧ a ≤ ai_hi32) → ∃ a1, v1 = some (ai_vx (pt_set r4 329 a1) x1) ∧ (ai_lo32 ≤ a1 ∧ a1 ≤ ai_hi32) ∧ Pre2 (gq_rn (pt_set r4 329 a1) cc p2 X2 AL2 Y2.1) cc ∧ ∀ r3 M3 v2, Post2 (gq_rn (pt_set r4 329 a1) cc p2 X2 AL2 Y2.1) cc r3 M3 v2 → ai_gE r3 Y2.1 → (∀ a, v2 = some a → ai_lo32 ≤ a ∧ a ≤ ai_hi32) → ∃ rF, (∀ t, P1 t = true → rF t = r2 t) ∧ (∀ t, P2 t = true → rF t = r3 t) ∧ (∀ t, P0 t = true → rF t = r4 t) ∧ rF 329 = a1 ∧ v2 = some (ai_vx rF x2) ∧ (∀ z ∈ XF, rF z.1 = r2 z.2.2.2) ∧ (∀ z ∈ XG1, rF z.1 = M2 z.2.1 z.2.2) ∧ (∀ z ∈ XG2, rF z.1 = M3 z.2.1 z.2.2) ∧ (ai_lo32 ≤ rF 330 ∧ rF 330 ≤ ai_hi32) ∧ (∀ q ∈ sp3, rF q.1 = q.2) ∧ lx_J rF)
    (kn : lx_Kn p l e R s m args below meth c Q D tyc A sa b (r 1)) : W p l e R s m args below meth c H locs 0 0 Q (F0 m 40 ls st) := by
  have hbud := F.2.2.2.2.2.2.2.1
  have hc1 : (1 : Nat) = R.cells := hbud.1
  have hc2 : (6 : Nat) = R.slots := hbud.2
  rw [Bool.and_eq_true] at hbd
  have hbd1 := Nat.le_of_ble_eq_true hbd.1
  have hbd2 := Nat.le_of_ble_eq_true hbd.2
  have hx1 : x1.1 < 331 := Nat.le_of_ble_eq_true hx1
  have hx2 : x2.1 < 331 := Nat.le_of_ble_eq_true hx2
  have rc1 : (lt_rm n1 m1).cells = b1.1 := by
    show (ct_bud m1).1 = b1.1
    rw [hb1]
  have rs1 : (lt_rm n1 m1).slots = b1.2 := by
    show (ct_bud m1).2 = b1.2
    rw [hb1]
  have rc2 : (lt_rm n2 m2).cells = b2.1 := by
    show (ct_bud m2).1 = b2.1
    rw [hb2]
  have rs2 : (lt_rm n2 m2).slots = b2.2 := by
    show (ct_bud m2).2 = b2.2
    rw [hb2]
  unfold gq_ck1 at ck1
  simp only [Bool.and_eq_true] at ck1
  obtain ⟨⟨i1, i2⟩, ⟨gn1, gn2⟩, gg1, gg2⟩ := ck1
  unfold gq_ck2B at ck2
  simp only [Bool.and_eq_true] at ck2
  obtain ⟨⟨o1, o2, o3, o4⟩, ⟨no0, no1, no2⟩, o5, ⟨xg1, xg2⟩, z00, z01, z0m, z0r⟩ := ck2
  have o3 := Nat.eq_of_beq_eq_true o3
  have o4 : ∀ q, q < 16 → ai_cell hF q = none := fun q hq => Option.isNone_iff_eq_none.mp (List.all_eq_true.mp o4 q (List.mem_range.mpr hq))
  have hE4 : ai_gE r4 gq_E := hR.env
  have e41 : r4 1 = r 1 := x4 1 (by omega)
  have rl : ∀ q ∈ gq_rd, q.2.1 < 320 + 9 := fun q hq => by
    rw [gq_rdok] at hq
    obtain ⟨j, hj, rfl⟩ := List.mem_map.mp hq
    have := List.mem_range.mp hj
    show 320 + j < 320 + 9
    omega
  have rlE : ∀ q ∈ gq_rd, q.2.1 < gq_E.1 := fun q hq => by
    have := rl q hq
    show q.2.1 < 331
    omega
  split at hrow
  case h_2 => cases hrow
  rename_i fs hrun
  refine lx_ok (k0 := 60) (T := []) (G := (gq_E, lx_h, 0, 0)) F hl trivial (by omega) (by omega) hV.1.pw hsa 16 gq_rd false 40 lx_L _ fs r4 ad H locs ls st hrun hR (by show 1 < 331; omega) (by show 0 < 336; omega) (by rw [e41]; exact hi) had (by rw [e41]; exact hrd) rlE (fun g hg r5 ad5 y1 y2 y3 y4 H5 locs5 ls5 st5 hR5 => ?_)
  have y1 : ai_ext gq_E.1 r4 r5 := y1
  have y2 : ai_ext 336 ad ad5 := y2
  have y1' : ai_ext gq_E.1 r5 r4 := fun t ht => (y1 t ht).symm
  have hgc := List.all_eq_true.mp hrow g hg
  unfold gq_c1 at hgc
  simp only [Bool.and_eq_true] at hgc
  obtain ⟨⟨g1, g2⟩, ⟨g3, g4⟩, g5, g6, g7, g8⟩ := hgc
  obtain ⟨q1, q2⟩ := cy_z_ok g2
  have hG : g.2.2.2 = (gq_E, lx_h, 0, 0) := Prod.ext (gq_qE_ok g4) (Prod.ext (hy_heq_ok g3) (Prod.ext q1 q2))
  rw [hG] at hR5
  rw [hG, Nat.eq_of_beq_eq_true g1]
  obtain ⟨hWd5, hS5, hL5, hSt5⟩ := hR5.wd
  obtain ⟨ws1, c1, W1, -, K1, sm1⟩ := gq_of (h := lx_h) rfl hWd5
  have K1' : gq_K tyc ws1 r4 ad5 gq_E.1 lx_h c1 (fun _ => true) := K1.re gq_hN (fun t ht => by
    have ht : t < 329 := Nat.le_of_ble_eq_true ht
    have ht2 : t < gq_E.1 := by
      show t < 331
      omega
    exact ⟨ht2, (y1 t ht2).symm⟩)
  have hL4 : ai_gL r4 ad5 gq_E.1 336 7 g.2.1 ls5 := ai_gL.mono y1' ai_ext.rfl' (Nat.le_refl _) (Nat.le_refl _) hL5
  have hSt4 : ai_gF r4 ad5 gq_E.1 336 g.2.2.1 st5 := ai_gF.mono y1' ai_ext.rfl' (Nat.le_refl _) (Nat.le_refl _) hSt5
  obtain ⟨-, hWd1⟩ := gq_sys (c1 := 0) (s1 := 0) sy1 hp1 hE4 W1 K1' i1
  have ct1 : gq_ct r4 c1 := fun q ty m lo hi l q1 q2 hq j hj => by
    obtain ⟨-, ga⟩ := K1' q q1 q2 rfl _ hq
    exact (ga ty m lo hi l rfl).2.1 j hj
  have hVA : cl_V tyc ws1 := gq_V hV.1 (fun q hq => sm1 q (gq_no_ok no0 q hq).1 (gq_no_ok no0 q hq).2)
  refine gq_call (Y := Y1) (n := n1) (mj := m1) (rt := 1) (S := S1) (bb := bb1) (r := r4) (N := gq_E.1) (L := g.2.1) F hl sy1 gn1 g7 met1 ⟨by omega, by omega⟩ hVA.pw (gq_Mof K1' gg1) (hpre1 c1 ct1) hL4 (gq_ss_ok (gq_ik_A i1) g6 hSt4) hWd1 hS5 ⟨by rw [rc1]; show 0 + b1.1 ≤ R.cells; omega, by rw [rs1]; show 0 + b1.2 ≤ R.slots; omega⟩ (fun T locs1 v1 st1 r2 M2 ws2 c2 po1 re1 W2 hE2 K2 MM2 sm2 hS2 => ?_)
  have re1 : ∃ i : Int32, v1 = some i.toInt ∧ st1 = [.int i] := re1
  obtain ⟨i, hv1, rfl⟩ := re1
  obtain ⟨a1, ha1, hb1', hm⟩ := hmid c1 ct1 r2 M2 v1 po1 hE2 (fun a ha => by
    rw [hv1] at ha
    cases ha
    exact ai_i32 i)
  obtain ⟨rA, hrA⟩ : ∃ rA, rA = pt_set r4 329 a1 := ⟨_, rfl⟩
  rw [← hrA] at ha1 hm
  have hEA : ai_gE rA gq_E := by
    rw [hrA]
    exact gq_setE hE4 hb1'
  have rAne : ∀ t, t ≠ 329 → rA t = r4 t := fun t ht => by
    rw [hrA]
    exact if_neg ht
  have rAsp : rA 329 = a1 := by
    rw [hrA]
    exact if_pos rfl
  have hVB : cl_V tyc ws2 := gq_V hVA (fun q hq => sm2 q (gq_nq_ok no1 q hq).1 (gq_nq_ok no1 q hq).2)
  have hLA : ai_gL rA ad5 gq_E.1 336 7 g.2.1 ls5 := gq_lo_ok g5 (fun t ht => by
    have ht : t = 0 ∨ t = 1 := by simpa using ht
    refine ⟨by show t < 331; omega, rAne t (by omega)⟩) hL4
  have RA : ai_Rel D tyc A s sa ws2 7 rA ad5 g.2.1 [.inl x1] (gq_E, gl_he, b1.1, b1.2) T locs1 ls5 [.int i] := ai_Wd.rel (gq_he hEA W2) hS2 hLA ⟨⟨hx1, i, rfl, gq_some (hv1.symm.trans ha1)⟩, trivial⟩
  rw [rc1, rs1, Nat.zero_add, Nat.zero_add]
  split at g8
  case h_2 => cases g8
  rename_i fs2 hrun2
  have eA1 : rA 1 = r 1 := (rAne 1 (by omega)).trans e41
  have rdA : ∀ (rr : Nat → Int), (∀ t, t < 329 → rr t = r4 t) → ∀ q ∈ gq_rd, ai_vx rr q.2 = (xs (r 1 + q.1).toNat).toInt := fun rr hrr q hq => by
    rw [← hrd q hq]
    show rr q.2.1 + q.2.2 = r4 q.2.1 + q.2.2
    rw [hrr _ (by have := rl q hq; omega)]
  have had5 : ad5 0 = b := (y2 0 (by omega)).trans had
  refine lx_ok (k0 := 60) (T := []) (G := (gq_E, gl_he, b1.1, b1.2)) F hl trivial (by omega) (by omega) hVB.pw hsa 16 gq_rd false (pc1 + 3) g.2.1 _ fs2 rA ad5 T locs1 ls5 [.int i] hrun2 RA (by show 1 < 331; omega) (by show 0 < 336; omega) (by rw [eA1]; exact hi) had5 (by rw [eA1]; exact rdA rA (fun t ht => rAne t (by omega))) rlE (fun h hh r6 ad6 u1 u2 u3 u4 H6 locs6 ls6 st6 hR6 => ?_)
  have u1 : ai_ext gq_E.1 rA r6 := u1
  have u2 : ai_ext 336 ad5 ad6 := u2
  have u1' : ai_ext gq_E.1 r6 rA := fun t ht => (u1 t ht).symm
  have hhc := List.all_eq_true.mp g8 h hh
  unfold gq_c2 at hhc
  simp only [Bool.and_eq_true] at hhc
  obtain ⟨⟨f1, f2, f3⟩, ⟨f4, f5⟩, f6, f7, f8, f9⟩ := hhc
  have hG2 : h.2.2.2 = (gq_E, gl_he, b1.1, b1.2) := Prod.ext (gq_qE_ok f5) (Prod.ext (hy_heq_ok f4) (Prod.ext (Nat.eq_of_beq_eq_true f2) (Nat.eq_of_beq_eq_true f3)))
  rw [hG2] at hR6
  rw [hG2, Nat.eq_of_beq_eq_true f1]
  obtain ⟨hWd6, hS6, hL6, hSt6⟩ := hR6.wd
  obtain ⟨ws3, c3, W3, -, -, sm3⟩ := gq_of (h := gl_he) rfl hWd6
  have sm3 : ∀ q, q + 16 < 336 → ws3[q]? = ws2[q]? := fun q hq => sm3 q hq (gl_heN hq)
  have KA : gq_K tyc ws3 r2 ad6 Y1.1.1 Y1.2.1 c2 (fun _ => true) := gq_K.adx (gq_K.mv K2 (fun q k1 k2 _ => ⟨rfl, sm3 (q - 16) (by omega)⟩)) u2
  have KO : gq_K tyc ws3 rA ad6 gq_E.1 lx_h c1 (gq_ot Y1) := gq_K.adx (gq_K.mv (gq_K.re (N2 := gq_E.1) (r2 := rA) K1' gq_hN (fun t ht => by
    have ht : t < 329 := Nat.le_of_ble_eq_true ht
    exact ⟨by show t < 331; omega, rAne t (by omega)⟩)) (fun q k1 k2 hn => ⟨rfl, by
      refine (sm3 (q - 16) (by omega)).trans (sm2 (q - 16) (by omega) ?_)
      rw [show q - 16 + 16 = q by omega]
      exact hn⟩)) u2
  obtain ⟨hpr2, hm2⟩ := hm
  have hL6' : ai_gL rA ad6 gq_E.1 336 7 h.2.1 ls6 := ai_gL.mono u1' ai_ext.rfl' (Nat.le_refl _) (Nat.le_refl _) hL6
  have hSt6' : ai_gF rA ad6 gq_E.1 336 h.2.2.1 st6 := ai_gF.mono u1' ai_ext.rfl' (Nat.le_refl _) (Nat.le_refl _) hSt6
  obtain ⟨-, hWd2⟩ := gq_sys (c1 := b1.1) (s1 := b1.2) sy2 hp2 hEA W3 KO i2
  have hVC : cl_V tyc ws3 := gq_V hVB (fun q hq => sm3 q (gq_no_ok no0 q hq).1)
  refine gq_call (Y := Y2) (n := n2) (mj := m2) (rt := 1) (S := S2) (bb := bb2) (r := rA) (N := gq_E.1) (L := h.2.1) F hl sy2 gn2 f8 met2 ⟨by omega, by omega⟩ hVC.pw (gq_Mof KO gg2) hpr2 hL6' (gq_ss_ok (gq_ik_A i2) f7 hSt6') hWd2 hS6 ⟨by rw [rc2, ← hc1]; exact hbd1, by rw [rs2, ← hc2]; exact hbd2⟩ (fun T2 locs2 v2 st2 r3 M3 ws4 c4 po2 re2 W4 hE3 K4 MM4 sm4 hS4 => ?_)
  have re2 : ∃ i : Int32, v2 = some i.toInt ∧ st2 = [.int i] := re2
  obtain ⟨j, hv2, rfl⟩ := re2
  obtain ⟨rF, t1, t2, t0, ta, tv, tx, tg1, tg2, ts2, tsp, tJ⟩ := hm2 r3 M3 v2 po2 hE3 (fun a ha => by
    rw [hv2] at ha
    cases ha
    exact ai_i32 j)
  have hVD : cl_V tyc ws4 := gq_V hVC (fun q hq => sm4 q (gq_nq_ok no2 q hq).1 (gq_nq_ok no2 q hq).2)
  have hEF : ai_gE rF gq_E := gq_gEB (fun x hx => by
    rcases List.mem_append.mp hx with hx | hx
    · rw [tg1 x hx]
      exact gq_xg_ok MM2 (List.all_eq_true.mp xg1 x hx)
    · rw [tg2 x hx]
      exact gq_xg_ok MM4 (List.all_eq_true.mp xg2 x hx)) hE4 hE2 hE3 t0 t1 t2 z00 o5 (by rw [ta]; exact hb1') ts2
  have hc : ∀ q, 16 ≤ q → q < 336 → ∀ d, ai_cell hF q = some d → gq_at tyc ws4 rF ad6 gq_E.1 q d := fun q q1 q2 d hd => by
    have g := List.all_eq_true.mp o1 q (List.mem_range.mpr q2)
    unfold gq_fk at g
    rw [hd] at g
    have g := (Bool.and_eq_true _ _ ▸ g : _ ∧ _).2
    have back : ∀ {rr : Nat → Int} {N : Nat} {hh : ai_H} {cc : Nat → Nat → Int} {PP : Nat → Bool}, gq_K tyc ws3 rr ad6 N hh cc PP → PP q = true → gq_ot Y2 q = true → ∀ d0, ai_cell hh q = some d0 → gq_at tyc ws4 rr ad6 N q d0 ∧ gq_ar tyc ws4 rr ad6 N q cc d0 := fun K hp hn d0 hd0 => gq_K.mv (P2 := fun z => decide (z = q)) K (fun z z1 z2 hz => by
      have hz : z = q := of_decide_eq_true hz
      subst hz
      refine ⟨hp, sm4 (z - 16) (by omega) ?_⟩
      rw [show z - 16 + 16 = z by omega]
      exact hn) q q1 q2 (decide_eq_true rfl) d0 hd0
    have dis : gq_ot Y1 q = false → gq_ot Y2 q = true := fun ho => by
      cases ey2 : ai_cell Y2.2.1 q with
      | some d2 =>
        have := gq_ik_P i2 q2 ey2
        rw [ho] at this
        cases this
      | none =>
        cases eg2 : gq_fg Y2 q with
        | none => exact gq_fg_no eg2 ey2
        | some g2 =>
          obtain ⟨w1, w2⟩ := gq_fg_ok eg2
          have w := List.all_eq_true.mp gg2 g2 w1
          unfold gq_g1 at w
          simp only [Bool.and_eq_true] at w
          rw [w2, ho] at w
          cases w.1.2
    cases ey1 : ai_cell Y1.2.1 q with
    | some d1 =>
      rw [ey1] at g
      have n2 : gq_ot Y2 q = true := dis (by
        unfold gq_ot
        rw [ey1]
        rfl)
      obtain ⟨a, aa⟩ := back KA rfl n2 d1 ey1
      refine gq_cc_ok hE2 hEF.1 hEF.2.1 (fun t ht => ⟨hB t (Or.inr (Or.inl ht)), t1 t ht⟩) (fun z hz => ?_) a aa g
      obtain ⟨y, hy, rfl⟩ := List.mem_map.mp hz
      have gx := List.all_eq_true.mp o2 y hy
      unfold gq_xf at gx
      split at gx
      · rename_i ty mm lo hi' ll ec
        simp only [Bool.and_eq_true] at gx
        obtain ⟨⟨⟨k1, k2⟩, k3, k4⟩, k5⟩ := gx
        obtain ⟨-, ga⟩ := K2 y.2.1 (Nat.le_of_ble_eq_true k1) (Nat.le_of_ble_eq_true k2) rfl _ ec
        obtain ⟨-, gov, -⟩ := ga _ _ _ _ _ rfl
        have gov := gov y.2.2.1 (Nat.le_of_ble_eq_true k3)
        cases ef : ll.find? (fun z => ai_eq z.1.2 (.ofNat y.2.2.1)) with
        | none =>
          rw [ef] at k5
          cases k5
        | some zz =>
          rw [ef] at k5
          simp only [Bool.and_eq_true] at k5
          have w1 := Nat.eq_of_beq_eq_true k5.1
          have w2 := cx_q_ok k5.2
          have w3 := ai_eq_iff.mp (List.find?_some (p := fun (z : ai_X × ai_X) => ai_eq z.1.2 (.ofNat y.2.2.1)) ef)
          obtain ⟨⟨za, zb⟩, zc⟩ := zz
          have w1 : za = 0 := w1
          have w2 : zc = (y.2.2.2, 0) := w2
          have w3 : zb = ((y.2.2.1 : Nat) : Int) := w3
          subst w1 w2 w3
          have w := gl_at hE2.1 (fun z hz => Nat.eq_of_beq_eq_true (List.all_eq_true.mp k4 z hz)) ef gov
          show rF y.1 = c2 y.2.1 y.2.2.1
          rw [tx y hy, w]
          exact (Int.add_zero _).symm
      · cases gx
    | none =>
      rw [ey1] at g
      cases eg1 : gq_fg Y1 q with
      | some g1 =>
        rw [eg1] at g
        obtain ⟨w1, w2⟩ := gq_fg_ok eg1
        have n1 : gq_ot Y1 q = false := by
          cases e : gq_ot Y1 q with
          | false => rfl
          | true =>
            unfold gq_ot at e
            rw [Bool.and_eq_true] at e
            have := List.all_eq_true.mp e.2 g1 w1
            rw [w2, Nat.beq_refl] at this
            cases this
        have n2 := dis n1
        have m4 : pt_A tyc ws4 g1.1 g1.2.1 g1.2.2 (M2 g1.1) := gq_Mmv (Gh := [g1]) (ws := ws2) (fun z hz => by
          rcases List.mem_cons.mp hz with rfl | hz
          · exact MM2 _ w1
          · cases hz) (fun z hz => by
          rcases List.mem_cons.mp hz with rfl | hz
          · rw [w2]
            refine (sm4 (q - 16) (by omega) ?_).trans (sm3 (q - 16) (by omega))
            rw [show q - 16 + 16 = q by omega]
            exact n2
          · cases hz) g1 List.mem_cons_self
        have g : gq_gf XG1 331 g1.1 g1.2.1 g1.2.2 d = true := g
        rw [w2] at m4 g
        exact gq_gf_ok W4 q1 hEF.1 hEF.2.1 (fun z hz h1 h2 => by rw [← h1]; exact tg1 z hz) m4 g
      | none =>
        rw [eg1] at g
        have o1' := gq_fg_no eg1 ey1
        cases ey2 : ai_cell Y2.2.1 q with
        | some d2 =>
          rw [ey2] at g
          obtain ⟨a, aa⟩ := K4 q q1 q2 rfl d2 ey2
          exact gq_cc_ok hE3 hEF.1 hEF.2.1 (fun t ht => ⟨hB t (Or.inr (Or.inr ht)), t2 t ht⟩) (fun z hz => by cases hz) a aa g
        | none =>
          rw [ey2] at g
          cases eg2 : gq_fg Y2 q with
          | some g2 =>
            rw [eg2] at g
            obtain ⟨w1, w2⟩ := gq_fg_ok eg2
            have m4 := MM4 g2 w1
            have g : gq_gf XG2 331 g2.1 g2.2.1 g2.2.2 d = true := g
            rw [w2] at m4 g
            exact gq_gf_ok W4 q1 hEF.1 hEF.2.1 (fun z hz h1 h2 => by rw [← h1]; exact tg2 z hz) m4 g
          | none =>
            rw [eg2] at g
            have o2' := gq_fg_no eg2 ey2
            cases ey0 : ai_cell lx_h q with
            | none =>
              rw [ey0] at g
              cases g
            | some d0 =>
              rw [ey0] at g
              obtain ⟨a, aa⟩ := back KO o1' o2' d0 ey0
              refine gq_cc_ok hEA hEF.1 hEF.2.1 (fun t ht => ⟨hB t (Or.inl ht), ?_⟩) (fun z hz => by cases hz) a aa g
              by_cases et : t = 329
              · rw [et, ta, rAsp]
              · rw [rAne t et]
                exact t0 t ht
  have hLF : ai_gL rF ad6 gq_E.1 336 7 h.2.1 ls6 := gq_lo_ok f6 (fun t ht => by
    have ht : t = 0 ∨ t = 1 ∨ t = 329 := by simpa using ht
    rcases ht with rfl | rfl | rfl
    · exact ⟨by show 0 < 331; omega, (t0 0 z00).trans (rAne 0 (by omega)).symm⟩
    · exact ⟨by show 1 < 331; omega, (t0 1 z01).trans (rAne 1 (by omega)).symm⟩
    · exact ⟨by show 329 < 331; omega, ta.trans rAsp.symm⟩) hL6'
  have RF : ai_Rel D tyc A s sa ws4 7 rF ad6 h.2.1 [.inl x2] (gq_E, hF, b1.1 + b2.1, b1.2 + b2.2) T2 locs2 ls6 [.int j] := ai_Wd.rel (gq_to o3 o4 hEF W4 hc) hS4 (by
    show ai_gL rF ad6 gq_E.1 hF.1 7 h.2.1 ls6
    rw [o3]
    exact hLF) ⟨⟨hx2, j, rfl, gq_some (hv2.symm.trans tv)⟩, trivial⟩
  have R3 := gq_sps_ok (q := sp3) RF tsp o4
  obtain ⟨s1, s2, s3⟩ := gq_spsE (l := sp3) (G := (gq_E, hF, b1.1 + b2.1, b1.2 + b2.2))
  have sN : (gq_sps sp3 (gq_E, hF, b1.1 + b2.1, b1.2 + b2.2)).1.1 = 331 := by
    rw [s1]
    rfl
  have sH : (gq_sps sp3 (gq_E, hF, b1.1 + b2.1, b1.2 + b2.2)).2.1.1 = 336 := by
    rw [s2]
    exact o3
  split at f9
  case h_2 => cases f9
  rename_i fs3 hrun3
  have eF1 : rF 1 = r 1 := (t0 1 z01).trans e41
  have had6 : ad6 0 = b := (u2 0 (by omega)).trans had5
  rw [rc2, rs2]
  have res := lx_ok (k0 := 60) (T := []) (G := gq_sps sp3 (gq_E, hF, b1.1 + b2.1, b1.2 + b2.2)) (e := e) (below := below) (Q := Q) F hl trivial (by omega) (by omega) hVD.pw hsa 16 gq_rd false (pc2 + 3) h.2.1 _ fs3 rF ad6 T2 locs2 ls6 [.int j] hrun3 R3 (by rw [sN]; omega) (by rw [sH]; omega) (by rw [eF1]; exact hi) had6 (by
    rw [eF1]
    exact fun q hq => by
      rw [← hrd q hq]
      rw [gq_rdok] at hq
      obtain ⟨z, hz, rfl⟩ := List.mem_map.mp hq
      show rF (320 + z) + 0 = r4 (320 + z) + 0
      rw [t0 _ (List.all_eq_true.mp z0r z hz)]) (by rw [sN]; exact rlE) (fun f hf r8 ad8 n1' n2' n3' n4' H8 locs8 ls8 st8 hR8 => ?_)
  · rw [s3] at res
    exact res
  have hck3 := List.all_eq_true.mp f9 f hf
  rw [sN] at n1'
  rw [sH] at n2'
  have hEv := gq_gEv (by omega) hE hEF (fun t ht ht2 => (t0 t ht).trans (x4 t ht2)) ckv
  obtain ⟨e1, e2, e3, rE, hRE, w1, w2, wJ⟩ := lx_fullJ hEv tJ (by omega) hPf hck3 (fun t ht => n1' t (by omega)) hR8
  rw [e1]
  exact kn v k ws4 rE ad8 H8 locs8 ls8 st8 _ _ hvk hk4 e2 e3 ⟨hVD, wJ⟩ hRE (by rw [w1, n1' 1 (by omega), eF1]) (by rw [w2, n1' 103 (by omega), t0 _ z0m, x4 _ (by omega), h110, Int.add_zero]) ((n2' 0 (by omega)).trans had6)
end GQTB
