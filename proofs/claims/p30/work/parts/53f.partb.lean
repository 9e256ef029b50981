/-! THE PARSER: readPart: the walk -/
theorem pz_all1 {x : ai_X} {t : Nat} (h : t < 44) : ([(44, x)] : List (Nat × ai_X)).all (fun q => !(Nat.beq q.1 t)) = true := by
  rw [List.all_cons, List.all_nil, Bool.and_true]
  cases q : Nat.beq 44 t with
  | false => rfl
  | true => exact absurd (Nat.eq_of_beq_eq_true q) (by omega)
theorem pz_ne2n {t : Nat} {x y : ai_X} (h3 : pz_tc t = false) : ([(14, x), (15, y)] : List (Nat × ai_X)).all (fun q => !(Nat.beq q.1 t)) = true := pz_ne2 (fun q => pz_tc_n h3 (by omega)) (fun q => pz_tc_n h3 (by omega))
theorem pz_I_em {v : Int} {r r' : Nat → Int} {g g' : Nat → Int32} (hE : em_Post v r g r' g') (h : pz_I r) : pz_I r' := by
  have hs : ∀ t, 1 ≤ t → t < 44 → t ≠ 17 → r' t = r t := fun t h1 h2 h3 => by
    by_cases q : r 14 = 0
    · exact (hE.2 q).1 t h1 h2 h3
    · exact (hE.1 q).1 t h1 h2
  obtain ⟨i1, i2, i3, i4, i5⟩ := h
  have e7 := hs 7 (by omega) (by omega) (by omega)
  have e9 := hs 9 (by omega) (by omega) (by omega)
  have e12 := hs 12 (by omega) (by omega) (by omega)
  have e13 := hs 13 (by omega) (by omega) (by omega)
  exact ⟨by omega, by omega, by omega, by omega, fun q => by have := i5 (by omega); omega⟩
theorem em_same {v : Int} {r r' : Nat → Int} {g g' : Nat → Int32} (hE : em_Post v r g r' g') {t : Nat} (h1 : 1 ≤ t) (h2 : t < 44) (h3 : t ≠ 17) : r' t = r t := by
  by_cases q : r 14 = 0
  · exact (hE.2 q).1 t h1 h2 h3
  · exact (hE.1 q).1 t h1 h2
section PT
variable {n M : Nat} {b : Bool} {a : Nat}
set_option maxHeartbeats 2000000 in
theorem pz_part (ha : a < 7) (hn : 45 ≤ n) (hE : b = true → ∀ vs : List Int32, vs.map Int32.toInt = [.ofNat (a + 1)] → pz_Ct n 201 false vs (pz_XP true) (pz_X M)) (hM : 1 ≤ M) : ∀ vs : List Int32, vs.map Int32.toInt = [.ofNat a] → pz_Ct (n + 1) 196 false vs (pz_XP b) (pz_X M) := by
  obtain ⟨⟨l1, l2, l3, l4, l5, l6, l7, l8⟩, ⟨b1, b2, b3, b4, b5, b6, b7, b8⟩, ⟨n1, n2, n3, n4, n5, n6, n7, n8⟩, v1q, v3, v4, v5, v6, v7, v8⟩ := pz_pl
  obtain ⟨d1, d2, d3, d4, d5, d6, d7, d8, d9, d10⟩ := pz_dc
  have hk := pt_kk a ha
  have hk2 := pt_kk2 a ha
  have hk3 := pt_kk3 a ha
  unfold pt_k at hk
  unfold pt_k2 at hk2
  unfold pt_k3 at hk3
  simp only [Bool.and_eq_true] at hk hk2 hk3
  obtain ⟨A0, A2, A1, A3, A4, A5⟩ := hk
  obtain ⟨B1, B2, B3, B4, B5, B6, B7, B8, B9⟩ := hk2
  obtain ⟨C1, C2, C3, C4, C5, C6, C7, C8⟩ := hk3
  intro vs hvs
  have evs : vs = [(.ofNat a : Int)].map Int32.ofInt := by
    obtain ⟨v, l', rfl, h1, h2⟩ := List.map_eq_cons_iff.mp hvs
    have h2 := List.map_eq_nil_iff.mp h2
    subst h2
    rw [← h1]
    show [v] = [Int32.ofInt v.toInt]
    rw [Int32.ofInt_toInt]
  rw [evs]
  refine pz_new (n := n) (nb := []) (aa := [pz_this, .inl (0, .ofNat a)]) (L0 := pz_L3 a) (fun _ => True) l3 (by rw [n3]; rfl) (fun r ad hE => pz_in0 (tail := [.ofNat a]) (by
    rw [List.all_cons, List.all_nil, Bool.and_true, Bool.and_eq_true]
    exact ⟨ai_le_iff.mpr (by unfold ai_lo32; show (-2147483648 : Int) ≤ (a : Int); omega), ai_le_iff.mpr (by unfold ai_hi32; show (a : Int) ≤ 2147483647; omega)⟩) r ad hE) (fun l D tyc A sa hl ws g r0 r ad hW hPre hx _ p e s m args below meth c ls F hret hR => ?_)
  have hx1 : ∀ t, 1 ≤ t → t < 44 → r t = r0 t := fun t _ h2 => hx t h2
  have hb := pz_bd (nb := []) hR.env
  have emv : ∀ (x : ai_X) (r1 : Nat → Int) (vs : List Int32), vs.map Int32.toInt = [ai_vx r1 x] → pz_Ct n 194 false vs em_Pre (em_Post (ai_vx r1 x)) := fun x r1 vs hvs => by
    obtain ⟨v, l', rfl, h1, h2⟩ := List.map_eq_cons_iff.mp hvs
    have h2 := List.map_eq_nil_iff.mp h2
    subst h2
    rw [← h1]
    exact (pz_emit v).mono (by omega)
  -- the end
  have fin : ∀ {ws1 : va_W} {g1 : Nat → Int32} {r1 : Nat → Int} {H : Heap} {locs : List Loc} {ls : Array Slot} {st : List Value} {pc : Nat} {L : List ai_V} {nb : List (Int × Int)}, (pc = 113 ∨ pc = 7) → pz_sm ws ws1 → pz_W tyc ws1 g1 → ai_Rel D tyc A s sa ws1 (ct_mt 196).2.2.1 r1 ad L [] (pz_G nb) H locs ls st → pz_X M r0 g r1 g1 → W p l e (lt_rm (n + 1) 196) s m args below meth c H locs 0 0 (pz_Q below D tyc A sa ws r0 g ad args s n 196 (pz_X M)) (F0 m pc ls st) := fun {ws1 g1 r1 H locs ls st pc L nb} hpc h1 h2 h3 h4 => by
    rcases hpc with rfl | rfl
    · exact pz_ret rfl F hret d10 v3 h1 h2 h3 h4
    · exact pz_ret rfl F hret d9 v3 h1 h2 h3 h4
  by_cases h14 : r 14 = 0
  · have h0 : r0 14 = 0 := (hx 14 (by omega)).symm.trans h14
    obtain ⟨hbt, hI, hle⟩ := hPre h0
    have hbad : ∀ {ws1 : va_W} {g1 : Nat → Int32} {r1 : Nat → Int}, (∀ q, q < 1600 + (r0 17).toNat → g1 q = g q) → pz_fx r0 r1 → r1 14 ≠ 0 → pz_X M r0 g r1 g1 := fun {ws1 g1 r1} h1 hf h2 => ⟨fun q => absurd h0 q, fun _ => ⟨⟨h1, hf⟩, fun q => absurd q h2⟩⟩
    have hI' := hI
    obtain ⟨i1, i2, i3, i4, i5⟩ := hI'
    have c17 : r 17 = r0 17 := hx 17 (by omega)
    have caps : ∀ lo hi : Int, lo ≤ r 9 → r 9 ≤ hi → ∀ q ∈ ([(14, (0, 0)), (9, (lo, hi))] : List (Nat × Int × Int)), q.1 < 44 + ([] : List (Int × Int)).length ∧ q.2.1 ≤ r q.1 ∧ r q.1 ≤ q.2.2 := fun lo hi k1 k2 q hq => by
      rcases List.mem_cons.mp hq with rfl | hq
      · exact ⟨by show 14 < 44; omega, by show (0 : Int) ≤ r 14; omega, by show r 14 ≤ (0 : Int); omega⟩
      · rcases List.mem_cons.mp hq with rfl | hq
        · exact ⟨by show 9 < 44; omega, k1, k2⟩
        · cases hq
    have e9 := hx 9 (by omega)
    have bad : ∀ f : ai_F, pz_to [] 113 pt_us [] pt_bad f = true → ∀ (r' : Nat → Int) (ad' : Nat → Nat), ai_ext (44 + ([] : List (Int × Int)).length) r r' → ai_ext 336 ad ad' → ∀ (H' : Heap) (locs' : List Loc) (ls' : Array Slot) (st' : List Value), ai_Rel D tyc A s sa ws (ct_mt 196).2.2.1 r' ad' f.2.1 f.2.2.1 f.2.2.2 H' locs' ls' st' → W p l e (lt_rm (n + 1) 196) s m args below meth c H' locs' f.2.2.2.2.2.1 f.2.2.2.2.2.2 (pz_Q below D tyc A sa ws r0 g ad args s n 196 (pz_X M)) (F0 m f.1 ls' st') := fun f hf r' ad' x1 x2 H' locs' ls' st' hR' => by
      obtain ⟨e1, e2, e3, r1, hR1, u1, u2⟩ := pz_to_ok hf x2 hR'
      rw [e1, e2, e3]
      have e14 : r1 14 = 1 := by
        have : r1 14 = r' 0 + 1 := u2 _ List.mem_cons_self
        rw [this, hR'.env.1]
        rfl
      exact fin (Or.inl rfl) pz_sm.rf hW hR1 (hbad (ws1 := ws) (fun _ _ => rfl) (fun t h1 h2 h3 => (u1 t h1 h2 (pz_ne2 (fun q => pz_tc_n h3 (by omega)) (fun q => pz_tc_n h3 (by omega)))).trans ((x1 t h2).trans (hx1 t h1 h2))) (by omega))
    by_cases q2 : r 9 = 2
    · -- a number
      refine pz_seg (k0 := 0) A2 l3 F hl (show lt_all 0 [] from trivial) (by omega) hW hR (caps 2 2 (by omega) (by omega)) (fun f hf r' ad' x1 x2 H' locs' ls' st' hR' => ?_)
      obtain ⟨e1, e2, e3, r1, hR1, u1, u2⟩ := pz_to_ok hf x2 hR'
      rw [e1, e2, e3]
      have v1 : ∀ t, 1 ≤ t → t < 44 → r1 t = r0 t := fun t h1 h2 => (pz_un x1 u1 t h1 h2).trans (hx1 t h1 h2)
      refine pz_calli (xs := []) l3 l2 (by omega) b2 F hl C1 hW hR1 rfl rfl (fun vs hvs => ?_) (Pre := rn_Pre) (Post := rn_Post) ⟨by rw [v1 14 (by omega) (by omega)]; exact h0, pz_I_cg hI v1, by rw [v1 9 (by omega) (by omega)]; omega⟩ (fun ws2 g2 r2' r2 H2 locs2 st2 m1 m2 m3 m4 hR2 => ?_)
      · have : vs = [] := List.map_eq_nil_iff.mp hvs
        rw [this]
        exact pz_number.mono (by omega)
      · obtain ⟨s1, s2, sf⟩ := m3
        subst s1
        have eN : (pz_G []).1.1 = 44 := pz_N.1
        rw [eN] at m4 hR2
        have hR2 : ai_Rel D tyc A s sa ws2 (ct_mt 196).2.2.1 r2 ad (pz_L3 a) [.inl (44, 0)] (pz_G [rn_b]) H2 locs2 ls' st2 := hR2
        have v2 : ∀ t, 1 ≤ t → t < 44 → r2 t = r2' t := fun t h1 h2 => (m4 t h2).trans (pz_mixv h2)
        refine pz_seg (k0 := 0) B1 l3 F hl (show lt_all 0 [] from trivial) (by omega) m2 hR2 (fun q hq => by cases hq) (fun f3 hf3 r3' ad3 y1 y2 H3 locs3 ls3 st3 hR3' => ?_)
        obtain ⟨e1, e2, e3, r3, hR3, u3, u4⟩ := pz_to_ok hf3 y2 hR3'
        rw [e1, e2, e3]
        have y1 : ai_ext 45 r2 r3' := y1
        have v3 : ∀ t, 1 ≤ t → t < 44 → r3 t = r2' t := fun t h1 h2 => (u3 t h1 h2 (pz_all1 h2)).trans ((y1 t (by omega)).trans (v2 t h1 h2))
        have f14 := v3 14 (by omega) (by omega)
        have f17 := v3 17 (by omega) (by omega)
        have f12 := v3 12 (by omega) (by omega)
        have w17 := v1 17 (by omega) (by omega)
        have w12 := v1 12 (by omega) (by omega)
        have hb3 := pz_bd hR3.env
        refine pz_callv (xs := [(0, 0)]) l3 em_k.1 (by omega) em_k.2.2.1 F hl C2 m2 hR3 rfl rfl (emv (0, 0) r3) (Pre := em_Pre) (Post := em_Post (ai_vx r3 (0, 0))) (fun q => ?_) (fun ws4 g4 r4' H4 locs4 st4 k1 k2 k3 hR4 => ?_)
        · obtain ⟨z1, z2, z3⟩ := s2 (by omega)
          obtain ⟨j1, j2, j3, j4, j5⟩ := z1
          omega
        · have vz : ai_vx r3 (0, 0) = 0 := by
            show r3 0 + 0 = 0
            rw [hR3.env.1]
            rfl
          refine pz_seg (k0 := 0) B2 l3 F hl (show lt_all 0 [] from trivial) (by omega) k2 hR4 (fun q hq => by cases hq) (fun f5 hf5 r5' ad5 z1 z2 H5 locs5 ls5 st5 hR5' => ?_)
          obtain ⟨e1, e2, e3, r5, hR5, u5, u6⟩ := pz_to_ok hf5 z2 hR5'
          rw [e1, e2, e3]
          have z1 : ai_ext 45 (pz_mix r4' r3) r5' := z1
          have v5 : ∀ t, 1 ≤ t → t < 44 → r5 t = r4' t := fun t h1 h2 => (u5 t h1 h2 (pz_all1 h2)).trans ((z1 t (by omega)).trans (pz_mixv h2))
          have g14 := v5 14 (by omega) (by omega)
          have g17 := v5 17 (by omega) (by omega)
          have s14 := em_same k3 (t := 14) (by omega) (by omega) (by omega)
          have s12 := em_same k3 (t := 12) (by omega) (by omega) (by omega)
          refine pz_callv (xs := [(44, 0)]) l3 em_k.1 (by omega) em_k.2.2.1 F hl C3 k2 hR5 rfl rfl (emv (44, 0) r5) (Pre := em_Pre) (Post := em_Post (ai_vx r5 (44, 0))) (fun q => ?_) (fun ws6 g6 r6' H6 locs6 st6 t1 t2 t3 hR6 => ?_)
          · obtain ⟨z1, z2, z3⟩ := s2 (by omega)
            obtain ⟨j1, j2, j3, j4, j5⟩ := z1
            have := (k3.2 (by omega)).2.1
            omega
          · refine pz_seg (k0 := 0) B3 l3 F hl (show lt_all 0 [] from trivial) (by omega) t2 hR6 (fun q hq => by cases hq) (fun f7 hf7 r7' ad7 a1 a2 H7 locs7 ls7 st7 hR7' => ?_)
            obtain ⟨e1, e2, e3, r7, hR7, u7, u8⟩ := pz_to_ok hf7 a2 hR7'
            rw [e1, e2, e3]
            have a1 : ai_ext 45 (pz_mix r6' r5) r7' := a1
            have v7 : ∀ t, 1 ≤ t → t < 44 → r7 t = r6' t := fun t h1 h2 => (u7 t h1 h2 rfl).trans ((a1 t (by omega)).trans (pz_mixv h2))
            have q14 := v7 14 (by omega) (by omega)
            have q17 := v7 17 (by omega) (by omega)
            have q12 := v7 12 (by omega) (by omega)
            have o14 := em_same t3 (t := 14) (by omega) (by omega) (by omega)
            have o12 := em_same t3 (t := 12) (by omega) (by omega) (by omega)
            have g12 := v5 12 (by omega) (by omega)
            have ff : pz_fx r0 r7 := (((((pz_fx.al v1).tr sf).cg v3).tr (pz_fx.em k3)).cg v5 |>.tr (pz_fx.em t3)).cg v7
            by_cases hz : r2' 14 = 0
            · obtain ⟨z1, z2, z3⟩ := s2 hz
              obtain ⟨k31, k32, k33, k34⟩ := k3.2 (by omega)
              obtain ⟨t31, t32, t33, t34⟩ := t3.2 (by omega)
              have hI7 : pz_I r7 := pz_I_cg (pz_I_em t3 (pz_I_cg (pz_I_em k3 (pz_I_cg z1 v3)) v5)) v7
              refine fin (Or.inl rfl) ((m1.tr k1).tr t1) t2 hR7 ⟨fun q => absurd h0 q, fun _ => ⟨⟨fun q hq => ?_, ff⟩, fun _ => ⟨hI7, by omega, by omega, by omega, ?_⟩⟩⟩
              · rw [t34 q (by omega), k34 q (by omega)]
              · have ee : (r7 17).toNat = (r0 17).toNat + 2 := by omega
                rw [ee]
                refine (pz_V_push ?_).mono hM
                have e17 : (r3 17).toNat = (r0 17).toNat := by omega
                rw [t34 _ (by omega), ← e17, k33, vz]
            · obtain ⟨k31, k32⟩ := k3.1 (by omega)
              obtain ⟨t31, t32⟩ := t3.1 (by omega)
              exact fin (Or.inl rfl) ((m1.tr k1).tr t1) t2 hR7 (hbad (ws1 := ws) (fun q _ => by rw [t32, k32]) ff (by omega))
    · by_cases q1 : r 9 = 1
      · -- a word
        refine pz_seg A1 l3 F hl pt_T_ok (by omega) hW hR (caps 1 1 (by omega) (by omega)) (fun f hf r' ad' x1 x2 H' locs' ls' st' hR' => ?_)
        have x1 : ai_ext 44 r r' := x1
        unfold pt_c2 at hf
        rw [Bool.or_eq_true] at hf
        rcases hf with hf | hf
        · obtain ⟨e1, e2, e3, r1, hR1, u1, u2⟩ := pz_to_ok hf x2 hR'
          rw [e1, e2, e3]
          have v1 : ∀ t, 1 ≤ t → t < 44 → r1 t = r0 t := fun t h1 h2 => (pz_un x1 u1 t h1 h2).trans (hx1 t h1 h2)
          have w14 := v1 14 (by omega) (by omega)
          have w17 := v1 17 (by omega) (by omega)
          have w12 := v1 12 (by omega) (by omega)
          have w9 := v1 9 (by omega) (by omega)
          have b44 : (20 : Int) ≤ r1 44 ∧ r1 44 ≤ 24 := (hR1.env.2.2.2.1 (44, 20, 24) (by
            have hm : (44, ((20 : Int), (24 : Int))) ∈ sm_nb pz_E.1 [((20 : Int), (24 : Int))] := by
              rw [pz_N.1]
              exact List.mem_cons_self
            exact List.mem_append_left _ hm)).2
          have i5 := i5 (by omega)
          refine pz_callv (xs := [(44, 0)]) l3 em_k.1 (by omega) em_k.2.2.1 F hl C4 hW hR1 rfl rfl (emv (44, 0) r1) (Pre := em_Pre) (Post := em_Post (ai_vx r1 (44, 0))) (fun q => by omega) (fun ws2 g2 r2' H2 locs2 st2 m1 m2 m3 hR2 => ?_)
          have v44 : ai_vx r1 (44, 0) = r1 44 := Int.add_zero _
          have sf := pz_fx.em m3
          obtain ⟨s1, s2, s3, s4⟩ := m3.2 (by omega)
          have hw2 : ∀ t, t < 44 → pz_mix r2' r1 t = r2' t := fun t ht => pz_mixv ht
          have hR2 : ai_Rel D tyc A s sa ws2 (ct_mt 196).2.2.1 (pz_mix r2' r1) ad (pz_L3 a) [] (pz_G [(20, 24)]) H2 locs2 ls' st2 := hR2
          have hR2' : ai_Rel D tyc A s sa ws2 (ct_mt 196).2.2.1 (pz_mix r2' r1) ad (pz_L3 a) [] (pz_G [rn_b]) H2 locs2 ls' st2 := by
            refine hR2.re (E' := sm_E pz_E [rn_b]) ai_ext.rfl' (Nat.le_refl _) ?_ hR2.stk
            have hE2 := hR2.env
            refine ⟨hE2.1, hE2.2.1, hE2.2.2.1, fun q hq => ?_, fun q hq => by cases hq⟩
            rcases List.mem_append.mp hq with hq | hq
            · rcases List.mem_cons.mp hq with rfl | hq
              · have h44 : pz_mix r2' r1 44 = r1 44 := pz_mix_hi (Nat.le_refl _)
                have e44 : pz_E.1 = 44 := pz_N.1
                refine ⟨by show pz_E.1 < pz_E.1 + 1; omega, ?_, ?_⟩
                · show ai_lo32 ≤ pz_mix r2' r1 pz_E.1
                  rw [e44, h44]
                  unfold ai_lo32
                  omega
                · show pz_mix r2' r1 pz_E.1 ≤ ai_hi32
                  rw [e44, h44]
                  unfold ai_hi32
                  omega
              · cases hq
            · exact hE2.2.2.2.1 q (List.mem_append_right _ hq)
          have y14 : pz_mix r2' r1 14 = 0 := by
            rw [hw2 14 (by omega), s1 14 (by omega) (by omega) (by omega), w14]
            exact h0
          refine pz_seg (k0 := 0) B4 l3 F hl (show lt_all 0 [] from trivial) (by omega) m2 hR2' (fun q hq => ?_) (fun f3 hf3 r3' ad3 y1 y2 H3 locs3 ls3 st3 hR3' => ?_)
          · rcases List.mem_cons.mp hq with rfl | hq
            · exact ⟨by show 14 < 45; omega, by show (0 : Int) ≤ pz_mix r2' r1 14; omega, by show pz_mix r2' r1 14 ≤ (0 : Int); omega⟩
            · cases hq
          · obtain ⟨e1, e2, e3, r3, hR3, u3, u4⟩ := pz_to_ok hf3 y2 hR3'
            rw [e1, e2, e3]
            have y1 : ai_ext 45 (pz_mix r2' r1) r3' := y1
            have v3 : ∀ t, 1 ≤ t → t < 44 → r3 t = r2' t := fun t h1 h2 => (u3 t h1 h2 rfl).trans ((y1 t (by omega)).trans (hw2 t h2))
            refine pz_callv (xs := []) l3 em_k.2.1 (by omega) em_k.2.2.2.1 F hl C5 m2 hR3 rfl rfl (fun vs hvs => ?_) trivial (Pre := fun _ _ => True) (Post := sq_Post) (fun ws4 g4 r4' H4 locs4 st4 k1 k2 k3 hR4 => ?_)
            · have : vs = [] := List.map_eq_nil_iff.mp hvs
              rw [this]
              exact pz_step.mono (by omega)
            · have pf := pz_fx.sq k3
              obtain ⟨p1, p2, p3, p4⟩ := k3
              refine pz_seg (k0 := 0) B6 l3 F hl (show lt_all 0 [] from trivial) (by omega) k2 hR4 (fun q hq => by cases hq) (fun f5 hf5 r5' ad5 z1 z2 H5 locs5 ls5 st5 hR5' => ?_)
              obtain ⟨e1, e2, e3, r5, hR5, u5, u6⟩ := pz_to_ok hf5 z2 hR5'
              rw [e1, e2, e3]
              have v5 : ∀ t, 1 ≤ t → t < 44 → r5 t = r4' t := fun t h1 h2 => (pz_un z1 u5 t h1 h2).trans (pz_mixv h2)
              have g17 : r5 17 = r0 17 + 1 := by rw [v5 17 (by omega) (by omega), p2 17 (by omega) (by omega) rfl, v3 17 (by omega) (by omega), s2, w17]
              have g12 : r0 12 < r5 12 := by
                rw [v5 12 (by omega) (by omega)]
                have h7 : r3 7 = r0 7 := by rw [v3 7 (by omega) (by omega), s1 7 (by omega) (by omega) (by omega), v1 7 (by omega) (by omega)]
                omega
              refine fin (Or.inl rfl) (m1.tr k1) k2 hR5 ⟨fun q => absurd h0 q, fun _ => ⟨⟨fun q hq => ?_, ((((pz_fx.al v1).tr sf).cg v3).tr pf).cg v5⟩, fun _ => ⟨pz_I_cg p3 v5, by omega, by omega, g12, ?_⟩⟩⟩
              · rw [p1, s4 q (by rw [w17]; omega)]
              · have ee : (r5 17).toNat = (r0 17).toNat + 1 := by omega
                rw [ee, p1]
                refine (pz_V_val ?_).mono hM
                rw [← w17, s3, v44]
                exact b44
        · obtain ⟨e1, e2, e3, r1, hR1, u1, u2⟩ := pz_to_ok hf x2 hR'
          rw [e1, e2, e3]
          have e14 : r1 14 = 3 := by
            have : r1 14 = r' 0 + 3 := u2 _ List.mem_cons_self
            rw [this, hR'.env.1]
            rfl
          refine pz_callv (xs := [(44, 0)]) l3 em_k.1 (by omega) em_k.2.2.1 F hl C4 hW hR1 rfl rfl (emv (44, 0) r1) (Pre := em_Pre) (Post := em_Post (ai_vx r1 (44, 0))) (fun q => absurd q (by omega)) (fun ws2 g2 r2' H2 locs2 st2 m1 m2 m3 hR2 => ?_)
          have sf := pz_fx.em m3
          obtain ⟨s1, s2⟩ := m3.1 (by omega)
          have y14 : pz_mix r2' r1 14 = 3 := by
            rw [pz_mixv (by omega), s1 14 (by omega) (by omega), e14]
          refine pz_seg (k0 := 0) B5 l3 F hl (show lt_all 0 [] from trivial) (by omega) m2 hR2 (fun q hq => ?_) (fun f3 hf3 r3' ad3 y1 y2 H3 locs3 ls3 st3 hR3' => ?_)
          · rcases List.mem_cons.mp hq with rfl | hq
            · exact ⟨by show 14 < 45; omega, by show (1 : Int) ≤ pz_mix r2' r1 14; omega, by show pz_mix r2' r1 14 ≤ (3 : Int); omega⟩
            · cases hq
          · obtain ⟨e1, e2, e3, r3, hR3, u3, u4⟩ := pz_to_ok hf3 y2 hR3'
            rw [e1, e2, e3]
            have y1 : ai_ext 45 (pz_mix r2' r1) r3' := y1
            have h3 : r3 14 = 3 := by rw [u3 14 (by omega) (by omega) rfl, y1 14 (by omega), y14]
            have v3 : ∀ t, 1 ≤ t → t < 44 → r3 t = r2' t := fun t h1 h2 => (u3 t h1 h2 rfl).trans ((y1 t (by omega)).trans (pz_mixv h2))
            have v1 : pz_fx r0 r1 := fun t h1 h2 h3 => (u1 t h1 h2 (pz_ne2n h3)).trans ((x1 t h2).trans (hx1 t h1 h2))
            exact fin (Or.inl rfl) m1 m2 hR3 (hbad (ws1 := ws) (fun q _ => by rw [s2]) ((v1.tr sf).cg v3) (by omega))
      · by_cases q0 : r 9 = 0
        · exact pz_seg (k0 := 0) A3 l3 F hl (show lt_all 0 [] from trivial) (by omega) hW hR (caps 0 0 (by omega) (by omega)) (fun f hf => bad f hf)
        · by_cases q4 : r 9 = 4
          · exact pz_seg (k0 := 0) A5 l3 F hl (show lt_all 0 [] from trivial) (by omega) hW hR (caps 4 4 (by omega) (by omega)) (fun f hf => bad f hf)
          · -- a parenthesis
            refine pz_seg (k0 := 0) A4 l3 F hl (show lt_all 0 [] from trivial) (by omega) hW hR (caps 3 3 (by omega) (by omega)) (fun f hf r' ad' x1 x2 H' locs' ls' st' hR' => ?_)
            unfold pt_c4 at hf
            rw [Bool.or_eq_true] at hf
            rcases hf with hf | hf
            · obtain ⟨e1, e2, e3, r1, hR1, u1, u2⟩ := pz_to_ok hf x2 hR'
              rw [e1, e2, e3]
              have v1 : ∀ t, 1 ≤ t → t < 44 → r1 t = r0 t := fun t h1 h2 => (pz_un x1 u1 t h1 h2).trans (hx1 t h1 h2)
              have i5 := i5 (by omega)
              refine pz_callv (xs := []) l3 em_k.2.1 (by omega) em_k.2.2.2.1 F hl C6 hW hR1 rfl rfl (fun vs hvs => ?_) trivial (Pre := fun _ _ => True) (Post := sq_Post) (fun ws2 g2 r2' H2 locs2 st2 m1 m2 m3 hR2 => ?_)
              · have : vs = [] := List.map_eq_nil_iff.mp hvs
                rw [this]
                exact pz_step.mono (by omega)
              · have pf := pz_fx.sq m3
                obtain ⟨p1, p2, p3, p4⟩ := m3
                rw [p1] at m2
                refine pz_seg (k0 := 0) B7 l3 F hl (show lt_all 0 [] from trivial) (by omega) m2 hR2 (fun q hq => by cases hq) (fun f3 hf3 r3' ad3 y1 y2 H3 locs3 ls3 st3 hR3' => ?_)
                obtain ⟨e1, e2, e3, r3, hR3, u3, u4⟩ := pz_to_ok hf3 y2 hR3'
                rw [e1, e2, e3]
                have v3 : ∀ t, 1 ≤ t → t < 44 → r3 t = r2' t := fun t h1 h2 => (pz_un y1 u3 t h1 h2).trans (pz_mixv h2)
                have g14 : r3 14 = 0 := by rw [v3 14 (by omega) (by omega), p2 14 (by omega) (by omega) rfl, v1 14 (by omega) (by omega)]; exact h0
                have g17 : r3 17 = r0 17 := by rw [v3 17 (by omega) (by omega), p2 17 (by omega) (by omega) rfl, v1 17 (by omega) (by omega)]
                have g12 : r0 12 < r3 12 := by
                  rw [v3 12 (by omega) (by omega)]
                  have := v1 7 (by omega) (by omega)
                  omega
                refine pz_callv (xs := [(0, .ofNat (a + 1))]) l3 l8 (by omega) b8 F hl C7 m2 hR3 rfl rfl (fun vs hvs => hE hbt vs (hvs.trans ?_)) (Pre := pz_XP true) (Post := pz_X M) (fun _ => ⟨rfl, pz_I_cg p3 v3, by omega⟩) (fun ws4 g4 r4' H4 locs4 st4 k1 k2 k3 hR4 => ?_)
                · show [ai_vx r3 (0, .ofNat (a + 1))] = [.ofNat (a + 1)]
                  have : ai_vx r3 (0, .ofNat (a + 1)) = .ofNat (a + 1) := by
                    show r3 0 + _ = _
                    rw [hR3.env.1]
                    exact Int.zero_add _
                  rw [this]
                · refine pz_seg (k0 := 0) B8 l3 F hl (show lt_all 0 [] from trivial) (by omega) k2 hR4 (fun q hq => by cases hq) (fun f5 hf5 r5' ad5 z1 z2 H5 locs5 ls5 st5 hR5' => ?_)
                  obtain ⟨e1, e2, e3, r5, hR5, u5, u6⟩ := pz_to_ok hf5 z2 hR5'
                  rw [e1, e2, e3]
                  have v5 : ∀ t, 1 ≤ t → t < 44 → r5 t = r4' t := fun t h1 h2 => (pz_un z1 u5 t h1 h2).trans (pz_mixv h2)
                  have k3 : pz_X M r3 g r5 g4 := pz_X_cg k3 v5
                  obtain ⟨⟨ka, kf⟩, kb⟩ := k3.2 g14
                  refine pz_callv (xs := [(0, 41)]) l3 l1 (by omega) b1 F hl C8 k2 hR5 rfl rfl (fun vs hvs => (pz_need nd_k.1 (by omega) vs (hvs.trans ?_)).mono (by omega)) (Pre := nd_Pre) (Post := nd_Post) (fun q => (kb q).1) (fun ws6 g6 r6' H6 locs6 st6 t1 t2 t3 hR6 => ?_)
                  · show [ai_vx r5 (0, 41)] = [.ofNat 41]
                    have : ai_vx r5 (0, 41) = .ofNat 41 := by
                      show r5 0 + 41 = _
                      rw [hR5.env.1]
                      rfl
                    rw [this]
                  · obtain ⟨o1, o2, o3, of⟩ := t3
                    refine pz_seg (k0 := 0) B9 l3 F hl (show lt_all 0 [] from trivial) (by omega) t2 hR6 (fun q hq => by cases hq) (fun f7 hf7 r7' ad7 a1 a2 H7 locs7 ls7 st7 hR7' => ?_)
                    obtain ⟨e1, e2, e3, r7, hR7, u7, u8⟩ := pz_to_ok hf7 a2 hR7'
                    rw [e1, e2, e3]
                    have v7 : ∀ t, 1 ≤ t → t < 44 → r7 t = r6' t := fun t h1 h2 => (pz_un a1 u7 t h1 h2).trans (pz_mixv h2)
                    have q14 := v7 14 (by omega) (by omega)
                    have q17 := v7 17 (by omega) (by omega)
                    have q12 := v7 12 (by omega) (by omega)
                    refine fin (Or.inl rfl) ((m1.tr k1).tr t1) t2 hR7 ⟨fun q => absurd h0 q, fun _ => ⟨⟨fun q hq => ?_, ((((pz_fx.al v1).tr pf).cg v3).tr (kf.tr of)).cg v7⟩, fun q => ?_⟩⟩
                    · rw [o1]
                      exact ka q (by omega)
                    · have h5 : r5 14 = 0 := by
                        by_cases h5 : r5 14 = 0
                        · exact h5
                        · have := o2 h5 14 (by omega) (by omega)
                          omega
                      obtain ⟨w1, w2, w3⟩ := o3 h5 (by omega)
                      obtain ⟨y1, y2, y3, y4, y5⟩ := kb h5
                      refine ⟨pz_I_cg w1 v7, by omega, by omega, by omega, ?_⟩
                      have e1 : (r7 17).toNat = (r5 17).toNat := by omega
                      rw [e1, o1, ← g17]
                      exact y5
            · exact bad f hf r' ad' x1 x2 H' locs' ls' st' hR'
  · have h0 : r0 14 ≠ 0 := by
      rw [← hx 14 (by omega)]
      exact h14
    refine pz_seg (k0 := 0) A0 l3 F hl (show lt_all 0 [] from trivial) (by omega) hW hR (fun q hq => ?_) (fun f hf r' ad' x1 x2 H' locs' ls' st' hR' => ?_)
    · rcases List.mem_cons.mp hq with rfl | hq
      · exact ⟨by show 14 < 44; omega, by show (1 : Int) ≤ r 14; omega, by show r 14 ≤ (3 : Int); omega⟩
      · cases hq
    · obtain ⟨e1, e2, e3, r1, hR1, u1, u2⟩ := pz_to_ok hf x2 hR'
      rw [e1, e2, e3]
      exact fin (Or.inr rfl) pz_sm.rf hW hR1 ⟨fun _ => ⟨fun t h1 h2 => (pz_un x1 u1 t h1 h2).trans (hx1 t h1 h2), rfl⟩, fun q => absurd q h0⟩
end PT
