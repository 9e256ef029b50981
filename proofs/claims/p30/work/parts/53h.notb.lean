/-! THE PARSER: readNot: the walk -/
noncomputable def nt_P (j : Nat) : pz_Post := fun r0 g0 r g => g = g0 ∧ (r0 14 ≠ 0 → ∀ t, 1 ≤ t → t < 44 → r t = r0 t) ∧ (r0 14 = 0 → r 14 = 0 ∧ pz_I r ∧ r 17 = r0 17 ∧ r0 12 + (j : Int) ≤ r 12) ∧ pz_fx r0 r
noncomputable def nt_I (M k : Nat) : pz_Post := fun r0 g0 r g => (r0 14 ≠ 0 → (∀ t, 1 ≤ t → t < 44 → r t = r0 t) ∧ g = g0) ∧ (r0 14 = 0 → ((∀ q, q < 1600 + (r0 17).toNat → g q = g0 q) ∧ pz_fx r0 r) ∧ (r 14 = 0 → pz_I r ∧ r0 17 ≤ r 17 ∧ r 17 + 2 * r0 12 + (k : Int) ≤ r0 17 + 2 * r 12 ∧ r0 12 < r 12 ∧ pz_V g (r0 17).toNat (r 17).toNat M))
theorem nt_I_cg {M k : Nat} {r0 r r3 : Nat → Int} {g0 g : Nat → Int32} (h : nt_I M k r0 g0 r g) (hc : ∀ t, 1 ≤ t → t < 44 → r3 t = r t) : nt_I M k r0 g0 r3 g := by
  refine ⟨fun q => ⟨fun t h1 h2 => (hc t h1 h2).trans ((h.1 q).1 t h1 h2), (h.1 q).2⟩, fun q => ⟨⟨(h.2 q).1.1, (h.2 q).1.2.cg hc⟩, fun q2 => ?_⟩⟩
  have e14 := hc 14 (by omega) (by omega)
  have e12 := hc 12 (by omega) (by omega)
  have e17 := hc 17 (by omega) (by omega)
  obtain ⟨a1, a2, a3, a4, a5⟩ := (h.2 q).2 (by omega)
  exact ⟨pz_I_cg a1 hc, by omega, by omega, by omega, by rw [e17]; exact a5⟩
theorem nt_I_0 {M : Nat} {r0 r : Nat → Int} {g0 g : Nat → Int32} (h : nt_I M 0 r0 g0 r g) : pz_X M r0 g0 r g := by
  refine ⟨h.1, fun q => ⟨(h.2 q).1, fun q2 => ?_⟩⟩
  obtain ⟨a1, a2, a3, a4, a5⟩ := (h.2 q).2 q2
  exact ⟨a1, a2, by omega, a4, a5⟩
theorem nt_I_of {M j : Nat} {r0 rs r : Nat → Int} {g0 gs g : Nat → Int32} (hP : nt_P j r0 g0 rs gs) (hX : pz_X M rs gs r g) : nt_I M j r0 g0 r g := by
  obtain ⟨p1, p2, p3, pf⟩ := hP
  subst p1
  refine ⟨fun q => ?_, fun q => ?_⟩
  · have e := p2 q
    obtain ⟨x1, x2⟩ := hX.1 (by rw [e 14 (by omega) (by omega)]; exact q)
    exact ⟨fun t h1 h2 => (x1 t h1 h2).trans (e t h1 h2), x2⟩
  · obtain ⟨s1, s2, s3, s4⟩ := p3 q
    obtain ⟨⟨x1, xf⟩, x2⟩ := hX.2 s1
    rw [s3] at x1 x2
    refine ⟨⟨x1, pf.tr xf⟩, fun q2 => ?_⟩
    obtain ⟨a1, a2, a3, a4, a5⟩ := x2 q2
    exact ⟨a1, a2, by omega, by omega, a5⟩
theorem nt_I_pre {M k : Nat} {r0 r : Nat → Int} {g0 g : Nat → Int32} (h : nt_I M (k + 1) r0 g0 r g) (hp : r0 14 = 0 → r0 17 ≤ 2 * r0 12) : em_Pre r g := fun q => by
  by_cases h0 : r0 14 = 0
  · obtain ⟨a1, a2, a3, a4, a5⟩ := (h.2 h0).2 q
    obtain ⟨i1, i2, i3, i4, i5⟩ := a1
    have := hp h0
    omega
  · have := (h.1 h0).1 14 (by omega) (by omega)
    omega
theorem nt_I_em {M k : Nat} {r0 r r' : Nat → Int} {g0 g g' : Nat → Int32} (h : nt_I M (k + 1) r0 g0 r g) (hE : em_Post (.ofNat 9) r g r' g') (hM : 1 ≤ M) (b17 : 0 ≤ r0 17) : nt_I M k r0 g0 r' g' := by
  by_cases h0 : r0 14 = 0
  · refine ⟨fun q => absurd h0 q, fun _ => ?_⟩
    obtain ⟨⟨k1, kf⟩, k2⟩ := h.2 h0
    have ff := kf.tr (pz_fx.em hE)
    by_cases h14 : r 14 = 0
    · obtain ⟨a1, a2, a3, a4, a5⟩ := k2 h14
      obtain ⟨z1, z2, z3, z4⟩ := hE.2 h14
      have e12 := z1 12 (by omega) (by omega) (by omega)
      refine ⟨⟨fun q hq => (z4 q (by omega)).trans (k1 q hq), ff⟩, fun _ => ⟨pz_I_em hE a1, by omega, by omega, by omega, ?_⟩⟩
      have e5 : (r' 17).toNat = (r 17).toNat + 1 := by omega
      rw [e5]
      exact pz_V_not (a5.tr (fun q hq => z4 q (by omega))) hM z3
    · obtain ⟨z1, z2⟩ := hE.1 h14
      refine ⟨⟨fun q hq => by rw [z2]; exact k1 q hq, ff⟩, fun q => absurd ?_ h14⟩
      rw [← z1 14 (by omega) (by omega)]
      exact q
  · refine ⟨fun q => ?_, fun q => absurd q h0⟩
    obtain ⟨k1, k2⟩ := h.1 q
    have h14 : r 14 ≠ 0 := by
      rw [k1 14 (by omega) (by omega)]
      exact q
    obtain ⟨z1, z2⟩ := hE.1 h14
    exact ⟨fun t h1 h2 => (z1 t h1 h2).trans (k1 t h1 h2), z2.trans k2⟩
theorem nt_P_cg {j : Nat} {r0 r r3 : Nat → Int} {g0 g : Nat → Int32} (h : nt_P j r0 g0 r g) (hc : ∀ t, 1 ≤ t → t < 44 → r3 t = r t) : nt_P j r0 g0 r3 g := by
  obtain ⟨p1, p2, p3, pf⟩ := h
  have e14 := hc 14 (by omega) (by omega)
  have e12 := hc 12 (by omega) (by omega)
  have e17 := hc 17 (by omega) (by omega)
  exact ⟨p1, fun q t h1 h2 => (hc t h1 h2).trans (p2 q t h1 h2), fun q => by
    obtain ⟨s1, s2, s3, s4⟩ := p3 q
    exact ⟨by omega, pz_I_cg s2 hc, by omega, by omega⟩, pf.cg hc⟩
section NT
variable {n M M' : Nat} {b : Bool} {a : Nat}
theorem pz_cap1 {r : Nat → Int} {lo hi : Int} (h1 : lo ≤ r 14) (h2 : r 14 ≤ hi) : ∀ q ∈ ([(14, (lo, hi))] : List (Nat × Int × Int)), q.1 < 44 + ([] : List (Int × Int)).length ∧ q.2.1 ≤ r q.1 ∧ r q.1 ≤ q.2.2 := fun q hq => by
  rcases List.mem_cons.mp hq with rfl | hq
  · exact ⟨by show 14 < 44; omega, h1, h2⟩
  · cases hq
theorem pz_cap2 {r : Nat → Int} {lo hi : Int} (h : r 14 = 0) (k1 : lo ≤ r 9) (k2 : r 9 ≤ hi) : ∀ q ∈ ([(14, (0, 0)), (9, (lo, hi))] : List (Nat × Int × Int)), q.1 < 44 + ([] : List (Int × Int)).length ∧ q.2.1 ≤ r q.1 ∧ r q.1 ≤ q.2.2 := fun q hq => by
  rcases List.mem_cons.mp hq with rfl | hq
  · exact ⟨by show 14 < 44; omega, by show (0 : Int) ≤ r 14; omega, by show r 14 ≤ (0 : Int); omega⟩
  · rcases List.mem_cons.mp hq with rfl | hq
    · exact ⟨by show 9 < 44; omega, k1, k2⟩
    · cases hq
theorem pz_cst {r : Nat → Int} (h : r 0 = 0) (k : Int) : ai_vx r (0, k) = k := by
  show r 0 + k = k
  rw [h]
  exact Int.zero_add k
theorem pz_nil {xs : List Int32} {r : Nat → Int} (h : xs.map Int32.toInt = ([] : List ai_X).map (ai_vx r)) : xs = [] := List.map_eq_nil_iff.mp h
theorem pz_emv {n : Nat} (hn : 5 ≤ n) (x : ai_X) (r1 : Nat → Int) (vs : List Int32) (hvs : vs.map Int32.toInt = [ai_vx r1 x]) : pz_Ct n 194 false vs em_Pre (em_Post (ai_vx r1 x)) := by
  obtain ⟨v, l', rfl, h1, h2⟩ := List.map_eq_cons_iff.mp hvs
  have h2 := List.map_eq_nil_iff.mp h2
  subst h2
  rw [← h1]
  exact (pz_emit v).mono hn
set_option maxHeartbeats 4000000 in
theorem pz_not (ha : a < 7) (hn : 45 ≤ n) (hsub : ∀ vs : List Int32, vs.map Int32.toInt = [.ofNat a] → pz_Ct n 198 false vs (pz_XP b) (pz_X M')) (hM : M' + 1 ≤ M) (hM2 : 2 ≤ M) : ∀ vs : List Int32, vs.map Int32.toInt = [.ofNat a] → pz_Ct (n + 1) 199 false vs (pz_XP b) (pz_X M) := by
  obtain ⟨⟨l1, l2, l3, l4, l5, l6, l7, l8⟩, ⟨b1, b2, b3, b4, b5, b6, b7, b8⟩, ⟨n1, n2, n3, n4, n5, n6, n7, n8⟩, v1q, v3, v4, v5, v6, v7, v8⟩ := pz_pl
  obtain ⟨d1, d2, d3, d4, d5, d6, d7, d8, d9, d10⟩ := pz_dc
  intro vs hvs
  have evs : vs = [(.ofNat a : Int)].map Int32.ofInt := by
    obtain ⟨v, l', rfl, h1, h2⟩ := List.map_eq_cons_iff.mp hvs
    have h2 := List.map_eq_nil_iff.mp h2
    subst h2
    rw [← h1]
    show [v] = [Int32.ofInt v.toInt]
    rw [Int32.ofInt_toInt]
  rw [evs]
  refine pz_new (n := n) (nb := []) (aa := [pz_this, .inl (0, .ofNat a)]) (L0 := [pz_this, .inl (0, .ofNat a), pz_u, pz_u]) (fun _ => True) l6 (by rw [n6]; rfl) (fun r ad hE => pz_in0 (tail := [.ofNat a]) (by
    rw [List.all_cons, List.all_nil, Bool.and_true, Bool.and_eq_true]
    exact ⟨ai_le_iff.mpr (by unfold ai_lo32; show (-2147483648 : Int) ≤ (a : Int); omega), ai_le_iff.mpr (by unfold ai_hi32; show (a : Int) ≤ 2147483647; omega)⟩) r ad hE) (fun l D tyc A sa hl ws g r0 r ad hW hPre hx _ p e s m args below meth c ls F hret hR => ?_)
  have hx1 : ∀ t, 1 ≤ t → t < 44 → r t = r0 t := fun t _ h2 => hx t h2
  have hb0 := pz_bd (nb := []) hR.env
  have b17 : 0 ≤ r0 17 := by
    rw [← hx 17 (by omega)]
    exact hb0.2.2.2.2.2.2.1
  have hp : r0 14 = 0 → r0 17 ≤ 2 * r0 12 := fun q => (hPre q).2.2
  -- the nots are written
  have p3 : ∀ j, j < 7 → ∀ k i, i + k = j → ∀ (ws1 : va_W) (g1 : Nat → Int32) (r1 : Nat → Int) (H : Heap) (locs : List Loc) (ls : Array Slot) (st : List Value), pz_sm ws ws1 → pz_W tyc ws1 g1 → nt_I M k r0 g r1 g1 → ai_Rel D tyc A s sa ws1 (ct_mt 199).2.2.1 r1 ad (nt_Li a j i) [] (pz_G []) H locs ls st → W p l e (lt_rm (n + 1) 199) s m args below meth c H locs 0 0 (pz_Q below D tyc A sa ws r0 g ad args s n 199 (pz_X M)) (F0 m 89 ls st) := by
    intro j hj k
    induction k with
    | zero =>
      intro i hi ws1 g1 r1 H locs ls st m1 m2 hI hR1
      have hk := nt_kk3 a ha j hj i (by omega)
      unfold nt_k3 at hk
      have hlt : Nat.blt i j = false := by
        cases q : Nat.blt i j with
        | false => rfl
        | true => exact absurd (Nat.le_of_ble_eq_true q) (by omega)
      rw [hlt] at hk
      refine pz_seg (k0 := 0) hk l6 F hl (show lt_all 0 [] from trivial) (by omega) m2 hR1 (fun q hq => by cases hq) (fun f hf r' ad' x1 x2 H' locs' ls' st' hR' => ?_)
      obtain ⟨e1, e2, e3, r2, hR2, u1, u2⟩ := pz_to_ok hf x2 hR'
      rw [e1, e2, e3]
      exact pz_ret rfl F hret d8 v6 m1 m2 hR2 (pz_X_cg (nt_I_0 hI) (pz_un x1 u1))
    | succ k ih =>
      intro i hi ws1 g1 r1 H locs ls st m1 m2 hI hR1
      have hk := nt_kk3 a ha j hj i (by omega)
      unfold nt_k3 at hk
      have hlt : Nat.blt i j = true := Nat.ble_eq_true_of_le (by omega)
      rw [hlt] at hk
      have hk : (_ && _) = true := hk
      rw [Bool.and_eq_true] at hk
      refine pz_seg (k0 := 0) hk.1 l6 F hl (show lt_all 0 [] from trivial) (by omega) m2 hR1 (fun q hq => by cases hq) (fun f hf r' ad' x1 x2 H' locs' ls' st' hR' => ?_)
      obtain ⟨e1, e2, e3, r2, hR2, u1, u2⟩ := pz_to_ok hf x2 hR'
      rw [e1, e2, e3]
      have hI2 := nt_I_cg hI (pz_un x1 u1)
      refine pz_callv (xs := [(0, .ofNat 9)]) l6 em_k.1 (by omega) em_k.2.2.1 F hl nt_k4.1 m2 hR2 rfl rfl (pz_emv (by omega) (0, .ofNat 9) r2) (nt_I_pre hI2 hp) (Pre := em_Pre) (Post := em_Post (ai_vx r2 (0, .ofNat 9))) (fun ws3 g3 r3' H3 locs3 st3 t1 t2 t3 hR3 => ?_)
      rw [pz_cst hR2.env.1] at t3
      have hI3 := nt_I_em hI2 t3 (by omega) b17
      refine pz_seg (k0 := 0) hk.2 l6 F hl (show lt_all 0 [] from trivial) (by omega) t2 hR3 (fun q hq => by cases hq) (fun f4 hf4 r4' ad4 y1 y2 H4 locs4 ls4 st4 hR4' => ?_)
      obtain ⟨e1, e2, e3, r4, hR4, u3, u4⟩ := pz_to_ok hf4 y2 hR4'
      rw [e1, e2, e3]
      exact ih (i + 1) (by omega) ws3 g3 r4 H4 locs4 ls4 st4 (m1.tr t1) t2 (nt_I_cg hI3 (fun t h1 h2 => (pz_un y1 u3 t h1 h2).trans (pz_mixv h2))) hR4
  -- behind the first sum
  have p2 : ∀ j, j < 7 → ∀ (rs : Nat → Int) (gs : Nat → Int32), nt_P j r0 g rs gs → ∀ (ws1 : va_W) (g1 : Nat → Int32) (r1 : Nat → Int) (H : Heap) (locs : List Loc) (ls : Array Slot) (st : List Value), pz_sm ws ws1 → pz_W tyc ws1 g1 → pz_X M' rs gs r1 g1 → ai_Rel D tyc A s sa ws1 (ct_mt 199).2.2.1 r1 ad (nt_L a j) [] (pz_G []) H locs ls st → W p l e (lt_rm (n + 1) 199) s m args below meth c H locs 0 0 (pz_Q below D tyc A sa ws r0 g ad args s n 199 (pz_X M)) (F0 m 39 ls st) := by
    intro j hj rs gs hP ws1 g1 r1 H locs ls st m1 m2 hX hR1
    have hk := nt_kk2 a ha j hj
    unfold nt_k2 at hk
    simp only [Bool.and_eq_true] at hk
    obtain ⟨c0, c1, c2, c3, ck1, o5, o6, ck2, ck3⟩ := hk
    have hb := pz_bd (nb := []) hR1.env
    have hXM := hX.mono (show M' ≤ M by omega)
    have done : ∀ f : ai_F, nt_c89 a j f = true → ∀ (r' : Nat → Int) (ad' : Nat → Nat), ai_ext 44 r1 r' → ai_ext 336 ad ad' → ∀ (H' : Heap) (locs' : List Loc) (ls' : Array Slot) (st' : List Value), ai_Rel D tyc A s sa ws1 (ct_mt 199).2.2.1 r' ad' f.2.1 f.2.2.1 f.2.2.2 H' locs' ls' st' → W p l e (lt_rm (n + 1) 199) s m args below meth c H' locs' f.2.2.2.2.2.1 f.2.2.2.2.2.2 (pz_Q below D tyc A sa ws r0 g ad args s n 199 (pz_X M)) (F0 m f.1 ls' st') := fun f hf r' ad' x1 x2 H' locs' ls' st' hR' => by
      obtain ⟨e1, e2, e3, r2, hR2, u1, u2⟩ := pz_to_ok hf x2 hR'
      rw [e1, e2, e3]
      exact p3 j hj j 0 (by omega) ws1 g1 r2 H' locs' ls' st' m1 m2 (nt_I_cg (nt_I_of hP hXM) (pz_un x1 u1)) hR2
    by_cases h14 : r1 14 = 0
    · have h0 : rs 14 = 0 := by
        by_cases q : rs 14 = 0
        · exact q
        · have := (hX.1 q).1 14 (by omega) (by omega)
          omega
      have h00 : r0 14 = 0 := by
        by_cases q : r0 14 = 0
        · exact q
        · have := hP.2.1 q 14 (by omega) (by omega)
          omega
      obtain ⟨s1, s2, s3, s4⟩ := hP.2.2.1 h00
      have hp0 := hp h00
      have hbt := (hPre h00).1
      have go : ∀ o : Nat, 1 ≤ o → o ≤ 8 → nt_ko a j o = true → r1 9 ≠ 0 → ∀ f : ai_F, pz_to [] 74 (nt_Li a j o) [pz_this] [] f = true → ∀ (r' : Nat → Int) (ad' : Nat → Nat), ai_ext 44 r1 r' → ai_ext 336 ad ad' → ∀ (H' : Heap) (locs' : List Loc) (ls' : Array Slot) (st' : List Value), ai_Rel D tyc A s sa ws1 (ct_mt 199).2.2.1 r' ad' f.2.1 f.2.2.1 f.2.2.2 H' locs' ls' st' → W p l e (lt_rm (n + 1) 199) s m args below meth c H' locs' f.2.2.2.2.2.1 f.2.2.2.2.2.2 (pz_Q below D tyc A sa ws r0 g ad args s n 199 (pz_X M)) (F0 m f.1 ls' st') := fun o ho1 ho2 hko h9 f hf r' ad' x1 x2 H' locs' ls' st' hR' => by
        unfold nt_ko at hko
        simp only [Bool.and_eq_true] at hko
        obtain ⟨w1, w2, w3, w4⟩ := hko
        obtain ⟨e1, e2, e3, r2, hR2, u1, u2⟩ := pz_to_ok hf x2 hR'
        rw [e1, e2, e3]
        have v1 := pz_un x1 u1
        refine pz_callv (xs := []) l6 em_k.2.1 (by omega) em_k.2.2.2.1 F hl ck1 m2 hR2 rfl rfl (fun vs hvs => ?_) trivial (Pre := fun _ _ => True) (Post := sq_Post) (fun ws2 g2 r3' H2 locs2 st2 k1 k2 k3 hR3 => ?_)
        · rw [pz_nil hvs]
          exact pz_step.mono (by omega)
        · have sf := pz_fx.sq k3
          obtain ⟨z1, z2, z3, z4⟩ := k3
          rw [z1] at k2
          refine pz_seg (k0 := 0) w1 l6 F hl (show lt_all 0 [] from trivial) (by omega) k2 hR3 (fun q hq => by cases hq) (fun f2 hf2 r4' ad3 y1 y2 H3 locs3 ls3 st3 hR4' => ?_)
          obtain ⟨e1, e2, e3, r4, hR4, u3, u4⟩ := pz_to_ok hf2 y2 hR4'
          rw [e1, e2, e3]
          have v4 : ∀ t, 1 ≤ t → t < 44 → r4 t = r3' t := fun t h1 h2 => (pz_un y1 u3 t h1 h2).trans (pz_mixv h2)
          have e14 : r4 14 = r1 14 := by rw [v4 14 (by omega) (by omega), z2 14 (by omega) (by omega) rfl, v1 14 (by omega) (by omega)]
          have e17 : r4 17 = r1 17 := by rw [v4 17 (by omega) (by omega), z2 17 (by omega) (by omega) rfl, v1 17 (by omega) (by omega)]
          have eI : pz_I r4 := pz_I_cg z3 v4
          have e12 : r1 7 ≤ r4 12 := by
            rw [v4 12 (by omega) (by omega), ← v1 7 (by omega) (by omega)]
            exact z4
          have jj := (hX.2 h0).2 h14
          have hpre : pz_XP b r4 g1 := fun _ => ⟨hbt, eI, by
            obtain ⟨i1, i2, i3, i4, i5⟩ := jj.1
            have := i5 h9
            omega⟩
          refine pz_callv (xs := [(0, .ofNat a)]) l6 l5 (by omega) b5 F hl ck3 k2 hR4 rfl rfl (fun vs hvs => hsub vs (hvs.trans ?_)) hpre (Pre := pz_XP b) (Post := pz_X M') (fun ws5 g5 r5' H5 locs5 st5 q1 q2 q3 hR5 => ?_)
          · show [ai_vx r4 (0, .ofNat a)] = [.ofNat a]
            rw [pz_cst hR4.env.1]
          · refine pz_seg (k0 := 0) w2 l6 F hl (show lt_all 0 [] from trivial) (by omega) q2 hR5 (fun q hq => by cases hq) (fun f6 hf6 r6' ad6 z1 z2 H6 locs6 ls6 st6 hR6' => ?_)
            obtain ⟨e1, e2, e3, r6, hR6, u5, u6⟩ := pz_to_ok hf6 z2 hR6'
            rw [e1, e2, e3]
            have q3' : pz_X M' r4 g1 r6 g5 := pz_X_cg q3 (fun t h1 h2 => (pz_un z1 u5 t h1 h2).trans (pz_mixv h2))
            have pre6 : em_Pre r6 g5 := fun q14 => by
              obtain ⟨y1, y2, y3, y4, y5⟩ := (q3'.2 (by omega)).2 q14
              obtain ⟨i1, i2, i3, i4, i5⟩ := jj.1
              obtain ⟨u1, u2, u3, u4, u5⟩ := y1
              have := i5 h9
              omega
            refine pz_callv (xs := [(0, .ofNat o)]) l6 em_k.1 (by omega) em_k.2.2.1 F hl w4 q2 hR6 rfl rfl (pz_emv (by omega) (0, .ofNat o) r6) pre6 (Pre := em_Pre) (Post := em_Post (ai_vx r6 (0, .ofNat o))) (fun ws7 g7 r7' H7 locs7 st7 t1 t2 t3 hR7 => ?_)
            rw [pz_cst hR6.env.1] at t3
            refine pz_seg (k0 := 0) w3 l6 F hl (show lt_all 0 [] from trivial) (by omega) t2 hR7 (fun q hq => by cases hq) (fun f8 hf8 r8' ad8 a1 a2 H8 locs8 ls8 st8 hR8' => ?_)
            obtain ⟨e1, e2, e3, r8, hR8, u7, u8⟩ := pz_to_ok hf8 a2 hR8'
            rw [e1, e2, e3]
            have big := pz_X_bin h0 (by omega) (by omega) hXM h14 h9 e14 e17 eI e12 (((pz_fx.al v1).tr sf).cg v4) q3' t3 ⟨by show (1 : Int) ≤ (o : Int); omega, by show (o : Int) ≤ 8; omega⟩ hM hM2
            exact p3 j hj j 0 (by omega) ws7 g7 r8 H8 locs8 ls8 st8 (((m1.tr k1).tr q1).tr t1) t2 (nt_I_cg (nt_I_of hP big.1) (fun t h1 h2 => (pz_un a1 u7 t h1 h2).trans (pz_mixv h2))) hR8
      by_cases q3 : r1 9 = 3
      · refine pz_seg (k0 := 0) c2 l6 F hl (show lt_all 0 [] from trivial) (by omega) m2 hR1 (pz_cap2 h14 (by omega) (by omega)) (fun f hf r' ad' x1 x2 H' locs' ls' st' hR' => ?_)
        unfold nt_c39 at hf
        rw [Bool.or_eq_true, Bool.or_eq_true] at hf
        rcases hf with hf | hf | hf
        · exact done f hf r' ad' x1 x2 H' locs' ls' st' hR'
        · exact go 5 (by omega) (by omega) o5 (by omega) f hf r' ad' x1 x2 H' locs' ls' st' hR'
        · exact go 6 (by omega) (by omega) o6 (by omega) f hf r' ad' x1 x2 H' locs' ls' st' hR'
      · by_cases q4 : r1 9 = 4
        · exact pz_seg (k0 := 0) c3 l6 F hl (show lt_all 0 [] from trivial) (by omega) m2 hR1 (pz_cap2 h14 (by omega) (by omega)) (fun f hf => done f hf)
        · exact pz_seg (k0 := 0) c1 l6 F hl (show lt_all 0 [] from trivial) (by omega) m2 hR1 (pz_cap2 h14 (by omega) (by omega)) (fun f hf => done f hf)
    · exact pz_seg (k0 := 0) c0 l6 F hl (show lt_all 0 [] from trivial) (by omega) m2 hR1 (pz_cap1 (by omega) (by omega)) (fun f hf => done f hf)
  -- the first sum
  have p36 : ∀ j, j < 7 → ∀ (ws1 : va_W) (g1 : Nat → Int32) (r1 : Nat → Int) (H : Heap) (locs : List Loc) (ls : Array Slot) (st : List Value), pz_sm ws ws1 → pz_W tyc ws1 g1 → nt_P j r0 g r1 g1 → ai_Rel D tyc A s sa ws1 (ct_mt 199).2.2.1 r1 ad (nt_L a j) (nt_S a) (pz_G []) H locs ls st → W p l e (lt_rm (n + 1) 199) s m args below meth c H locs 0 0 (pz_Q below D tyc A sa ws r0 g ad args s n 199 (pz_X M)) (F0 m 36 ls st) := by
    intro j hj ws1 g1 r1 H locs ls st m1 m2 hP hR1
    have hk := nt_kk2 a ha j hj
    unfold nt_k2 at hk
    simp only [Bool.and_eq_true] at hk
    obtain ⟨c0, c1, c2, c3, ck1, o5, o6, ck2, ck3⟩ := hk
    refine pz_callv (xs := [(0, .ofNat a)]) l6 l5 (by omega) b5 F hl ck2 m2 hR1 rfl rfl (fun vs hvs => hsub vs (hvs.trans ?_)) (fun q => ?_) (Pre := pz_XP b) (Post := pz_X M') (fun ws5 g5 r5' H5 locs5 st5 q1 q2 q3 hR5 => ?_)
    · show [ai_vx r1 (0, .ofNat a)] = [.ofNat a]
      rw [pz_cst hR1.env.1]
    · by_cases h0 : r0 14 = 0
      · obtain ⟨s1, s2, s3, s4⟩ := hP.2.2.1 h0
        have := hp h0
        exact ⟨(hPre h0).1, s2, by omega⟩
      · have := hP.2.1 h0 14 (by omega) (by omega)
        omega
    · exact p2 j hj r1 g1 hP ws5 g5 _ H5 locs5 ls st5 (m1.tr q1) q2 (pz_X_cg q3 (fun t _ h2 => pz_mixv h2)) hR5
  -- ahead of it
  have p1 : ∀ k j, j + k = 6 → ∀ (ws1 : va_W) (g1 : Nat → Int32) (r1 : Nat → Int) (H : Heap) (locs : List Loc) (ls : Array Slot) (st : List Value), pz_sm ws ws1 → pz_W tyc ws1 g1 → nt_P j r0 g r1 g1 → ai_Rel D tyc A s sa ws1 (ct_mt 199).2.2.1 r1 ad (nt_L a j) [] (pz_G []) H locs ls st → W p l e (lt_rm (n + 1) 199) s m args below meth c H locs 0 0 (pz_Q below D tyc A sa ws r0 g ad args s n 199 (pz_X M)) (F0 m 2 ls st) := by
    have one : ∀ j, j < 7 → (j < 6 → ∀ (ws1 : va_W) (g1 : Nat → Int32) (r1 : Nat → Int) (H : Heap) (locs : List Loc) (ls : Array Slot) (st : List Value), pz_sm ws ws1 → pz_W tyc ws1 g1 → nt_P (j + 1) r0 g r1 g1 → ai_Rel D tyc A s sa ws1 (ct_mt 199).2.2.1 r1 ad (nt_L a (j + 1)) [] (pz_G []) H locs ls st → W p l e (lt_rm (n + 1) 199) s m args below meth c H locs 0 0 (pz_Q below D tyc A sa ws r0 g ad args s n 199 (pz_X M)) (F0 m 2 ls st)) → ∀ (ws1 : va_W) (g1 : Nat → Int32) (r1 : Nat → Int) (H : Heap) (locs : List Loc) (ls : Array Slot) (st : List Value), pz_sm ws ws1 → pz_W tyc ws1 g1 → nt_P j r0 g r1 g1 → ai_Rel D tyc A s sa ws1 (ct_mt 199).2.2.1 r1 ad (nt_L a j) [] (pz_G []) H locs ls st → W p l e (lt_rm (n + 1) 199) s m args below meth c H locs 0 0 (pz_Q below D tyc A sa ws r0 g ad args s n 199 (pz_X M)) (F0 m 2 ls st) := by
      intro j hj nxt ws1 g1 r1 H locs ls st m1 m2 hP hR1
      have hk := nt_kk1 a ha j hj
      unfold nt_k1 at hk
      simp only [Bool.and_eq_true] at hk
      obtain ⟨c0, c1, c2, c3, c4, ck1⟩ := hk
      have hb := pz_bd (nb := []) hR1.env
      have to36 : ∀ f : ai_F, nt_c36 a j f = true → ∀ (r' : Nat → Int) (ad' : Nat → Nat), ai_ext 44 r1 r' → ai_ext 336 ad ad' → ∀ (H' : Heap) (locs' : List Loc) (ls' : Array Slot) (st' : List Value), ai_Rel D tyc A s sa ws1 (ct_mt 199).2.2.1 r' ad' f.2.1 f.2.2.1 f.2.2.2 H' locs' ls' st' → W p l e (lt_rm (n + 1) 199) s m args below meth c H' locs' f.2.2.2.2.2.1 f.2.2.2.2.2.2 (pz_Q below D tyc A sa ws r0 g ad args s n 199 (pz_X M)) (F0 m f.1 ls' st') := fun f hf r' ad' x1 x2 H' locs' ls' st' hR' => by
        obtain ⟨e1, e2, e3, r2, hR2, u1, u2⟩ := pz_to_ok hf x2 hR'
        rw [e1, e2, e3]
        exact p36 j hj ws1 g1 r2 H' locs' ls' st' m1 m2 (nt_P_cg hP (pz_un x1 u1)) hR2
      by_cases h14 : r1 14 = 0
      · by_cases q0 : r1 9 = 0
        · exact pz_seg (k0 := 0) c1 l6 F hl (show lt_all 0 [] from trivial) (by omega) m2 hR1 (pz_cap2 h14 (by omega) (by omega)) (fun f hf => to36 f hf)
        · by_cases q1 : r1 9 = 1
          · refine pz_seg c2 l6 F hl pz_Tis_ok (by omega) m2 hR1 (pz_cap2 h14 (by omega) (by omega)) (fun f hf r' ad' x1 x2 H' locs' ls' st' hR' => ?_)
            unfold nt_c2 at hf
            rw [Bool.or_eq_true] at hf
            rcases hf with hf | hf
            · exact to36 f hf r' ad' x1 x2 H' locs' ls' st' hR'
            · have h00 : r0 14 = 0 := by
                by_cases q : r0 14 = 0
                · exact q
                · have := hP.2.1 q 14 (by omega) (by omega)
                  omega
              obtain ⟨s1, s2, s3, s4⟩ := hP.2.2.1 h00
              by_cases q6 : j = 6
              · have e6 : Nat.beq j 6 = true := by
                  rw [q6]
                  rfl
                rw [e6] at hf
                have hf : pz_to [] 23 nt_us [] [(14, (0, 2)), (15, (12, 0))] f = true := hf
                obtain ⟨e1, e2, e3, r2, hR2, u1, u2⟩ := pz_to_ok hf x2 hR'
                rw [e1, e2, e3]
                have e14 : r2 14 = 2 := by
                  have : r2 14 = r' 0 + 2 := u2 _ List.mem_cons_self
                  rw [this, hR'.env.1]
                  rfl
                refine pz_ret rfl F hret d7 v6 m1 m2 hR2 ⟨fun q => absurd h00 q, fun _ => ⟨⟨fun q _ => by rw [hP.1], hP.2.2.2.tr (fun t h1 h2 h3 => (u1 t h1 h2 (pz_ne2n h3)).trans (x1 t h2))⟩, fun q => absurd q (by omega)⟩⟩
              · have e6 : Nat.beq j 6 = false := by
                  cases q : Nat.beq j 6 with
                  | false => rfl
                  | true => exact absurd (Nat.eq_of_beq_eq_true q) q6
                rw [e6] at hf
                have hf : pz_to [] 28 (nt_L a (j + 1)) [pz_this] [] f = true := hf
                obtain ⟨e1, e2, e3, r2, hR2, u1, u2⟩ := pz_to_ok hf x2 hR'
                rw [e1, e2, e3]
                have v1 := pz_un x1 u1
                refine pz_callv (xs := []) l6 em_k.2.1 (by omega) em_k.2.2.2.1 F hl ck1 m2 hR2 rfl rfl (fun vs hvs => ?_) trivial (Pre := fun _ _ => True) (Post := sq_Post) (fun ws2 g2 r3' H2 locs2 st2 k1 k2 k3 hR3 => ?_)
                · rw [pz_nil hvs]
                  exact pz_step.mono (by omega)
                · have sf := pz_fx.sq k3
                  obtain ⟨z1, z2, z3, z4⟩ := k3
                  refine pz_seg (k0 := 0) c4 l6 F hl (show lt_all 0 [] from trivial) (by omega) k2 hR3 (fun q hq => by cases hq) (fun f2 hf2 r4' ad3 y1 y2 H3 locs3 ls3 st3 hR4' => ?_)
                  obtain ⟨e1, e2, e3, r4, hR4, u3, u4⟩ := pz_to_ok hf2 y2 hR4'
                  rw [e1, e2, e3]
                  have v4 : ∀ t, 1 ≤ t → t < 44 → r4 t = r3' t := fun t h1 h2 => (pz_un y1 u3 t h1 h2).trans (pz_mixv h2)
                  refine nxt (by omega) ws2 g2 r4 H3 locs3 ls3 st3 (m1.tr k1) k2 ⟨z1.trans hP.1, fun q => absurd h00 q, fun _ => ⟨?_, pz_I_cg z3 v4, ?_, ?_⟩, hP.2.2.2.tr (((pz_fx.al v1).tr sf).cg v4)⟩ hR4
                  · rw [v4 14 (by omega) (by omega), z2 14 (by omega) (by omega) rfl, v1 14 (by omega) (by omega)]
                    exact h14
                  · rw [v4 17 (by omega) (by omega), z2 17 (by omega) (by omega) rfl, v1 17 (by omega) (by omega)]
                    exact s3
                  · rw [v4 12 (by omega) (by omega)]
                    have e7 := v1 7 (by omega) (by omega)
                    obtain ⟨i1, i2, i3, i4, i5⟩ := s2
                    have := i5 (by omega)
                    omega
          · exact pz_seg (k0 := 0) c3 l6 F hl (show lt_all 0 [] from trivial) (by omega) m2 hR1 (pz_cap2 h14 (by omega) (by omega)) (fun f hf => to36 f hf)
      · exact pz_seg (k0 := 0) c0 l6 F hl (show lt_all 0 [] from trivial) (by omega) m2 hR1 (pz_cap1 (by omega) (by omega)) (fun f hf => to36 f hf)
    intro k
    induction k with
    | zero => exact fun j hj => one j (by omega) (fun q => absurd q (by omega))
    | succ k ih => exact fun j hj => one j (by omega) (fun _ => ih (j + 1) (by omega))
  refine pz_seg (k0 := 0) (nt_k4.2 a ha) l6 F hl (show lt_all 0 [] from trivial) (by omega) hW hR (fun q hq => by cases hq) (fun f hf r' ad' x1 x2 H' locs' ls' st' hR' => ?_)
  obtain ⟨e1, e2, e3, r2, hR2, u1, u2⟩ := pz_to_ok hf x2 hR'
  rw [e1, e2, e3]
  have v1 : ∀ t, 1 ≤ t → t < 44 → r2 t = r0 t := fun t h1 h2 => (pz_un x1 u1 t h1 h2).trans (hx1 t h1 h2)
  refine p1 6 0 rfl ws g r2 H' locs' ls' st' pz_sm.rf hW ⟨rfl, fun _ => v1, fun q => ?_, pz_fx.al v1⟩ hR2
  obtain ⟨y1, y2, y3⟩ := hPre q
  have e14 := v1 14 (by omega) (by omega)
  have e12 := v1 12 (by omega) (by omega)
  have e17 := v1 17 (by omega) (by omega)
  exact ⟨by omega, pz_I_cg y2 v1, by omega, by omega⟩
end NT
