/-! THE PARSER: an operand, and while an operator follows another one: the walk for all of them -/
noncomputable def pz_XP (b : Bool) : pz_Pre := fun r _ => r 14 = 0 → b = true ∧ pz_I r ∧ r 17 ≤ 2 * r 12
/-- numbers that the parser changes -/
noncomputable def pz_tc (t : Nat) : Bool := [7, 9, 10, 11, 12, 13, 14, 15, 17].elem t
noncomputable def pz_fx (r r' : Nat → Int) : Prop := ∀ t, 1 ≤ t → t < 44 → pz_tc t = false → r' t = r t
theorem pz_fx.rf {r : Nat → Int} : pz_fx r r := fun _ _ _ _ => rfl
theorem pz_fx.tr {a b c : Nat → Int} (h : pz_fx a b) (g : pz_fx b c) : pz_fx a c := fun t h1 h2 h3 => (g t h1 h2 h3).trans (h t h1 h2 h3)
theorem pz_fx.al {r r' : Nat → Int} (h : ∀ t, 1 ≤ t → t < 44 → r' t = r t) : pz_fx r r' := fun t h1 h2 _ => h t h1 h2
theorem pz_fx.cg {r0 r r3 : Nat → Int} (h : pz_fx r0 r) (hc : ∀ t, 1 ≤ t → t < 44 → r3 t = r t) : pz_fx r0 r3 := h.tr (pz_fx.al hc)
theorem pz_tc_n {t : Nat} (h : pz_tc t = false) : ¬ (t = 7 ∨ t = 9 ∨ t = 10 ∨ t = 11 ∨ t = 12 ∨ t = 13 ∨ t = 14 ∨ t = 15 ∨ t = 17) := fun q => by
  rcases q with rfl | rfl | rfl | rfl | rfl | rfl | rfl | rfl | rfl <;> exact absurd h (by decide)
theorem pz_fx.sq {r r' : Nat → Int} {g g' : Nat → Int32} (h : sq_Post r g r' g') : pz_fx r r' := fun t h1 h2 h3 => h.2.1 t h1 h2 (by
  cases q : sq_ch t with
  | false => rfl
  | true =>
    have q : [7, 9, 10, 11, 12, 13].elem t = true := q
    have := List.elem_iff.mp q
    simp only [List.mem_cons, List.not_mem_nil, or_false] at this
    exact absurd (by omega) (pz_tc_n h3))
theorem pz_fx.em {v : Int} {r r' : Nat → Int} {g g' : Nat → Int32} (h : em_Post v r g r' g') : pz_fx r r' := fun t h1 h2 h3 => by
  have n3 := pz_tc_n h3
  by_cases q : r 14 = 0
  · exact (h.2 q).1 t h1 h2 (by omega)
  · exact (h.1 q).1 t h1 h2
noncomputable def pz_X (M : Nat) : pz_Post := fun r g r' g' => (r 14 ≠ 0 → (∀ t, 1 ≤ t → t < 44 → r' t = r t) ∧ g' = g) ∧ (r 14 = 0 → ((∀ q, q < 1600 + (r 17).toNat → g' q = g q) ∧ pz_fx r r') ∧ (r' 14 = 0 → pz_I r' ∧ r 17 ≤ r' 17 ∧ r' 17 + 2 * r 12 ≤ r 17 + 2 * r' 12 ∧ r 12 < r' 12 ∧ pz_V g' (r 17).toNat (r' 17).toNat M))
theorem pz_I_cg {r r3 : Nat → Int} (h : pz_I r) (hc : ∀ t, 1 ≤ t → t < 44 → r3 t = r t) : pz_I r3 := by
  obtain ⟨h1, h2, h3, h4, h5⟩ := h
  have e7 := hc 7 (by omega) (by omega)
  have e9 := hc 9 (by omega) (by omega)
  have e12 := hc 12 (by omega) (by omega)
  have e13 := hc 13 (by omega) (by omega)
  exact ⟨by omega, by omega, by omega, by omega, fun q => by have := h5 (by omega); omega⟩
theorem pz_X_cg {M : Nat} {r0 r r3 : Nat → Int} {g0 g : Nat → Int32} (h : pz_X M r0 g0 r g) (hc : ∀ t, 1 ≤ t → t < 44 → r3 t = r t) : pz_X M r0 g0 r3 g := by
  refine ⟨fun q => ⟨fun t h1 h2 => (hc t h1 h2).trans ((h.1 q).1 t h1 h2), (h.1 q).2⟩, fun q => ⟨⟨(h.2 q).1.1, (h.2 q).1.2.cg hc⟩, fun q2 => ?_⟩⟩
  have e14 := hc 14 (by omega) (by omega)
  have e12 := hc 12 (by omega) (by omega)
  have e17 := hc 17 (by omega) (by omega)
  obtain ⟨a1, a2, a3, a4, a5⟩ := (h.2 q).2 (by omega)
  exact ⟨pz_I_cg a1 hc, by omega, by omega, by omega, by rw [e17]; exact a5⟩
theorem pz_X.mono {M M' : Nat} {r0 r : Nat → Int} {g0 g : Nat → Int32} (h : pz_X M r0 g0 r g) (hM : M ≤ M') : pz_X M' r0 g0 r g := ⟨h.1, fun q => ⟨(h.2 q).1, fun q2 => by
  obtain ⟨a1, a2, a3, a4, a5⟩ := (h.2 q).2 q2
  exact ⟨a1, a2, a3, a4, a5.mono hM⟩⟩⟩
theorem pz_mixv {r' r : Nat → Int} {t : Nat} (ht : t < 44) : pz_mix r' r t = r' t := pz_mix_lo t ht
/-- a binary operator behind two values -/
theorem pz_X_bin {M M' : Nat} {r0 r r2 r4 r5 : Nat → Int} {g0 g g4 g5 : Nat → Int32} {op : Int} (h0 : r0 14 = 0) (hp : r0 17 ≤ 2 * r0 12) (b17 : 0 ≤ r0 17) (hI : pz_X M r0 g0 r g) (h14 : r 14 = 0) (h9 : r 9 ≠ 0) (e14 : r2 14 = r 14) (e17 : r2 17 = r 17) (hI2 : pz_I r2) (e12 : r 7 ≤ r2 12) (efx : pz_fx r r2) (hX : pz_X M' r2 g r4 g4) (hE : em_Post op r4 g4 r5 g5) (ho : 1 ≤ op ∧ op ≤ 8) (hM : M' + 1 ≤ M) (hM2 : 2 ≤ M) : pz_X M r0 g0 r5 g5 ∧ (r5 14 = 0 → r 12 < r5 12) ∧ (r2 14 = 0 → pz_I r2 ∧ r2 17 ≤ 2 * r2 12) ∧ (r4 14 = 0 → r4 17 ≤ 399) := by
  obtain ⟨⟨k1, kf⟩, k2⟩ := hI.2 h0
  obtain ⟨a1, a2, a3, a4, a5⟩ := k2 h14
  obtain ⟨j1, j2, j3, j4, j5⟩ := a1
  have j5 := j5 h9
  have h14' : r2 14 = 0 := by omega
  obtain ⟨⟨x1, xf⟩, x2⟩ := hX.2 h14'
  have ff : pz_fx r0 r5 := ((kf.tr efx).tr xf).tr (pz_fx.em hE)
  obtain ⟨s1, s2, s3, s4, s5⟩ := hI2
  have c17 : (r 17).toNat ≥ (r0 17).toNat := by omega
  have x1' : ∀ q, q < 1600 + (r0 17).toNat → g4 q = g0 q := fun q hq => (x1 q (by rw [e17]; omega)).trans (k1 q hq)
  refine ⟨⟨fun q => absurd h0 q, fun _ => ?_⟩, ?_, fun _ => ⟨⟨s1, s2, s3, s4, s5⟩, by omega⟩, fun q => ?_⟩
  · by_cases q4 : r4 14 = 0
    · obtain ⟨y1, y2, y3, y4, y5⟩ := x2 q4
      obtain ⟨z1, z2, z3, z4⟩ := hE.2 q4
      refine ⟨⟨fun q hq => (z4 q (by omega)).trans (x1' q hq), ff⟩, fun _ => ⟨⟨?_, ?_, ?_, ?_, ?_⟩, by omega, ?_, ?_, ?_⟩⟩
      · rw [z1 7 (by omega) (by omega) (by omega), z1 13 (by omega) (by omega) (by omega)]; exact y1.1
      · rw [z1 12 (by omega) (by omega) (by omega)]; exact y1.2.1
      · rw [z1 12 (by omega) (by omega) (by omega), z1 13 (by omega) (by omega) (by omega)]; exact y1.2.2.1
      · rw [z1 13 (by omega) (by omega) (by omega)]; exact y1.2.2.2.1
      · rw [z1 12 (by omega) (by omega) (by omega), z1 13 (by omega) (by omega) (by omega), z1 9 (by omega) (by omega) (by omega)]; exact y1.2.2.2.2
      · have := z1 12 (by omega) (by omega) (by omega)
        omega
      · have := z1 12 (by omega) (by omega) (by omega)
        omega
      · have e5 : (r5 17).toNat = (r4 17).toNat + 1 := by omega
        rw [e5]
        have v1 : pz_V g5 (r0 17).toNat (r 17).toNat M := a5.tr (fun q hq => (z4 q (by omega)).trans (x1 q (by rw [e17]; exact hq)))
        have v2 : pz_V g5 (r 17).toNat (r4 17).toNat M' := by
          rw [← e17]
          exact y5.tr (fun q hq => z4 q (by omega))
        exact pz_V_bin v1 v2 (Nat.le_refl _) hM hM2 (by rw [z3]; exact ho)
    · obtain ⟨z1, z2⟩ := hE.1 q4
      refine ⟨⟨fun q hq => by rw [z2]; exact x1' q hq, ff⟩, fun q5 => absurd ?_ q4⟩
      rw [← z1 14 (by omega) (by omega)]
      exact q5
  · intro q5
    by_cases q4 : r4 14 = 0
    · obtain ⟨y1, y2, y3, y4, y5⟩ := x2 q4
      have := (hE.2 q4).1 12 (by omega) (by omega) (by omega)
      omega
    · exact absurd (by rw [← (hE.1 q4).1 14 (by omega) (by omega)]; exact q5) q4
  · obtain ⟨y1, y2, y3, y4, y5⟩ := x2 q
    obtain ⟨u1, u2, u3, u4, u5⟩ := y1
    omega
/-! the walk -/
noncomputable def pz_us (L : List ai_V) : List ai_V := L.map (fun _ => pz_u)
noncomputable def pz_lc (ps pr : Nat) (L : List ai_V) (opts : List (List ai_V × Int)) (f : ai_F) : Bool := pz_to [] pr (pz_us L) [] [] f || opts.any (fun q => pz_to [] ps q.1 [pz_this] [] f)
noncomputable def pz_lk (T : List (Nat × us_C)) (mi mu hd ps pu pe pr : Nat) (a : Int) (L : List ai_V) (opts : List (List ai_V × Int)) : Bool :=
  pz_sc [] mi [ps, pr] true hd L [] [] [(14, (1, 3))] (pz_to [] pr (pz_us L) [] []) && (pz_sc [] mi [ps, pr] true hd L [] [] [(14, (0, 0)), (9, (0, 0))] (pz_to [] pr (pz_us L) [] []) && (pz_sc T mi [ps, pr] true hd L [] [] [(14, (0, 0)), (9, (1, 1))] (pz_lc ps pr L opts) && (pz_sc [] mi [ps, pr] true hd L [] [] [(14, (0, 0)), (9, (2, 4))] (pz_lc ps pr L opts) &&
  (pz_ck mi ps 188 [pz_this] [pz_this] [] && (pz_ck mi pu mu [.inl (0, a), pz_this] [pz_this, .inl (0, a)] [] && (opts.all (fun q => pz_sc [] mi [pu] false (ps + 3) q.1 [] [] [] (pz_to [] pu q.1 [.inl (0, a), pz_this] []) && (pz_sc [] mi [pe] false (pu + 3) q.1 [] [] [] (pz_to [] pe q.1 [.inl (0, q.2), pz_this] []) && (pz_ck mi pe 194 [.inl (0, q.2), pz_this] [pz_this, .inl (0, q.2)] [] && (pz_sc [] mi [hd] false (pe + 3) q.1 [] [] [] (pz_to [] hd L [] []) && (q.1.all pz_lv && (ai_le 1 q.2 && ai_le q.2 8)))))) && L.all pz_lv))))))
section PL
variable {p : Program} {l : Launch} {e : Env} {s : State} {m : MethodId} {args : Array Value} {below : List Frame} {meth : Method} {c : Code}
variable {D : va_G} {tyc : Nat → ClassId} {A : Nat → Prop} {sa : ai_B} {ws0 : va_W} {g0 : Nat → Int32} {r0 : Nat → Int} {ad : Nat → Nat}
variable {T : List (Nat × us_C)} {k0 n mi mu hd ps pu pe pr M M' : Nat} {a : Int} {L : List ai_V} {opts : List (List ai_V × Int)} {vs : List Int32}
abbrev pz_Q (below : List Frame) (D : va_G) (tyc : Nat → ClassId) (A : Nat → Prop) (sa : ai_B) (ws0 : va_W) (r0 : Nat → Int) (g0 : Nat → Int32) (ad : Nat → Nat) (args : Array Value) (s : State) (n mi : Nat) (Post : pz_Post) : State → Prop := vx_MQ below (fun _ st o t => ∃ (res : Option Int32) (ws' : va_W) (g' : Nat → Int32) (r' : Nat → Int), o = .returned (res.map Value.int) ∧ res.isSome = false ∧ pz_sm ws0 ws' ∧ pz_W tyc ws' g' ∧ ai_Wd D tyc A sa ws' r' ad (pz_E, pz_h, 0, 0) t.heap ∧ Post r0 g0 r' g' ∧ va_F A st t) (fun _ _ _ => False) args s (lt_rm (n + 1) mi).cells (lt_rm (n + 1) mi).slots A
theorem pz_un {r r' : Nat → Int} (h : ai_ext 44 r r') {r2 : Nat → Int} (u : ∀ t, 1 ≤ t → t < 44 → ([] : List (Nat × ai_X)).all (fun q => !(Nat.beq q.1 t)) = true → r2 t = r' t) : ∀ t, 1 ≤ t → t < 44 → r2 t = r t := fun t h1 h2 => (u t h1 h2 rfl).trans (h t h2)
set_option maxHeartbeats 2000000 in
theorem pz_loop (hlk : pz_lk T mi mu hd ps pu pe pr a L opts = true) (hpl : ls_plain mi = true) (hplu : ls_plain mu = true) (hmu : mu < 1000) (hbu : ct_bud mu = (0, 0)) (hv : (ct_mt mi).2.2.2.1 = none) (hdg : decode (ct_mt mi).2.1 pr = .ok (.return_, 1)) (F : ls_Fr p (lt_rm (n + 1) mi) s m args meth c D tyc A sa mi) (hl : l.stackTraces = false) (hret : meth.sig.returnType = (ct_mt mi).2.2.2.1) (hT : lt_all k0 T) (hk : k0 + 4 ≤ n) (hn : 45 ≤ n)
    (hsub : ∀ vs : List Int32, vs.map Int32.toInt = [a] → pz_Ct n mu false vs (pz_XP true) (pz_X M')) (hM : M' + 1 ≤ M) (hM2 : 2 ≤ M) (h0 : r0 14 = 0) (hp : r0 17 ≤ 2 * r0 12) (b17 : 0 ≤ r0 17) :
    ∀ (k : Nat) (ws : va_W) (g : Nat → Int32) (r : Nat → Int) (H : Heap) (locs : List Loc) (ls : Array Slot) (st : List Value), pz_sm ws0 ws → pz_W tyc ws g → pz_X M r0 g0 r g → (r 14 = 0 → 200 ≤ r 12 + k) → ai_Rel D tyc A s sa ws (ct_mt mi).2.2.1 r ad L [] (pz_G []) H locs ls st →
      W p l e (lt_rm (n + 1) mi) s m args below meth c H locs 0 0 (pz_Q below D tyc A sa ws0 r0 g0 ad args s n mi (pz_X M)) (F0 m hd ls st) := by
  unfold pz_lk at hlk
  simp only [Bool.and_eq_true] at hlk
  obtain ⟨c0, c1, c2, c3, ck1, ck2, hops, hLl⟩ := hlk
  intro k
  induction k with
  | zero =>
    intro ws g r H locs ls st hsm hW hI hk0 hR
    have hb := pz_bd (nb := []) hR.env
    by_cases h14 : r 14 = 0
    · have j := (hI.2 h0).2 h14
      have h9 : r 9 = 0 := by
        by_cases q : r 9 = 0
        · exact q
        · have h1 := j.1.2.2.2.2 q
          have h2 := j.1.2.2.2.1
          have h3 := hk0 h14
          omega
      refine pz_seg (k0 := 0) c1 hpl F hl (show lt_all 0 [] from trivial) (by omega) hW hR (fun q hq => ?_) (fun f hf r' ad' x1 x2 H' locs' ls' st' hR' => ?_)
      · rcases List.mem_cons.mp hq with rfl | hq
        · exact ⟨by show 14 < 44; omega, by show (0 : Int) ≤ r 14; omega, by show r 14 ≤ (0 : Int); omega⟩
        · rcases List.mem_cons.mp hq with rfl | hq
          · exact ⟨by show 9 < 44; omega, by show (0 : Int) ≤ r 9; omega, by show r 9 ≤ (0 : Int); omega⟩
          · cases hq
      · obtain ⟨e1, e2, e3, r3, hR3, u1, u2⟩ := pz_to_ok hf x2 hR'
        rw [e1, e2, e3]
        exact pz_ret rfl F hret hdg hv hsm hW hR3 (pz_X_cg hI (pz_un x1 u1))
    · refine pz_seg (k0 := 0) c0 hpl F hl (show lt_all 0 [] from trivial) (by omega) hW hR (fun q hq => ?_) (fun f hf r' ad' x1 x2 H' locs' ls' st' hR' => ?_)
      · rcases List.mem_cons.mp hq with rfl | hq
        · exact ⟨by show 14 < 44; omega, by show (1 : Int) ≤ r 14; omega, by show r 14 ≤ (3 : Int); omega⟩
        · cases hq
      · obtain ⟨e1, e2, e3, r3, hR3, u1, u2⟩ := pz_to_ok hf x2 hR'
        rw [e1, e2, e3]
        exact pz_ret rfl F hret hdg hv hsm hW hR3 (pz_X_cg hI (pz_un x1 u1))
  | succ k ih =>
    intro ws g r H locs ls st hsm hW hI hk0 hR
    have hb := pz_bd (nb := []) hR.env
    by_cases h14 : r 14 = 0
    · -- what is done where an operator stands
      have go : ∀ f : ai_F, (∃ q ∈ opts, pz_to [] ps q.1 [pz_this] [] f = true) → r 9 ≠ 0 → ∀ (r' : Nat → Int) (ad' : Nat → Nat), ai_ext 44 r r' → ai_ext 336 ad ad' → ∀ (H' : Heap) (locs' : List Loc) (ls' : Array Slot) (st' : List Value), ai_Rel D tyc A s sa ws (ct_mt mi).2.2.1 r' ad' f.2.1 f.2.2.1 f.2.2.2 H' locs' ls' st' → W p l e (lt_rm (n + 1) mi) s m args below meth c H' locs' f.2.2.2.2.2.1 f.2.2.2.2.2.2 (pz_Q below D tyc A sa ws0 r0 g0 ad args s n mi (pz_X M)) (F0 m f.1 ls' st') := fun f ⟨q, hq, hf⟩ h9 r' ad' x1 x2 H' locs' ls' st' hR' => by
        have hq' := List.all_eq_true.mp hops q hq
        simp only [Bool.and_eq_true] at hq'
        obtain ⟨o1, o2, o3, o4, o5, o6, o7⟩ := hq'
        obtain ⟨e1, e2, e3, r1, hR1, u1, u2⟩ := pz_to_ok hf x2 hR'
        rw [e1, e2, e3]
        have v1 := pz_un x1 u1
        -- step
        refine pz_callv (xs := []) hpl em_k.2.1 (by omega) em_k.2.2.2.1 F hl ck1 hW hR1 o5 rfl (fun vs hvs => ?_) trivial (Pre := fun _ _ => True) (Post := sq_Post) (fun ws2 g2 r2' H2 locs2 st2 m1 m2 m3 hR2 => ?_)
        · have : vs = [] := List.map_eq_nil_iff.mp hvs
          rw [this]
          exact pz_step.mono (by omega)
        · have sf := pz_fx.sq m3
          obtain ⟨s1, s2, s3, s4⟩ := m3
          rw [s1] at m2
          have w : ∀ t, t < 44 → pz_mix r2' r1 t = r2' t := fun t ht => pz_mixv ht
          refine pz_seg (k0 := 0) o1 hpl F hl (show lt_all 0 [] from trivial) (by omega) m2 hR2 (fun q hq => by cases hq) (fun f2 hf2 r3' ad3 y1 y2 H3 locs3 ls3 st3 hR3' => ?_)
          obtain ⟨e1, e2, e3, r3, hR3, u3, u4⟩ := pz_to_ok hf2 y2 hR3'
          rw [e1, e2, e3]
          have v3 : ∀ t, 1 ≤ t → t < 44 → r3 t = r2' t := fun t h1 h2 => (pz_un y1 u3 t h1 h2).trans (w t h2)
          have e14 : r3 14 = r 14 := by rw [v3 14 (by omega) (by omega), s2 14 (by omega) (by omega) rfl, v1 14 (by omega) (by omega)]
          have e17 : r3 17 = r 17 := by rw [v3 17 (by omega) (by omega), s2 17 (by omega) (by omega) rfl, v1 17 (by omega) (by omega)]
          have eI : pz_I r3 := pz_I_cg s3 v3
          have e12 : r 7 ≤ r3 12 := by
            rw [v3 12 (by omega) (by omega), ← v1 7 (by omega) (by omega)]
            exact s4
          have jj := (hI.2 h0).2 h14
          have hpre : pz_XP true r3 g := fun _ => ⟨rfl, eI, by
            obtain ⟨i1, i2, i3, i4, i5⟩ := jj.1
            have := i5 h9
            omega⟩
          refine pz_callv (xs := [(0, a)]) hpl hplu hmu hbu F hl ck2 m2 hR3 o5 rfl (fun vs hvs => ?_) hpre (Pre := pz_XP true) (Post := pz_X M') (fun ws4 g4 r4' H4 locs4 st4 n1 n2 n3 hR4 => ?_)
          · refine hsub vs (hvs.trans ?_)
            show [ai_vx r3 (0, a)] = [a]
            have : ai_vx r3 (0, a) = a := by
              show r3 0 + a = a
              rw [hR3.env.1]
              omega
            rw [this]
          · have w4 : ∀ t, t < 44 → pz_mix r4' r3 t = r4' t := fun t ht => pz_mixv ht
            refine pz_seg (k0 := 0) o2 hpl F hl (show lt_all 0 [] from trivial) (by omega) n2 hR4 (fun q hq => by cases hq) (fun f5 hf5 r5' ad5 z1 z2 H5 locs5 ls5 st5 hR5' => ?_)
            obtain ⟨e1, e2, e3, r5, hR5, u5, u6⟩ := pz_to_ok hf5 z2 hR5'
            rw [e1, e2, e3]
            have v5 : ∀ t, 1 ≤ t → t < 44 → r5 t = r4' t := fun t h1 h2 => (pz_un z1 u5 t h1 h2).trans (w4 t h2)
            have n3' : pz_X M' r3 g r5 g4 := pz_X_cg n3 v5
            have hop : ai_vx r5 (0, q.2) = q.2 := by
              show r5 0 + q.2 = q.2
              rw [hR5.env.1]
              omega
            have pre6 : em_Pre r5 g4 := fun q14 => by
              obtain ⟨y1, y2, y3, y4, y5⟩ := (n3'.2 (by omega)).2 q14
              obtain ⟨i1, i2, i3, i4, i5⟩ := jj.1
              obtain ⟨u1, u2, u3, u4, u5⟩ := y1
              have := i5 h9
              omega
            refine pz_callv (xs := [(0, q.2)]) hpl em_k.1 (by omega) em_k.2.2.1 F hl o3 n2 hR5 o5 rfl (fun vs hvs => ?_) pre6 (Pre := em_Pre) (Post := em_Post q.2) (fun ws6 g6 r6' H6 locs6 st6 t1 t2 t3 hR6 => ?_)
            · have hvs : vs.map Int32.toInt = [ai_vx r5 (0, q.2)] := hvs
              rw [hop] at hvs
              obtain ⟨v, l', rfl, h1, h2⟩ := List.map_eq_cons_iff.mp hvs
              have h2 := List.map_eq_nil_iff.mp h2
              subst h2
              rw [← h1]
              exact (pz_emit v).mono (by omega)
            · have w6 : ∀ t, t < 44 → pz_mix r6' r5 t = r6' t := fun t ht => pz_mixv ht
              refine pz_seg (k0 := 0) o4 hpl F hl (show lt_all 0 [] from trivial) (by omega) t2 hR6 (fun q hq => by cases hq) (fun f7 hf7 r7' ad7 a1 a2 H7 locs7 ls7 st7 hR7' => ?_)
              obtain ⟨e1, e2, e3, r7, hR7, u7, u8⟩ := pz_to_ok hf7 a2 hR7'
              rw [e1, e2, e3]
              have v7 : ∀ t, 1 ≤ t → t < 44 → r7 t = r6' t := fun t h1 h2 => (pz_un a1 u7 t h1 h2).trans (w6 t h2)
              have big := pz_X_bin h0 hp b17 hI h14 h9 e14 e17 eI e12 (((pz_fx.al v1).tr sf).cg v3) n3' t3 ⟨ai_le_iff.mp o6, ai_le_iff.mp o7⟩ hM hM2
              refine ih ws6 g6 r7 H7 locs7 ls7 st7 (((hsm.tr m1).tr n1).tr t1) t2 (pz_X_cg big.1 v7) (fun q14 => ?_) hR7
              have := big.2.1 (by rw [← v7 14 (by omega) (by omega)]; exact q14)
              have h3 := hk0 h14
              rw [v7 12 (by omega) (by omega)]
              omega
      have done : ∀ f : ai_F, pz_to [] pr (pz_us L) [] [] f = true → ∀ (r' : Nat → Int) (ad' : Nat → Nat), ai_ext 44 r r' → ai_ext 336 ad ad' → ∀ (H' : Heap) (locs' : List Loc) (ls' : Array Slot) (st' : List Value), ai_Rel D tyc A s sa ws (ct_mt mi).2.2.1 r' ad' f.2.1 f.2.2.1 f.2.2.2 H' locs' ls' st' → W p l e (lt_rm (n + 1) mi) s m args below meth c H' locs' f.2.2.2.2.2.1 f.2.2.2.2.2.2 (pz_Q below D tyc A sa ws0 r0 g0 ad args s n mi (pz_X M)) (F0 m f.1 ls' st') := fun f hf r' ad' x1 x2 H' locs' ls' st' hR' => by
        obtain ⟨e1, e2, e3, r3, hR3, u1, u2⟩ := pz_to_ok hf x2 hR'
        rw [e1, e2, e3]
        exact pz_ret rfl F hret hdg hv hsm hW hR3 (pz_X_cg hI (pz_un x1 u1))
      have both : ∀ f : ai_F, pz_lc ps pr L opts f = true → r 9 ≠ 0 → ∀ (r' : Nat → Int) (ad' : Nat → Nat), ai_ext 44 r r' → ai_ext 336 ad ad' → ∀ (H' : Heap) (locs' : List Loc) (ls' : Array Slot) (st' : List Value), ai_Rel D tyc A s sa ws (ct_mt mi).2.2.1 r' ad' f.2.1 f.2.2.1 f.2.2.2 H' locs' ls' st' → W p l e (lt_rm (n + 1) mi) s m args below meth c H' locs' f.2.2.2.2.2.1 f.2.2.2.2.2.2 (pz_Q below D tyc A sa ws0 r0 g0 ad args s n mi (pz_X M)) (F0 m f.1 ls' st') := fun f hf h9 => by
        unfold pz_lc at hf
        rw [Bool.or_eq_true] at hf
        rcases hf with hf | hf
        · exact done f hf
        · exact go f (List.any_eq_true.mp hf) h9
      have caps : ∀ lo hi : Int, lo ≤ r 9 → r 9 ≤ hi → ∀ q ∈ ([(14, (0, 0)), (9, (lo, hi))] : List (Nat × Int × Int)), q.1 < 44 + ([] : List (Int × Int)).length ∧ q.2.1 ≤ r q.1 ∧ r q.1 ≤ q.2.2 := fun lo hi k1 k2 q hq => by
        rcases List.mem_cons.mp hq with rfl | hq
        · exact ⟨by show 14 < 44; omega, by show (0 : Int) ≤ r 14; omega, by show r 14 ≤ (0 : Int); omega⟩
        · rcases List.mem_cons.mp hq with rfl | hq
          · exact ⟨by show 9 < 44; omega, k1, k2⟩
          · cases hq
      by_cases q0 : r 9 = 0
      · exact pz_seg (k0 := 0) c1 hpl F hl (show lt_all 0 [] from trivial) (by omega) hW hR (caps 0 0 (by omega) (by omega)) (fun f hf => done f hf)
      · by_cases q1 : r 9 = 1
        · exact pz_seg c2 hpl F hl hT hk hW hR (caps 1 1 (by omega) (by omega)) (fun f hf => both f hf q0)
        · exact pz_seg (k0 := 0) c3 hpl F hl (show lt_all 0 [] from trivial) (by omega) hW hR (caps 2 4 (by omega) (by omega)) (fun f hf => both f hf q0)
    · refine pz_seg (k0 := 0) c0 hpl F hl (show lt_all 0 [] from trivial) (by omega) hW hR (fun q hq => ?_) (fun f hf r' ad' x1 x2 H' locs' ls' st' hR' => ?_)
      · rcases List.mem_cons.mp hq with rfl | hq
        · exact ⟨by show 14 < 44; omega, by show (1 : Int) ≤ r 14; omega, by show r 14 ≤ (3 : Int); omega⟩
        · cases hq
      · obtain ⟨e1, e2, e3, r3, hR3, u1, u2⟩ := pz_to_ok hf x2 hR'
        rw [e1, e2, e3]
        exact pz_ret rfl F hret hdg hv hsm hW hR3 (pz_X_cg hI (pz_un x1 u1))
end PL
