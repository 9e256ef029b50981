/-! A CONTRACT OF FEW CELLS among more of them: what it doesn't speak of stays -/
theorem pl_xs {p : Nat × Nat} (h : p ∈ ai_xs) : p.1 + 16 ∈ [286, 288, 289, 290, 47, 53, 59, 65, 287] := by
  unfold ai_xs at h
  simp only [List.mem_cons, List.not_mem_nil, or_false] at h
  rcases h with rfl | rfl | rfl | rfl | rfl <;> simp
noncomputable def pl_ws (Gh : List (Nat × Nat × Nat)) (ws wsB : va_W) : va_W := ws.mapIdx (fun x e => if Gh.any (fun g => Nat.beq g.1 (x + 16)) = true then (wsB[x]?).getD e else e)
theorem pl_ws_no {Gh : List (Nat × Nat × Nat)} {ws wsB : va_W} {x : Nat} (h : ∀ g ∈ Gh, g.1 ≠ x + 16) : (pl_ws Gh ws wsB)[x]? = ws[x]? := by
  unfold pl_ws
  rw [List.getElem?_mapIdx]
  cases ws[x]? with
  | none => rfl
  | some e =>
    show some (if Gh.any (fun g => Nat.beq g.1 (x + 16)) = true then (wsB[x]?).getD e else e) = some e
    rw [if_neg (fun w => by
      obtain ⟨g, hg, w⟩ := List.any_eq_true.mp w
      exact h g hg (Nat.eq_of_beq_eq_true w))]
theorem pl_ws_gh {Gh : List (Nat × Nat × Nat)} {ws wsB : va_W} {x : Nat} {g : Nat × Nat × Nat} (hg : g ∈ Gh) (h : g.1 = x + 16) {e e' : Nat × va_E} (h1 : ws[x]? = some e) (h2 : wsB[x]? = some e') : (pl_ws Gh ws wsB)[x]? = some e' := by
  unfold pl_ws
  rw [List.getElem?_mapIdx, h1]
  show some (if Gh.any (fun g => Nat.beq g.1 (x + 16)) = true then (wsB[x]?).getD e else e) = some e'
  rw [if_pos (List.any_eq_true.mpr ⟨g, hg, by rw [h]; exact Nat.beq_refl _⟩), h2]
  rfl
noncomputable def pl_b (l : List (Nat × Int × Int)) (q : Nat × Int × Int) : Bool := l.any (fun z => Nat.beq q.1 z.1 && (ai_eq q.2.1 z.2.1 && ai_eq q.2.2 z.2.2))
theorem pl_b_ok {l : List (Nat × Int × Int)} {q : Nat × Int × Int} (h : pl_b l q = true) : q ∈ l := by
  obtain ⟨z, hz, w⟩ := List.any_eq_true.mp h
  simp only [Bool.and_eq_true] at w
  obtain ⟨w1, w2, w3⟩ := w
  have e : q = z := Prod.ext (Nat.eq_of_beq_eq_true w1) (Prod.ext (ai_eq_iff.mp w2) (ai_eq_iff.mp w3))
  rw [e]
  exact hz
noncomputable def pl_gn (Y : pt_Y) : Bool := Y.2.2.1.all (fun g => (Nat.ble 16 g.1 && Nat.blt g.1 336) && (ai_cell Y.2.1 g.1).isNone)
noncomputable def pl_k (Y Y' : pt_Y) (p : Nat → Bool) (k : Nat) : Bool := match ai_cell Y'.2.1 k with
  | none => (ai_cell Y.2.1 k).isNone
  | some d' => match ai_cell Y.2.1 k with
    | some d => hy_qc d d' && gl_cC (fun t => p t || Nat.beq t 0) d
    | none => gl_cC (fun t => !(p t) && Nat.blt t Y'.1.1) d' && Y.2.2.1.all (fun g => !(Nat.beq g.1 k))
noncomputable def pl_ck (Y Y' : pt_Y) (p : Nat → Bool) : Bool := ((Nat.beq Y.1.1 Y'.1.1 && (Y.1.2.1.all (pl_b Y'.1.2.1) && Y'.1.2.1.all (fun q => !(p q.1) || pl_b Y.1.2.1 q))) && (!(p 0) && (List.range 336).all (pl_k Y Y' p))) &&
  ((Y.2.2.1.all (fun g => Y'.2.2.1.any (fun z => decide (g = z))) && Y'.2.2.1.all (fun z => Y.2.2.1.all (fun g => !(Nat.beq g.1 z.1) || decide (g = z)))) && (pl_gn Y' && [286, 288, 289, 290, 47, 53, 59, 65, 287].all (fun q => (ai_cell Y'.2.1 q).isNone)))
noncomputable def pl_Q (Y : pt_Y) (p : Nat → Bool) (Post : (Nat → Int) → (Nat → Nat → Int) → (Nat → Int) → (Nat → Nat → Int) → Option Int → Prop) (r : Nat → Int) (M : Nat → Nat → Int) (rF : Nat → Int) (M3 : Nat → Nat → Int) (v : Option Int) : Prop :=
  ∃ r2 M2, Post r M r2 M2 v ∧ ai_gE r2 Y.1 ∧ (∀ t, p t = true → rF t = r2 t) ∧ (∀ t, p t = false → rF t = r t) ∧ (∀ g ∈ Y.2.2.1, M3 g.1 = M2 g.1) ∧ ∀ z, (∀ g ∈ Y.2.2.1, g.1 ≠ z) → M3 z = M z
set_option maxHeartbeats 2000000 in
theorem pl_met {n mj rt : Nat} {Y Y' : pt_Y} {p : Nat → Bool} {bb : List ai_V} {Pre : (Nat → Int) → (Nat → Nat → Int) → Prop} {Post : (Nat → Int) → (Nat → Nat → Int) → (Nat → Int) → (Nat → Nat → Int) → Option Int → Prop} (hs : pt_sys Y) (hs' : pt_sys Y') (hp : ∀ t, p t = true → t < Y'.1.1) (hck : pl_ck Y Y' p = true) (hMet : pt_Met n mj Y bb Pre Post rt) : pt_Met n mj Y' bb Pre (pl_Q Y p Post) rt := by
  intro l D tyc A sa hl ws r ad H As M hPw hM' hpre hWd hA
  unfold pl_ck at hck
  simp only [Bool.and_eq_true] at hck
  obtain ⟨⟨⟨k1, k2, k3⟩, k4, k5⟩, ⟨k6, k7⟩, k8, k9⟩ := hck
  have k1 := Nat.eq_of_beq_eq_true k1
  have p0 : p 0 = false := by
    cases e : p 0 with
    | false => rfl
    | true =>
      rw [e] at k4
      cases k4
  have h336 : Y.2.1.1 = 336 := by
    have hwf := hs.2
    unfold pt_wf at hwf
    simp only [Bool.and_eq_true] at hwf
    exact Nat.eq_of_beq_eq_true hwf.2.1
  have h336' : Y'.2.1.1 = 336 := by
    have hwf := hs'.2
    unfold pt_wf at hwf
    simp only [Bool.and_eq_true] at hwf
    exact Nat.eq_of_beq_eq_true hwf.2.1
  have em : ∀ {X : pt_Y}, pt_sys X → X.1.2.2 = [] := fun {X} hX => by
    have h := hX.1
    unfold pt_un at h
    rw [Bool.and_eq_true] at h
    exact List.isEmpty_iff.mp h.2
  obtain ⟨ws1, c1, W1, hE', K1, sm1⟩ := gq_of h336' hWd
  have hE : ai_gE r Y.1 := ⟨hE'.1, by rw [k1]; exact hE'.2.1, fun t ht => hE'.2.2.1 t (by rw [← k1]; exact ht), fun q hq => by
    have g := hE'.2.2.2.1 q (pl_b_ok (List.all_eq_true.mp k2 q hq))
    exact ⟨by rw [k1]; exact g.1, g.2⟩, fun q hq => by
    rw [em hs] at hq
    cases hq⟩
  have off : ∀ q ∈ [286, 288, 289, 290, 47, 53, 59, 65, 287], ai_cell Y'.2.1 q = none := fun q hq => Option.isNone_iff_eq_none.mp (List.all_eq_true.mp k9 q hq)
  have hPw1 : ai_Pw tyc ws1 := hPw.same (sm1 270 (by omega) (off 286 (by simp))) (sm1 272 (by omega) (off 288 (by simp))) (sm1 273 (by omega) (off 289 (by simp))) (sm1 274 (by omega) (off 290 (by simp))) (fun p hp => sm1 p.1 (by have := ai_xs_lt hp; omega) (off (p.1 + 16) (pl_xs hp)))
  have g' : ∀ z ∈ Y'.2.2.1, (16 ≤ z.1 ∧ z.1 < 336) ∧ ai_cell Y'.2.1 z.1 = none := fun z hz => by
    have w := List.all_eq_true.mp k8 z hz
    simp only [Bool.and_eq_true] at w
    exact ⟨⟨Nat.le_of_ble_eq_true w.1.1, Nat.le_of_ble_eq_true w.1.2⟩, Option.isNone_iff_eq_none.mp w.2⟩
  have gt : ∀ g ∈ Y.2.2.1, g ∈ Y'.2.2.1 := fun g hg => by
    obtain ⟨z, hz, w⟩ := List.any_eq_true.mp (List.all_eq_true.mp k6 g hg)
    rw [of_decide_eq_true w]
    exact hz
  have gu : ∀ z ∈ Y'.2.2.1, ∀ g ∈ Y.2.2.1, g.1 = z.1 → g = z := fun z hz g hg e => by
    have w := List.all_eq_true.mp (List.all_eq_true.mp k7 z hz) g hg
    rw [Bool.or_eq_true, Bool.not_eq_true'] at w
    rcases w with w | w
    · exact absurd e (Nat.ne_of_beq_eq_false w)
    · exact of_decide_eq_true w
  have smg : ∀ z ∈ Y'.2.2.1, ws1[z.1 - 16]? = ws[z.1 - 16]? := fun z hz => by
    obtain ⟨⟨a1, a2⟩, a3⟩ := g' z hz
    exact sm1 (z.1 - 16) (by omega) (by rw [show z.1 - 16 + 16 = z.1 by omega]; exact a3)
  have hM1' : pt_M tyc Y'.2.2.1 ws1 M := gq_Mmv hM' smg
  have hM1 : pt_M tyc Y.2.2.1 ws1 M := fun g hg => hM1' g (gt g hg)
  have kk : ∀ k, k < 336 → pl_k Y Y' p k = true := fun k hk => List.all_eq_true.mp k5 k (List.mem_range.mpr hk)
  have ysub : ∀ {k d}, k < 336 → ai_cell Y.2.1 k = some d → ai_cell Y'.2.1 k = some d ∧ gl_cC (fun t => p t || Nat.beq t 0) d = true := fun {k d} hk hd => by
    have w := kk k hk
    unfold pl_k at w
    cases e : ai_cell Y'.2.1 k with
    | none =>
      rw [e, hd] at w
      cases w
    | some d' =>
      rw [e, hd] at w
      have w : (hy_qc d d' && gl_cC (fun t => p t || Nat.beq t 0) d) = true := w
      rw [Bool.and_eq_true] at w
      have ed : d = d' := hy_qc_ok _ _ w.1
      subst ed
      exact ⟨rfl, w.2⟩
  have ynone : ∀ {k}, k < 336 → ai_cell Y'.2.1 k = none → ai_cell Y.2.1 k = none := fun {k} hk hn => by
    cases e : ai_cell Y.2.1 k with
    | none => rfl
    | some d =>
      have := (ysub hk e).1
      rw [hn] at this
      cases this
  have hWY : ai_Wd D tyc A sa ws1 r ad (Y.1, Y.2.1, 0, 0) H := gq_to h336 (pt_no16 hs.2) hE W1 (fun k a1 a2 d hd => by
    have w := (K1 k a1 a2 rfl d (ysub a2 hd).1).1
    rw [← k1] at w
    exact w)
  refine sm_imp (hMet l D tyc A sa hl ws1 r ad H As M hPw1 hM1 hpre hWY (by rw [k1]; exact hA)) (fun _ _ q => q) (fun a s0 o t hq => ?_) (fun _ _ _ q => q)
  obtain ⟨v, r2, M2, ws2, hout, hpost, hpw2, hgh2, hM2, hWd2, hF⟩ := hq
  obtain ⟨wsB, c2, W2, hE2, K2, sm2⟩ := gq_of h336 hWd2
  obtain ⟨rF, hrF⟩ : ∃ rF : Nat → Int, rF = fun t => if p t = true then r2 t else r t := ⟨_, rfl⟩
  have f1 : ∀ t, p t = true → rF t = r2 t := fun t ht => by
    rw [hrF]
    exact if_pos ht
  have f0 : ∀ t, p t = false → rF t = r t := fun t ht => by
    rw [hrF]
    exact if_neg (by rw [ht]; decide)
  have hEF : ai_gE rF Y'.1 := ⟨(f0 0 p0).trans hE'.1, hE'.2.1, fun t ht => by
    cases e : p t with
    | true =>
      rw [f1 t e]
      exact hE2.2.2.1 t (by rw [k1]; exact ht)
    | false =>
      rw [f0 t e]
      exact hE'.2.2.1 t ht, fun q hq => by
    have b := hE'.2.2.2.1 q hq
    cases e : p q.1 with
    | true =>
      have w := List.all_eq_true.mp k3 q hq
      rw [e] at w
      have g := hE2.2.2.2.1 q (pl_b_ok w)
      rw [f1 _ e]
      exact ⟨b.1, g.2⟩
    | false =>
      rw [f0 _ e]
      exact b, fun q hq => by
    rw [em hs'] at hq
    cases hq⟩
  -- cells that the small one doesn't have are as they were
  have same : ∀ k, k + 16 < 336 → ai_cell Y.2.1 (k + 16) = none → (∀ g ∈ Y.2.2.1, g.1 ≠ k + 16) → wsB[k]? = ws1[k]? := fun k hk hn hg => (sm2 k hk hn).trans (hgh2 k hg)
  have hWdB : ai_Wd D tyc A sa wsB rF ad (Y'.1, Y'.2.1, 0, 0) t.heap := gq_to h336' (pt_no16 hs'.2) hEF W2 (fun k a1 a2 d' hd' => by
    have w := kk k a2
    unfold pl_k at w
    rw [hd'] at w
    cases e : ai_cell Y.2.1 k with
    | some d =>
      obtain ⟨e1, e2⟩ := ysub a2 e
      rw [hd'] at e1
      cases e1
      obtain ⟨x, x1, x2⟩ := (K2 k a1 a2 rfl d' e).1
      refine ⟨x, x1, gl_cell e2 (fun u hu => ?_) x2⟩
      rw [Bool.or_eq_true] at hu
      rcases hu with hu | hu
      · exact ⟨hp u hu, f1 u hu⟩
      · rw [Nat.eq_of_beq_eq_true hu]
        exact ⟨hE'.2.1, ((f0 0 p0).trans hE'.1).trans hE2.1.symm⟩
    | none =>
      rw [e] at w
      have w : (gl_cC (fun t => !(p t) && Nat.blt t Y'.1.1) d' && Y.2.2.1.all (fun g => !(Nat.beq g.1 k))) = true := w
      rw [Bool.and_eq_true] at w
      obtain ⟨w1, w2⟩ := w
      obtain ⟨x, x1, x2⟩ := (K1 k a1 a2 rfl d' hd').1
      refine ⟨x, ?_, gl_cell w1 (fun u hu => ?_) x2⟩
      · rw [same (k - 16) (by omega) (by rw [show k - 16 + 16 = k by omega]; exact e) (fun g hg => by
          have q := List.all_eq_true.mp w2 g hg
          rw [Bool.not_eq_true'] at q
          have := Nat.ne_of_beq_eq_false q
          omega)]
        exact x1
      · rw [Bool.and_eq_true, Bool.not_eq_true'] at hu
        exact ⟨Nat.le_of_ble_eq_true hu.2, f0 u hu.1⟩)
  obtain ⟨ws3, hws3⟩ : ∃ ws3, ws3 = pl_ws Y.2.2.1 ws wsB := ⟨_, rfl⟩
  have n3 : ∀ x, (∀ g ∈ Y.2.2.1, g.1 ≠ x + 16) → ws3[x]? = ws[x]? := fun x hx => by
    rw [hws3]
    exact pl_ws_no hx
  -- an array of the world has an entry
  have ent : ∀ {wsx : va_W} {Mx : Nat → Nat → Int} {Gh : List (Nat × Nat × Nat)} {g : Nat × Nat × Nat}, pt_M tyc Gh wsx Mx → g ∈ Gh → ∃ x, wsx[g.1 - 16]? = some x := fun {wsx Mx Gh g} h hg => by
    have w := h g hg
    unfold pt_A at w
    split at w
    · obtain ⟨f, ⟨x, hx⟩, -⟩ := w
      exact ⟨_, hx⟩
    · obtain ⟨f, ⟨x, hx⟩, -⟩ := w
      exact ⟨_, hx⟩
  have cellno : ∀ g ∈ Y.2.2.1, ai_cell Y.2.1 g.1 = none := fun g hg => ynone (g' g (gt g hg)).1.2 (g' g (gt g hg)).2
  have sg : ∀ g ∈ Y.2.2.1, ws3[g.1 - 16]? = wsB[g.1 - 16]? ∧ wsB[g.1 - 16]? = ws2[g.1 - 16]? := fun g hg => by
    obtain ⟨⟨a1, a2⟩, -⟩ := g' g (gt g hg)
    have b2 : wsB[g.1 - 16]? = ws2[g.1 - 16]? := sm2 (g.1 - 16) (by omega) (by rw [show g.1 - 16 + 16 = g.1 by omega]; exact cellno g hg)
    obtain ⟨x, hx⟩ := ent hM' (gt g hg)
    obtain ⟨y, hy⟩ := ent hM2 hg
    refine ⟨?_, b2⟩
    rw [hws3, pl_ws_gh hg (by omega) hx (b2.trans hy), b2, hy]
  have s2 : ∀ x, x + 16 < 336 → ai_cell Y'.2.1 (x + 16) = none → ws3[x]? = wsB[x]? := fun x hx hn => by
    by_cases c : ∃ g ∈ Y.2.2.1, g.1 = x + 16
    · obtain ⟨g, hg, e⟩ := c
      have := (sg g hg).1
      rw [show g.1 - 16 = x by omega] at this
      exact this
    · have c' : ∀ g ∈ Y.2.2.1, g.1 ≠ x + 16 := fun g hg e => c ⟨g, hg, e⟩
      rw [n3 x c', same x hx (ynone hx hn) c', sm1 x hx hn]
  refine ⟨v, rF, fun q => if Y.2.2.1.any (fun g => Nat.beq g.1 q) = true then M2 q else M q, ws3, hout, ⟨r2, M2, hpost, hE2, f1, f0, fun g hg => ?_, fun z hz => ?_⟩, ?_, fun x hx => ?_, fun z hz => ?_, ?_, hF⟩
  · show (if Y.2.2.1.any (fun y => Nat.beq y.1 g.1) = true then M2 g.1 else M g.1) = M2 g.1
    rw [if_pos (List.any_eq_true.mpr ⟨g, hg, Nat.beq_refl _⟩)]
  · show (if Y.2.2.1.any (fun y => Nat.beq y.1 z) = true then M2 z else M z) = M z
    rw [if_neg (fun w => by
      obtain ⟨g, hg, w⟩ := List.any_eq_true.mp w
      exact hz g hg (Nat.eq_of_beq_eq_true w))]
  · have key : ∀ q ∈ [286, 288, 289, 290, 47, 53, 59, 65, 287], ws3[q - 16]? = ws2[q - 16]? := fun q hq => by
      have h16 : 16 ≤ q ∧ q < 336 := by
        simp only [List.mem_cons, List.not_mem_nil, or_false] at hq
        omega
      have n := off q hq
      rw [s2 (q - 16) (by omega) (by rw [show q - 16 + 16 = q by omega]; exact n)]
      exact sm2 (q - 16) (by omega) (by rw [show q - 16 + 16 = q by omega]; exact ynone h16.2 n)
    exact hpw2.same (key 286 (by simp)) (key 288 (by simp)) (key 289 (by simp)) (key 290 (by simp)) (fun p hp => key (p.1 + 16) (pl_xs hp))
  · exact n3 x (fun g hg => hx g (gt g hg))
  · by_cases c : ∃ g ∈ Y.2.2.1, g.1 = z.1
    · obtain ⟨g, hg, e⟩ := c
      have eg := gu z hz g hg e
      subst eg
      have w := hM2 g hg
      have e3 : ws3[g.1 - 16]? = ws2[g.1 - 16]? := (sg g hg).1.trans (sg g hg).2
      have w2 : pt_M tyc [g] ws3 M2 := gq_Mmv (ws := ws2) (fun y hy => by
        rcases List.mem_cons.mp hy with rfl | hy
        · exact w
        · cases hy) (fun y hy => by
        rcases List.mem_cons.mp hy with rfl | hy
        · exact e3
        · cases hy)
      have w3 := w2 g List.mem_cons_self
      show pt_A tyc ws3 g.1 g.2.1 g.2.2 (if Y.2.2.1.any (fun y => Nat.beq y.1 g.1) = true then M2 g.1 else M g.1)
      rw [if_pos (List.any_eq_true.mpr ⟨g, hg, Nat.beq_refl _⟩)]
      exact w3
    · have c' : ∀ g ∈ Y.2.2.1, g.1 ≠ z.1 := fun g hg e => c ⟨g, hg, e⟩
      obtain ⟨⟨a1, a2⟩, -⟩ := g' z hz
      have e3 : ws3[z.1 - 16]? = ws[z.1 - 16]? := n3 (z.1 - 16) (fun g hg => by have := c' g hg; omega)
      have w2 : pt_M tyc [z] ws3 M := gq_Mmv (ws := ws) (fun y hy => by
        rcases List.mem_cons.mp hy with rfl | hy
        · exact hM' y hz
        · cases hy) (fun y hy => by
        rcases List.mem_cons.mp hy with rfl | hy
        · exact e3
        · cases hy)
      have w3 := w2 z List.mem_cons_self
      show pt_A tyc ws3 z.1 z.2.1 z.2.2 (if Y.2.2.1.any (fun y => Nat.beq y.1 z.1) = true then M2 z.1 else M z.1)
      rw [if_neg (fun w => by
        obtain ⟨g, hg, w⟩ := List.any_eq_true.mp w
        exact c' g hg (Nat.eq_of_beq_eq_true w))]
      exact w3
  · obtain ⟨wsF, hP, hD, hEE, hH, hO, hsa⟩ := hWdB
    refine ⟨wsF, hP, hD, hEE, ⟨hH.1, hH.2.1, hH.2.2.1, fun k hk hn => ?_⟩, hO, hsa⟩
    have hk' : k + 16 < Y'.2.1.1 := hk
    rw [h336'] at hk'
    exact (hH.2.2.2 k hk hn).trans (s2 k hk' hn).symm
